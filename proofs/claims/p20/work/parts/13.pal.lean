/-! palettes and tapes -/
/-- the colours told (bits w): c is one -/
def sp_told (w c : Int) : Bool := decide (0 ≤ c ∧ c < 12) && hz_b w c
def sp_tellable (w c f s : Int) : Bool := (decide (0 ≤ c ∧ c < 12) && !sp_told w c) && (decide (f = -1 ∧ s = -1) || ((sp_told w f && sp_told w s) && decide (f ≠ s ∧ f < c ∧ s < c)))
theorem sp_told_in {w c : Int} (h : sp_told w c = true) : 0 ≤ c ∧ c < 12 := by
  unfold sp_told at h
  simp at h
  exact h.1
section PAL
variable {sc : List Int32} {t : hy_T}
theorem c_P_isTold {c : Int} : hy_Ct sc hm_P_isTold 1 [.inr (some 5), .inl c] t (hy_e (some (hy_b (sp_told (t 5 2) c))) t) := by
  refine hy_mk_ct ok_P_isTold ck_P_isTold (Nat.le_of_ble_eq_true rfl) ?_
  refine hy_iload (i := 0) rfl rfl ?_
  refine hy_const (i := 1) rfl (by decide) ?_
  refine hy_cS2e (i := 2) rfl (by decide) mj_W_isAmong (by decide) rfl (Nat.le_of_ble_eq_true rfl) (c_W_isAmong) ?_
  refine hy_ib_eq (i := 3) (tt := 12) rfl (fun zc1 => ?_) (fun zc1 => ?_)
  · refine hy_const (i := 12) rfl (by decide) ?_
    refine hy_zreturn (i := 13) rfl rfl (by first | decide | exact hy_b01 _) ?_
    exact ⟨congrArg some (by simp_all [hy_b, sp_told]; try (intros; omega)), rfl⟩
  · refine hy_aload (i := 4) rfl rfl ?_
    refine hy_get (i := 5) (fk := 2) rfl rfl rfl ?_
    refine hy_iload (i := 6) rfl rfl ?_
    refine hy_cS2e (i := 7) rfl (by decide) mj_W_bit (by decide) rfl (Nat.le_of_ble_eq_true rfl) (c_W_bit) ?_
    refine hy_const (i := 8) rfl (by decide) ?_
    refine hy_icb_ne (i := 9) (tt := 12) rfl (fun zc2 => ?_) (fun zc2 => ?_)
    · refine hy_const (i := 12) rfl (by decide) ?_
      refine hy_zreturn (i := 13) rfl rfl (by first | decide | exact hy_b01 _) ?_
      exact ⟨congrArg some (by simp_all [hy_b, sp_told]; try (intros; omega)), rfl⟩
    · refine hy_const (i := 10) rfl (by decide) ?_
      refine hy_goto (i := 11) (tt := 13) rfl ?_
      refine hy_zreturn (i := 13) rfl rfl (by first | decide | exact hy_b01 _) ?_
      exact ⟨congrArg some (by simp_all [hy_b, sp_told]; try (intros; omega)), rfl⟩
theorem c_P_isMixed {c : Int} : hy_Ct sc hm_P_isMixed 1 [.inr (some 5), .inl c] t (hy_e (some (hy_b (sp_told (t 5 3) c))) t) := by
  refine hy_mk_ct ok_P_isMixed ck_P_isMixed (Nat.le_of_ble_eq_true rfl) ?_
  refine hy_iload (i := 0) rfl rfl ?_
  refine hy_const (i := 1) rfl (by decide) ?_
  refine hy_cS2e (i := 2) rfl (by decide) mj_W_isAmong (by decide) rfl (Nat.le_of_ble_eq_true rfl) (c_W_isAmong) ?_
  refine hy_ib_eq (i := 3) (tt := 12) rfl (fun zc1 => ?_) (fun zc1 => ?_)
  · refine hy_const (i := 12) rfl (by decide) ?_
    refine hy_zreturn (i := 13) rfl rfl (by first | decide | exact hy_b01 _) ?_
    exact ⟨congrArg some (by simp_all [hy_b, sp_told]; try (intros; omega)), rfl⟩
  · refine hy_aload (i := 4) rfl rfl ?_
    refine hy_get (i := 5) (fk := 3) rfl rfl rfl ?_
    refine hy_iload (i := 6) rfl rfl ?_
    refine hy_cS2e (i := 7) rfl (by decide) mj_W_bit (by decide) rfl (Nat.le_of_ble_eq_true rfl) (c_W_bit) ?_
    refine hy_const (i := 8) rfl (by decide) ?_
    refine hy_icb_ne (i := 9) (tt := 12) rfl (fun zc2 => ?_) (fun zc2 => ?_)
    · refine hy_const (i := 12) rfl (by decide) ?_
      refine hy_zreturn (i := 13) rfl rfl (by first | decide | exact hy_b01 _) ?_
      exact ⟨congrArg some (by simp_all [hy_b, sp_told]; try (intros; omega)), rfl⟩
    · refine hy_const (i := 10) rfl (by decide) ?_
      refine hy_goto (i := 11) (tt := 13) rfl ?_
      refine hy_zreturn (i := 13) rfl rfl (by first | decide | exact hy_b01 _) ?_
      exact ⟨congrArg some (by simp_all [hy_b, sp_told]; try (intros; omega)), rfl⟩
theorem c_P_isPlain {c : Int} : hy_Ct sc hm_P_isPlain 2 [.inr (some 5), .inl c] t (hy_e (some (hy_b (sp_told (t 5 2) c && !sp_told (t 5 3) c))) t) := by
  refine hy_mk_ct ok_P_isPlain ck_P_isPlain (Nat.le_of_ble_eq_true rfl) ?_
  refine hy_aload (i := 0) rfl rfl ?_
  refine hy_iload (i := 1) rfl rfl ?_
  refine hy_cV1e (i := 2) rfl mj_P_isTold (by decide) rfl (Nat.le_of_ble_eq_true rfl) rfl rfl rfl (c_P_isTold) ?_
  refine hy_ib_eq (i := 3) (tt := 10) rfl (fun zc1 => ?_) (fun zc1 => ?_)
  · refine hy_const (i := 10) rfl (by decide) ?_
    refine hy_zreturn (i := 11) rfl rfl (by first | decide | exact hy_b01 _) ?_
    exact ⟨congrArg some (by simp_all [hy_b]), rfl⟩
  · refine hy_aload (i := 4) rfl rfl ?_
    refine hy_iload (i := 5) rfl rfl ?_
    refine hy_cV1e (i := 6) rfl mj_P_isMixed (by decide) rfl (Nat.le_of_ble_eq_true rfl) rfl rfl rfl (c_P_isMixed) ?_
    refine hy_ib_ne (i := 7) (tt := 10) rfl (fun zc2 => ?_) (fun zc2 => ?_)
    · refine hy_const (i := 10) rfl (by decide) ?_
      refine hy_zreturn (i := 11) rfl rfl (by first | decide | exact hy_b01 _) ?_
      exact ⟨congrArg some (by simp_all [hy_b]), rfl⟩
    · refine hy_const (i := 8) rfl (by decide) ?_
      refine hy_goto (i := 9) (tt := 11) rfl ?_
      refine hy_zreturn (i := 11) rfl rfl (by first | decide | exact hy_b01 _) ?_
      exact ⟨congrArg some (by simp_all [hy_b]), rfl⟩
theorem c_P_told : hy_Ct sc hm_P_told 0 [.inr (some 5)] t (hy_e (some (t 5 2)) t) := by
  refine hy_mk_ct ok_P_told ck_P_told (Nat.le_of_ble_eq_true rfl) ?_
  refine hy_aload (i := 0) rfl rfl ?_
  refine hy_get (i := 1) (fk := 2) rfl rfl rfl ?_
  refine hy_ireturn (i := 2) rfl rfl ?_
  exact ⟨rfl, rfl⟩
theorem c_P_mixed : hy_Ct sc hm_P_mixed 0 [.inr (some 5)] t (hy_e (some (t 5 3)) t) := by
  refine hy_mk_ct ok_P_mixed ck_P_mixed (Nat.le_of_ble_eq_true rfl) ?_
  refine hy_aload (i := 0) rfl rfl ?_
  refine hy_get (i := 1) (fk := 3) rfl rfl rfl ?_
  refine hy_ireturn (i := 2) rfl rfl ?_
  exact ⟨rfl, rfl⟩
theorem c_P_areTold {w : Int} : hy_Ct sc hm_P_areTold 0 [.inr (some 5), .inl w] t (hy_e (some (hy_b (decide (hz_iand w (hz_ixor (t 5 2) (-1)) = 0)))) t) := by
  refine hy_mk_ct ok_P_areTold ck_P_areTold (Nat.le_of_ble_eq_true rfl) ?_
  refine hy_iload (i := 0) rfl rfl ?_
  refine hy_aload (i := 1) rfl rfl ?_
  refine hy_get (i := 2) (fk := 2) rfl rfl rfl ?_
  refine hy_const (i := 3) rfl (by decide) ?_
  refine hy_ixor (i := 4) rfl ?_
  refine hy_iand (i := 5) rfl ?_
  refine hy_if_ne (i := 6) (tt := 9) rfl (fun zc1 => ?_) (fun zc1 => ?_)
  · refine hy_const (i := 9) rfl (by decide) ?_
    refine hy_zreturn (i := 10) rfl rfl (by first | decide | exact hy_b01 _) ?_
    exact ⟨congrArg some (by simp_all [hy_b]), rfl⟩
  · refine hy_const (i := 7) rfl (by decide) ?_
    refine hy_goto (i := 8) (tt := 10) rfl ?_
    refine hy_zreturn (i := 10) rfl rfl (by first | decide | exact hy_b01 _) ?_
    exact ⟨congrArg some (by simp_all [hy_b]), rfl⟩
theorem c_P_arePlain {w : Int} : hy_Ct sc hm_P_arePlain 0 [.inr (some 5), .inl w] t (hy_e (some (hy_b (decide (hz_iand w (hz_ixor (hz_iand (t 5 2) (hz_ixor (t 5 3) (-1))) (-1)) = 0)))) t) := by
  refine hy_mk_ct ok_P_arePlain ck_P_arePlain (Nat.le_of_ble_eq_true rfl) ?_
  refine hy_iload (i := 0) rfl rfl ?_
  refine hy_aload (i := 1) rfl rfl ?_
  refine hy_get (i := 2) (fk := 2) rfl rfl rfl ?_
  refine hy_aload (i := 3) rfl rfl ?_
  refine hy_get (i := 4) (fk := 3) rfl rfl rfl ?_
  refine hy_const (i := 5) rfl (by decide) ?_
  refine hy_ixor (i := 6) rfl ?_
  refine hy_iand (i := 7) rfl ?_
  refine hy_const (i := 8) rfl (by decide) ?_
  refine hy_ixor (i := 9) rfl ?_
  refine hy_iand (i := 10) rfl ?_
  refine hy_if_ne (i := 11) (tt := 14) rfl (fun zc1 => ?_) (fun zc1 => ?_)
  · refine hy_const (i := 14) rfl (by decide) ?_
    refine hy_zreturn (i := 15) rfl rfl (by first | decide | exact hy_b01 _) ?_
    exact ⟨congrArg some (by simp_all [hy_b]), rfl⟩
  · refine hy_const (i := 12) rfl (by decide) ?_
    refine hy_goto (i := 13) (tt := 15) rfl ?_
    refine hy_zreturn (i := 15) rfl rfl (by first | decide | exact hy_b01 _) ?_
    exact ⟨congrArg some (by simp_all [hy_b]), rfl⟩
theorem c_P_first {c : Int} : hy_Ct sc hm_P_first 2 [.inr (some 5), .inl c] t (hy_e (some (if sp_told (t 5 3) c = true then t 6 c.toNat else 0)) t) := by
  refine hy_mk_ct ok_P_first ck_P_first (Nat.le_of_ble_eq_true rfl) ?_
  refine hy_aload (i := 0) rfl rfl ?_
  refine hy_iload (i := 1) rfl rfl ?_
  refine hy_cV1e (i := 2) rfl mj_P_isMixed (by decide) rfl (Nat.le_of_ble_eq_true rfl) rfl rfl rfl (c_P_isMixed) ?_
  refine hy_ib_eq (i := 3) (tt := 9) rfl (fun zc1 => ?_) (fun zc1 => ?_)
  · refine hy_const (i := 9) rfl (by decide) ?_
    refine hy_ireturn (i := 10) rfl rfl ?_
    exact ⟨congrArg some (by simp_all), rfl⟩
  · refine hy_aload (i := 4) rfl rfl ?_
    refine hy_getr (i := 5) rfl rfl ?_
    refine hy_iload (i := 6) rfl rfl ?_
    refine hy_iald (i := 7) rfl rfl (by have := sp_told_in zc1; omega) rfl ?_
    refine hy_goto (i := 8) (tt := 10) rfl ?_
    refine hy_ireturn (i := 10) rfl rfl ?_
    exact ⟨congrArg some (by simp_all), rfl⟩
theorem c_P_second {c : Int} : hy_Ct sc hm_P_second 2 [.inr (some 5), .inl c] t (hy_e (some (if sp_told (t 5 3) c = true then t 7 c.toNat else 0)) t) := by
  refine hy_mk_ct ok_P_second ck_P_second (Nat.le_of_ble_eq_true rfl) ?_
  refine hy_aload (i := 0) rfl rfl ?_
  refine hy_iload (i := 1) rfl rfl ?_
  refine hy_cV1e (i := 2) rfl mj_P_isMixed (by decide) rfl (Nat.le_of_ble_eq_true rfl) rfl rfl rfl (c_P_isMixed) ?_
  refine hy_ib_eq (i := 3) (tt := 9) rfl (fun zc1 => ?_) (fun zc1 => ?_)
  · refine hy_const (i := 9) rfl (by decide) ?_
    refine hy_ireturn (i := 10) rfl rfl ?_
    exact ⟨congrArg some (by simp_all), rfl⟩
  · refine hy_aload (i := 4) rfl rfl ?_
    refine hy_getr (i := 5) rfl rfl ?_
    refine hy_iload (i := 6) rfl rfl ?_
    refine hy_iald (i := 7) rfl rfl (by have := sp_told_in zc1; omega) rfl ?_
    refine hy_goto (i := 8) (tt := 10) rfl ?_
    refine hy_ireturn (i := 10) rfl rfl ?_
    exact ⟨congrArg some (by simp_all), rfl⟩
theorem c_P_parts {c : Int} (hf : ∀ j : Nat, j < 12 → -1 ≤ t 6 j ∧ t 6 j < 12) (hs : ∀ j : Nat, j < 12 → -1 ≤ t 7 j ∧ t 7 j < 12) : hy_Ct sc hm_P_parts 2 [.inr (some 5), .inl c] t (hy_e (some (if sp_told (t 5 3) c = true then 100 * t 6 c.toNat + t 7 c.toNat else -1)) t) := by
  refine hy_mk_ct ok_P_parts ck_P_parts (Nat.le_of_ble_eq_true rfl) ?_
  refine hy_aload (i := 0) rfl rfl ?_
  refine hy_iload (i := 1) rfl rfl ?_
  refine hy_cV1e (i := 2) rfl mj_P_isMixed (by decide) rfl (Nat.le_of_ble_eq_true rfl) rfl rfl rfl (c_P_isMixed) ?_
  refine hy_ib_eq (i := 3) (tt := 16) rfl (fun zc1 => ?_) (fun zc1 => ?_)
  · refine hy_const (i := 16) rfl (by decide) ?_
    refine hy_ireturn (i := 17) rfl rfl ?_
    exact ⟨congrArg some (by simp_all), rfl⟩
  · refine hy_const (i := 4) rfl (by decide) ?_
    refine hy_aload (i := 5) rfl rfl ?_
    refine hy_getr (i := 6) rfl rfl ?_
    refine hy_iload (i := 7) rfl rfl ?_
    refine hy_iald (i := 8) rfl rfl (by have := sp_told_in zc1; omega) rfl ?_
    refine hy_imul (i := 9) rfl (by have h1 := sp_told_in zc1; have h2 := hf c.toNat (by omega); have h3 := hs c.toNat (by omega); omega) ?_
    refine hy_aload (i := 10) rfl rfl ?_
    refine hy_getr (i := 11) rfl rfl ?_
    refine hy_iload (i := 12) rfl rfl ?_
    refine hy_iald (i := 13) rfl rfl (by have := sp_told_in zc1; omega) rfl ?_
    refine hy_iadd (i := 14) rfl (by have h1 := sp_told_in zc1; have h2 := hf c.toNat (by omega); have h3 := hs c.toNat (by omega); omega) ?_
    refine hy_goto (i := 15) (tt := 17) rfl ?_
    refine hy_ireturn (i := 17) rfl rfl ?_
    exact ⟨congrArg some (by simp_all), rfl⟩
def sp_tellC (t : hy_T) (c f s : Int) : hy_T := if f = -1 ∧ s = -1 then hy_up t 5 2 (hz_ior (t 5 2) (hz_ishl 1 c)) else hy_up (hy_up (hy_up (hy_up t 6 c.toNat f) 7 c.toNat s) 5 3 (hz_ior (t 5 3) (hz_ishl 1 c))) 5 2 (hz_ior (t 5 2) (hz_ishl 1 c))
theorem c_P_tell {c f s : Int} : hy_Ct sc hm_P_tell 2 [.inr (some 5), .inl c, .inl f, .inl s] t (hy_e (some (hy_b (sp_tellable (t 5 2) c f s))) (if sp_tellable (t 5 2) c f s = true then sp_tellC t c f s else t)) := by
  refine hy_mk_ct ok_P_tell ck_P_tell (Nat.le_of_ble_eq_true rfl) ?_
  refine hy_iload (i := 0) rfl rfl ?_
  refine hy_const (i := 1) rfl (by decide) ?_
  refine hy_cS2e (i := 2) rfl (by decide) mj_W_isAmong (by decide) rfl (Nat.le_of_ble_eq_true rfl) (c_W_isAmong) ?_
  refine hy_ib_eq (i := 3) (tt := 8) rfl (fun zc1 => ?_) (fun zc1 => ?_)
  · refine hy_const (i := 8) rfl (by decide) ?_
    refine hy_zreturn (i := 9) rfl rfl (by first | decide | exact hy_b01 _) ?_
    refine ⟨congrArg some ?_, ?_⟩ <;> simp_all [hy_b, sp_tellable, sp_tellC, hy_up] <;> try omega
  · refine hy_aload (i := 4) rfl rfl ?_
    refine hy_iload (i := 5) rfl rfl ?_
    refine hy_cV1e (i := 6) rfl mj_P_isTold (by decide) rfl (Nat.le_of_ble_eq_true rfl) rfl rfl rfl (c_P_isTold) ?_
    refine hy_ib_eq (i := 7) (tt := 10) rfl (fun zc2 => ?_) (fun zc2 => ?_)
    · refine hy_iload (i := 10) rfl rfl ?_
      refine hy_const (i := 11) rfl (by decide) ?_
      refine hy_ic_ne (i := 12) (tt := 16) rfl (fun zc3 => ?_) (fun zc3 => ?_)
      · refine hy_iload (i := 16) rfl rfl ?_
        refine hy_iload (i := 17) rfl rfl ?_
        refine hy_ic_eq (i := 18) (tt := 33) rfl (fun zc4 => ?_) (fun zc4 => ?_)
        · refine hy_const (i := 33) rfl (by decide) ?_
          refine hy_zreturn (i := 34) rfl rfl (by first | decide | exact hy_b01 _) ?_
          refine ⟨congrArg some ?_, ?_⟩ <;> simp_all [hy_b, sp_tellable, sp_tellC, hy_up] <;> try omega
        · refine hy_iload (i := 19) rfl rfl ?_
          refine hy_iload (i := 20) rfl rfl ?_
          refine hy_ic_ge (i := 21) (tt := 33) rfl (fun zc5 => ?_) (fun zc5 => ?_)
          · refine hy_const (i := 33) rfl (by decide) ?_
            refine hy_zreturn (i := 34) rfl rfl (by first | decide | exact hy_b01 _) ?_
            refine ⟨congrArg some ?_, ?_⟩ <;> simp_all [hy_b, sp_tellable, sp_tellC, hy_up] <;> try omega
          · refine hy_iload (i := 22) rfl rfl ?_
            refine hy_iload (i := 23) rfl rfl ?_
            refine hy_ic_ge (i := 24) (tt := 33) rfl (fun zc6 => ?_) (fun zc6 => ?_)
            · refine hy_const (i := 33) rfl (by decide) ?_
              refine hy_zreturn (i := 34) rfl rfl (by first | decide | exact hy_b01 _) ?_
              refine ⟨congrArg some ?_, ?_⟩ <;> simp_all [hy_b, sp_tellable, sp_tellC, hy_up] <;> try omega
            · refine hy_aload (i := 25) rfl rfl ?_
              refine hy_iload (i := 26) rfl rfl ?_
              refine hy_cV1e (i := 27) rfl mj_P_isTold (by decide) rfl (Nat.le_of_ble_eq_true rfl) rfl rfl rfl (c_P_isTold) ?_
              refine hy_ib_eq (i := 28) (tt := 33) rfl (fun zc7 => ?_) (fun zc7 => ?_)
              · refine hy_const (i := 33) rfl (by decide) ?_
                refine hy_zreturn (i := 34) rfl rfl (by first | decide | exact hy_b01 _) ?_
                refine ⟨congrArg some ?_, ?_⟩ <;> simp_all [hy_b, sp_tellable, sp_tellC, hy_up] <;> try omega
              · refine hy_aload (i := 29) rfl rfl ?_
                refine hy_iload (i := 30) rfl rfl ?_
                refine hy_cV1e (i := 31) rfl mj_P_isTold (by decide) rfl (Nat.le_of_ble_eq_true rfl) rfl rfl rfl (c_P_isTold) ?_
                refine hy_ib_ne (i := 32) (tt := 35) rfl (fun zc8 => ?_) (fun zc8 => ?_)
                · refine hy_aload (i := 35) rfl rfl ?_
                  refine hy_getr (i := 36) rfl rfl ?_
                  refine hy_iload (i := 37) rfl rfl ?_
                  refine hy_iload (i := 38) rfl rfl ?_
                  refine hy_iast (i := 39) rfl rfl (by simp at zc1; omega) rfl ?_
                  refine hy_aload (i := 40) rfl rfl ?_
                  refine hy_getr (i := 41) rfl rfl ?_
                  refine hy_iload (i := 42) rfl rfl ?_
                  refine hy_iload (i := 43) rfl rfl ?_
                  refine hy_iast (i := 44) rfl rfl (by simp at zc1; omega) rfl ?_
                  refine hy_aload (i := 45) rfl rfl ?_
                  refine hy_dup (i := 46) rfl ?_
                  refine hy_get (i := 47) (fk := 3) rfl rfl rfl ?_
                  refine hy_const (i := 48) rfl (by decide) ?_
                  refine hy_iload (i := 49) rfl rfl ?_
                  refine hy_ishl (i := 50) rfl ?_
                  refine hy_ior (i := 51) rfl ?_
                  refine hy_put (i := 52) (fk := 3) rfl rfl rfl rfl ?_
                  refine hy_aload (i := 53) rfl rfl ?_
                  refine hy_dup (i := 54) rfl ?_
                  refine hy_get (i := 55) (fk := 2) rfl rfl rfl ?_
                  refine hy_const (i := 56) rfl (by decide) ?_
                  refine hy_iload (i := 57) rfl rfl ?_
                  refine hy_ishl (i := 58) rfl ?_
                  refine hy_ior (i := 59) rfl ?_
                  refine hy_put (i := 60) (fk := 2) rfl rfl rfl rfl ?_
                  refine hy_const (i := 61) rfl (by decide) ?_
                  refine hy_zreturn (i := 62) rfl rfl (by first | decide | exact hy_b01 _) ?_
                  refine ⟨congrArg some ?_, ?_⟩ <;> simp_all [hy_b, sp_tellable, sp_tellC, hy_up] <;> try omega
                · refine hy_const (i := 33) rfl (by decide) ?_
                  refine hy_zreturn (i := 34) rfl rfl (by first | decide | exact hy_b01 _) ?_
                  refine ⟨congrArg some ?_, ?_⟩ <;> simp_all [hy_b, sp_tellable, sp_tellC, hy_up] <;> try omega
      · refine hy_iload (i := 13) rfl rfl ?_
        refine hy_const (i := 14) rfl (by decide) ?_
        refine hy_ic_eq (i := 15) (tt := 53) rfl (fun zc4 => ?_) (fun zc4 => ?_)
        · refine hy_aload (i := 53) rfl rfl ?_
          refine hy_dup (i := 54) rfl ?_
          refine hy_get (i := 55) (fk := 2) rfl rfl rfl ?_
          refine hy_const (i := 56) rfl (by decide) ?_
          refine hy_iload (i := 57) rfl rfl ?_
          refine hy_ishl (i := 58) rfl ?_
          refine hy_ior (i := 59) rfl ?_
          refine hy_put (i := 60) (fk := 2) rfl rfl rfl rfl ?_
          refine hy_const (i := 61) rfl (by decide) ?_
          refine hy_zreturn (i := 62) rfl rfl (by first | decide | exact hy_b01 _) ?_
          refine ⟨congrArg some ?_, ?_⟩ <;> simp_all [hy_b, sp_tellable, sp_tellC, hy_up] <;> try omega
        · refine hy_iload (i := 16) rfl rfl ?_
          refine hy_iload (i := 17) rfl rfl ?_
          refine hy_ic_eq (i := 18) (tt := 33) rfl (fun zc5 => ?_) (fun zc5 => ?_)
          · refine hy_const (i := 33) rfl (by decide) ?_
            refine hy_zreturn (i := 34) rfl rfl (by first | decide | exact hy_b01 _) ?_
            refine ⟨congrArg some ?_, ?_⟩ <;> simp_all [hy_b, sp_tellable, sp_tellC, hy_up] <;> try omega
          · refine hy_iload (i := 19) rfl rfl ?_
            refine hy_iload (i := 20) rfl rfl ?_
            refine hy_ic_ge (i := 21) (tt := 33) rfl (fun zc6 => ?_) (fun zc6 => ?_)
            · refine hy_const (i := 33) rfl (by decide) ?_
              refine hy_zreturn (i := 34) rfl rfl (by first | decide | exact hy_b01 _) ?_
              refine ⟨congrArg some ?_, ?_⟩ <;> simp_all [hy_b, sp_tellable, sp_tellC, hy_up] <;> try omega
            · refine hy_iload (i := 22) rfl rfl ?_
              refine hy_iload (i := 23) rfl rfl ?_
              refine hy_ic_ge (i := 24) (tt := 33) rfl (fun zc7 => ?_) (fun zc7 => ?_)
              · refine hy_const (i := 33) rfl (by decide) ?_
                refine hy_zreturn (i := 34) rfl rfl (by first | decide | exact hy_b01 _) ?_
                refine ⟨congrArg some ?_, ?_⟩ <;> simp_all [hy_b, sp_tellable, sp_tellC, hy_up] <;> try omega
              · refine hy_aload (i := 25) rfl rfl ?_
                refine hy_iload (i := 26) rfl rfl ?_
                refine hy_cV1e (i := 27) rfl mj_P_isTold (by decide) rfl (Nat.le_of_ble_eq_true rfl) rfl rfl rfl (c_P_isTold) ?_
                refine hy_ib_eq (i := 28) (tt := 33) rfl (fun zc8 => ?_) (fun zc8 => ?_)
                · refine hy_const (i := 33) rfl (by decide) ?_
                  refine hy_zreturn (i := 34) rfl rfl (by first | decide | exact hy_b01 _) ?_
                  refine ⟨congrArg some ?_, ?_⟩ <;> simp_all [hy_b, sp_tellable, sp_tellC, hy_up] <;> try omega
                · refine hy_aload (i := 29) rfl rfl ?_
                  refine hy_iload (i := 30) rfl rfl ?_
                  refine hy_cV1e (i := 31) rfl mj_P_isTold (by decide) rfl (Nat.le_of_ble_eq_true rfl) rfl rfl rfl (c_P_isTold) ?_
                  refine hy_ib_ne (i := 32) (tt := 35) rfl (fun zc9 => ?_) (fun zc9 => ?_)
                  · refine hy_aload (i := 35) rfl rfl ?_
                    refine hy_getr (i := 36) rfl rfl ?_
                    refine hy_iload (i := 37) rfl rfl ?_
                    refine hy_iload (i := 38) rfl rfl ?_
                    refine hy_iast (i := 39) rfl rfl (by simp at zc1; omega) rfl ?_
                    refine hy_aload (i := 40) rfl rfl ?_
                    refine hy_getr (i := 41) rfl rfl ?_
                    refine hy_iload (i := 42) rfl rfl ?_
                    refine hy_iload (i := 43) rfl rfl ?_
                    refine hy_iast (i := 44) rfl rfl (by simp at zc1; omega) rfl ?_
                    refine hy_aload (i := 45) rfl rfl ?_
                    refine hy_dup (i := 46) rfl ?_
                    refine hy_get (i := 47) (fk := 3) rfl rfl rfl ?_
                    refine hy_const (i := 48) rfl (by decide) ?_
                    refine hy_iload (i := 49) rfl rfl ?_
                    refine hy_ishl (i := 50) rfl ?_
                    refine hy_ior (i := 51) rfl ?_
                    refine hy_put (i := 52) (fk := 3) rfl rfl rfl rfl ?_
                    refine hy_aload (i := 53) rfl rfl ?_
                    refine hy_dup (i := 54) rfl ?_
                    refine hy_get (i := 55) (fk := 2) rfl rfl rfl ?_
                    refine hy_const (i := 56) rfl (by decide) ?_
                    refine hy_iload (i := 57) rfl rfl ?_
                    refine hy_ishl (i := 58) rfl ?_
                    refine hy_ior (i := 59) rfl ?_
                    refine hy_put (i := 60) (fk := 2) rfl rfl rfl rfl ?_
                    refine hy_const (i := 61) rfl (by decide) ?_
                    refine hy_zreturn (i := 62) rfl rfl (by first | decide | exact hy_b01 _) ?_
                    refine ⟨congrArg some ?_, ?_⟩ <;> simp_all [hy_b, sp_tellable, sp_tellC, hy_up] <;> try omega
                  · refine hy_const (i := 33) rfl (by decide) ?_
                    refine hy_zreturn (i := 34) rfl rfl (by first | decide | exact hy_b01 _) ?_
                    refine ⟨congrArg some ?_, ?_⟩ <;> simp_all [hy_b, sp_tellable, sp_tellC, hy_up] <;> try omega
    · refine hy_const (i := 8) rfl (by decide) ?_
      refine hy_zreturn (i := 9) rfl rfl (by first | decide | exact hy_b01 _) ?_
      refine ⟨congrArg some ?_, ?_⟩ <;> simp_all [hy_b, sp_tellable, sp_tellC, hy_up] <;> try omega
/-! the model's -/
theorem c_M_isColour {c : Int} : hy_Ct sc hm_M_isColour 1 [.inr (some 59), .inl c] t (hy_e (some (hy_b (sp_told (t 59 0) c))) t) := by
  refine hy_mk_ct ok_M_isColour ck_M_isColour (Nat.le_of_ble_eq_true rfl) ?_
  refine hy_iload (i := 0) rfl rfl ?_
  refine hy_if_lt (i := 1) (tt := 12) rfl (fun zc1 => ?_) (fun zc1 => ?_)
  · refine hy_const (i := 12) rfl (by decide) ?_
    refine hy_zreturn (i := 13) rfl rfl (by first | decide | exact hy_b01 _) ?_
    exact ⟨congrArg some (by simp_all [hy_b, sp_told]; try (intros; omega)), rfl⟩
  · refine hy_iload (i := 2) rfl rfl ?_
    refine hy_const (i := 3) rfl (by decide) ?_
    refine hy_ic_ge (i := 4) (tt := 12) rfl (fun zc2 => ?_) (fun zc2 => ?_)
    · refine hy_const (i := 12) rfl (by decide) ?_
      refine hy_zreturn (i := 13) rfl rfl (by first | decide | exact hy_b01 _) ?_
      exact ⟨congrArg some (by simp_all [hy_b, sp_told]; try (intros; omega)), rfl⟩
    · refine hy_aload (i := 5) rfl rfl ?_
      refine hy_get (i := 6) (fk := 0) rfl rfl rfl ?_
      refine hy_iload (i := 7) rfl rfl ?_
      refine hy_cS2e (i := 8) rfl (by decide) mj_M_has (by decide) rfl (Nat.le_of_ble_eq_true rfl) (c_M_has) ?_
      refine hy_ib_eq (i := 9) (tt := 12) rfl (fun zc3 => ?_) (fun zc3 => ?_)
      · refine hy_const (i := 12) rfl (by decide) ?_
        refine hy_zreturn (i := 13) rfl rfl (by first | decide | exact hy_b01 _) ?_
        exact ⟨congrArg some (by simp_all [hy_b, sp_told]; try (intros; omega)), rfl⟩
      · refine hy_const (i := 10) rfl (by decide) ?_
        refine hy_goto (i := 11) (tt := 13) rfl ?_
        refine hy_zreturn (i := 13) rfl rfl (by first | decide | exact hy_b01 _) ?_
        exact ⟨congrArg some (by simp_all [hy_b, sp_told]; try (intros; omega)), rfl⟩
theorem c_M_isMixed {c : Int} : hy_Ct sc hm_M_isMixed 2 [.inr (some 59), .inl c] t (hy_e (some (hy_b (sp_told (t 59 0) c && decide (t 60 c.toNat ≠ -1)))) t) := by
  refine hy_mk_ct ok_M_isMixed ck_M_isMixed (Nat.le_of_ble_eq_true rfl) ?_
  refine hy_aload (i := 0) rfl rfl ?_
  refine hy_iload (i := 1) rfl rfl ?_
  refine hy_cV1e (i := 2) rfl mj_M_isColour (by decide) rfl (Nat.le_of_ble_eq_true rfl) rfl rfl rfl (c_M_isColour) ?_
  refine hy_ib_eq (i := 3) (tt := 12) rfl (fun zc1 => ?_) (fun zc1 => ?_)
  · refine hy_const (i := 12) rfl (by decide) ?_
    refine hy_zreturn (i := 13) rfl rfl (by first | decide | exact hy_b01 _) ?_
    exact ⟨congrArg some (by simp_all [hy_b]), rfl⟩
  · refine hy_aload (i := 4) rfl rfl ?_
    refine hy_getr (i := 5) rfl rfl ?_
    refine hy_iload (i := 6) rfl rfl ?_
    refine hy_iald (i := 7) rfl rfl (by have := sp_told_in zc1; omega) rfl ?_
    refine hy_const (i := 8) rfl (by decide) ?_
    refine hy_ic_eq (i := 9) (tt := 12) rfl (fun zc2 => ?_) (fun zc2 => ?_)
    · refine hy_const (i := 12) rfl (by decide) ?_
      refine hy_zreturn (i := 13) rfl rfl (by first | decide | exact hy_b01 _) ?_
      exact ⟨congrArg some (by simp_all [hy_b]), rfl⟩
    · refine hy_const (i := 10) rfl (by decide) ?_
      refine hy_goto (i := 11) (tt := 13) rfl ?_
      refine hy_zreturn (i := 13) rfl rfl (by first | decide | exact hy_b01 _) ?_
      exact ⟨congrArg some (by simp_all [hy_b]), rfl⟩
theorem c_M_isPlain {c : Int} : hy_Ct sc hm_M_isPlain 2 [.inr (some 59), .inl c] t (hy_e (some (hy_b (sp_told (t 59 0) c && decide (t 60 c.toNat = -1)))) t) := by
  refine hy_mk_ct ok_M_isPlain ck_M_isPlain (Nat.le_of_ble_eq_true rfl) ?_
  refine hy_aload (i := 0) rfl rfl ?_
  refine hy_iload (i := 1) rfl rfl ?_
  refine hy_cV1e (i := 2) rfl mj_M_isColour (by decide) rfl (Nat.le_of_ble_eq_true rfl) rfl rfl rfl (c_M_isColour) ?_
  refine hy_ib_eq (i := 3) (tt := 12) rfl (fun zc1 => ?_) (fun zc1 => ?_)
  · refine hy_const (i := 12) rfl (by decide) ?_
    refine hy_zreturn (i := 13) rfl rfl (by first | decide | exact hy_b01 _) ?_
    exact ⟨congrArg some (by simp_all [hy_b]), rfl⟩
  · refine hy_aload (i := 4) rfl rfl ?_
    refine hy_getr (i := 5) rfl rfl ?_
    refine hy_iload (i := 6) rfl rfl ?_
    refine hy_iald (i := 7) rfl rfl (by have := sp_told_in zc1; omega) rfl ?_
    refine hy_const (i := 8) rfl (by decide) ?_
    refine hy_ic_ne (i := 9) (tt := 12) rfl (fun zc2 => ?_) (fun zc2 => ?_)
    · refine hy_const (i := 12) rfl (by decide) ?_
      refine hy_zreturn (i := 13) rfl rfl (by first | decide | exact hy_b01 _) ?_
      exact ⟨congrArg some (by simp_all [hy_b]), rfl⟩
    · refine hy_const (i := 10) rfl (by decide) ?_
      refine hy_goto (i := 11) (tt := 13) rfl ?_
      refine hy_zreturn (i := 13) rfl rfl (by first | decide | exact hy_b01 _) ?_
      exact ⟨congrArg some (by simp_all [hy_b]), rfl⟩
def sp_tellM (t : hy_T) (c f s : Int) : hy_T := hy_up (hy_up (hy_up t 59 0 (hz_ior (t 59 0) (hz_ishl 1 c))) 60 c.toNat f) 61 c.toNat s
theorem c_M_colour {c f s : Int} : hy_Ct sc hm_M_colour 2 [.inr (some 59), .inl c, .inl f, .inl s] t (hy_e (some (hy_b (sp_tellable (t 59 0) c f s))) (if sp_tellable (t 59 0) c f s = true then sp_tellM t c f s else t)) := by
  refine hy_mk_ct ok_M_colour ck_M_colour (Nat.le_of_ble_eq_true rfl) ?_
  refine hy_iload (i := 0) rfl rfl ?_
  refine hy_const (i := 1) rfl (by decide) ?_
  refine hy_const (i := 2) rfl (by decide) ?_
  refine hy_cS3e (i := 3) rfl (by decide) mj_M_in (by decide) rfl (Nat.le_of_ble_eq_true rfl) (c_M_in) ?_
  refine hy_ib_eq (i := 4) (tt := 9) rfl (fun zc1 => ?_) (fun zc1 => ?_)
  · refine hy_const (i := 9) rfl (by decide) ?_
    refine hy_zreturn (i := 10) rfl rfl (by first | decide | exact hy_b01 _) ?_
    refine ⟨congrArg some ?_, ?_⟩ <;> first | (exfalso; simp at *; done) | (simp_all [hy_b, sp_tellable, sp_tellM, hy_up] <;> try omega)
  · refine hy_aload (i := 5) rfl rfl ?_
    refine hy_iload (i := 6) rfl rfl ?_
    refine hy_cV1e (i := 7) rfl mj_M_isColour (by decide) rfl (Nat.le_of_ble_eq_true rfl) rfl rfl rfl (c_M_isColour) ?_
    refine hy_ib_eq (i := 8) (tt := 11) rfl (fun zc2 => ?_) (fun zc2 => ?_)
    · refine hy_iload (i := 11) rfl rfl ?_
      refine hy_const (i := 12) rfl (by decide) ?_
      refine hy_ic_ne (i := 13) (tt := 19) rfl (fun zc3 => ?_) (fun zc3 => ?_)
      · refine hy_const (i := 19) rfl (by decide) ?_
        refine hy_istore (i := 20) rfl ?_
        refine hy_iload (i := 21) rfl rfl ?_
        refine hy_if_ne (i := 22) (tt := 42) rfl (fun zc4 => ?_) (fun zc4 => ?_)
        · refine hy_aload (i := 42) rfl rfl ?_
          refine hy_aload (i := 43) rfl rfl ?_
          refine hy_get (i := 44) (fk := 0) rfl rfl rfl ?_
          refine hy_const (i := 45) rfl (by decide) ?_
          refine hy_iload (i := 46) rfl rfl ?_
          refine hy_ishl (i := 47) rfl ?_
          refine hy_ior (i := 48) rfl ?_
          refine hy_put (i := 49) (fk := 0) rfl rfl rfl rfl ?_
          refine hy_aload (i := 50) rfl rfl ?_
          refine hy_getr (i := 51) rfl rfl ?_
          refine hy_iload (i := 52) rfl rfl ?_
          refine hy_iload (i := 53) rfl rfl ?_
          refine hy_iast (i := 54) rfl rfl (by simp at zc1; omega) rfl ?_
          refine hy_aload (i := 55) rfl rfl ?_
          refine hy_getr (i := 56) rfl rfl ?_
          refine hy_iload (i := 57) rfl rfl ?_
          refine hy_iload (i := 58) rfl rfl ?_
          refine hy_iast (i := 59) rfl rfl (by simp at zc1; omega) rfl ?_
          refine hy_const (i := 60) rfl (by decide) ?_
          refine hy_zreturn (i := 61) rfl rfl (by first | decide | exact hy_b01 _) ?_
          refine ⟨congrArg some ?_, ?_⟩ <;> first | (exfalso; simp at *; done) | (simp_all [hy_b, sp_tellable, sp_tellM, hy_up] <;> try omega)
        · refine hy_aload (i := 23) rfl rfl ?_
          refine hy_iload (i := 24) rfl rfl ?_
          refine hy_cV1e (i := 25) rfl mj_M_isColour (by decide) rfl (Nat.le_of_ble_eq_true rfl) rfl rfl rfl (c_M_isColour) ?_
          refine hy_ib_eq (i := 26) (tt := 40) rfl (fun zc5 => ?_) (fun zc5 => ?_)
          · refine hy_const (i := 40) rfl (by decide) ?_
            refine hy_zreturn (i := 41) rfl rfl (by first | decide | exact hy_b01 _) ?_
            refine ⟨congrArg some ?_, ?_⟩ <;> first | (exfalso; simp at *; done) | (simp_all [hy_b, sp_tellable, sp_tellM, hy_up] <;> try omega)
          · refine hy_aload (i := 27) rfl rfl ?_
            refine hy_iload (i := 28) rfl rfl ?_
            refine hy_cV1e (i := 29) rfl mj_M_isColour (by decide) rfl (Nat.le_of_ble_eq_true rfl) rfl rfl rfl (c_M_isColour) ?_
            refine hy_ib_eq (i := 30) (tt := 40) rfl (fun zc6 => ?_) (fun zc6 => ?_)
            · refine hy_const (i := 40) rfl (by decide) ?_
              refine hy_zreturn (i := 41) rfl rfl (by first | decide | exact hy_b01 _) ?_
              refine ⟨congrArg some ?_, ?_⟩ <;> first | (exfalso; simp at *; done) | (simp_all [hy_b, sp_tellable, sp_tellM, hy_up] <;> try omega)
            · refine hy_iload (i := 31) rfl rfl ?_
              refine hy_iload (i := 32) rfl rfl ?_
              refine hy_ic_eq (i := 33) (tt := 40) rfl (fun zc7 => ?_) (fun zc7 => ?_)
              · refine hy_const (i := 40) rfl (by decide) ?_
                refine hy_zreturn (i := 41) rfl rfl (by first | decide | exact hy_b01 _) ?_
                refine ⟨congrArg some ?_, ?_⟩ <;> first | (exfalso; simp at *; done) | (simp_all [hy_b, sp_tellable, sp_tellM, hy_up] <;> try omega)
              · refine hy_iload (i := 34) rfl rfl ?_
                refine hy_iload (i := 35) rfl rfl ?_
                refine hy_ic_ge (i := 36) (tt := 40) rfl (fun zc8 => ?_) (fun zc8 => ?_)
                · refine hy_const (i := 40) rfl (by decide) ?_
                  refine hy_zreturn (i := 41) rfl rfl (by first | decide | exact hy_b01 _) ?_
                  refine ⟨congrArg some ?_, ?_⟩ <;> first | (exfalso; simp at *; done) | (simp_all [hy_b, sp_tellable, sp_tellM, hy_up] <;> try omega)
                · refine hy_iload (i := 37) rfl rfl ?_
                  refine hy_iload (i := 38) rfl rfl ?_
                  refine hy_ic_lt (i := 39) (tt := 42) rfl (fun zc9 => ?_) (fun zc9 => ?_)
                  · refine hy_aload (i := 42) rfl rfl ?_
                    refine hy_aload (i := 43) rfl rfl ?_
                    refine hy_get (i := 44) (fk := 0) rfl rfl rfl ?_
                    refine hy_const (i := 45) rfl (by decide) ?_
                    refine hy_iload (i := 46) rfl rfl ?_
                    refine hy_ishl (i := 47) rfl ?_
                    refine hy_ior (i := 48) rfl ?_
                    refine hy_put (i := 49) (fk := 0) rfl rfl rfl rfl ?_
                    refine hy_aload (i := 50) rfl rfl ?_
                    refine hy_getr (i := 51) rfl rfl ?_
                    refine hy_iload (i := 52) rfl rfl ?_
                    refine hy_iload (i := 53) rfl rfl ?_
                    refine hy_iast (i := 54) rfl rfl (by simp at zc1; omega) rfl ?_
                    refine hy_aload (i := 55) rfl rfl ?_
                    refine hy_getr (i := 56) rfl rfl ?_
                    refine hy_iload (i := 57) rfl rfl ?_
                    refine hy_iload (i := 58) rfl rfl ?_
                    refine hy_iast (i := 59) rfl rfl (by simp at zc1; omega) rfl ?_
                    refine hy_const (i := 60) rfl (by decide) ?_
                    refine hy_zreturn (i := 61) rfl rfl (by first | decide | exact hy_b01 _) ?_
                    refine ⟨congrArg some ?_, ?_⟩ <;> first | (exfalso; simp at *; done) | (simp_all [hy_b, sp_tellable, sp_tellM, hy_up] <;> try omega)
                  · refine hy_const (i := 40) rfl (by decide) ?_
                    refine hy_zreturn (i := 41) rfl rfl (by first | decide | exact hy_b01 _) ?_
                    refine ⟨congrArg some ?_, ?_⟩ <;> first | (exfalso; simp at *; done) | (simp_all [hy_b, sp_tellable, sp_tellM, hy_up] <;> try omega)
      · refine hy_iload (i := 14) rfl rfl ?_
        refine hy_const (i := 15) rfl (by decide) ?_
        refine hy_ic_ne (i := 16) (tt := 19) rfl (fun zc4 => ?_) (fun zc4 => ?_)
        · refine hy_const (i := 19) rfl (by decide) ?_
          refine hy_istore (i := 20) rfl ?_
          refine hy_iload (i := 21) rfl rfl ?_
          refine hy_if_ne (i := 22) (tt := 42) rfl (fun zc5 => ?_) (fun zc5 => ?_)
          · refine hy_aload (i := 42) rfl rfl ?_
            refine hy_aload (i := 43) rfl rfl ?_
            refine hy_get (i := 44) (fk := 0) rfl rfl rfl ?_
            refine hy_const (i := 45) rfl (by decide) ?_
            refine hy_iload (i := 46) rfl rfl ?_
            refine hy_ishl (i := 47) rfl ?_
            refine hy_ior (i := 48) rfl ?_
            refine hy_put (i := 49) (fk := 0) rfl rfl rfl rfl ?_
            refine hy_aload (i := 50) rfl rfl ?_
            refine hy_getr (i := 51) rfl rfl ?_
            refine hy_iload (i := 52) rfl rfl ?_
            refine hy_iload (i := 53) rfl rfl ?_
            refine hy_iast (i := 54) rfl rfl (by simp at zc1; omega) rfl ?_
            refine hy_aload (i := 55) rfl rfl ?_
            refine hy_getr (i := 56) rfl rfl ?_
            refine hy_iload (i := 57) rfl rfl ?_
            refine hy_iload (i := 58) rfl rfl ?_
            refine hy_iast (i := 59) rfl rfl (by simp at zc1; omega) rfl ?_
            refine hy_const (i := 60) rfl (by decide) ?_
            refine hy_zreturn (i := 61) rfl rfl (by first | decide | exact hy_b01 _) ?_
            refine ⟨congrArg some ?_, ?_⟩ <;> first | (exfalso; simp at *; done) | (simp_all [hy_b, sp_tellable, sp_tellM, hy_up] <;> try omega)
          · refine hy_aload (i := 23) rfl rfl ?_
            refine hy_iload (i := 24) rfl rfl ?_
            refine hy_cV1e (i := 25) rfl mj_M_isColour (by decide) rfl (Nat.le_of_ble_eq_true rfl) rfl rfl rfl (c_M_isColour) ?_
            refine hy_ib_eq (i := 26) (tt := 40) rfl (fun zc6 => ?_) (fun zc6 => ?_)
            · refine hy_const (i := 40) rfl (by decide) ?_
              refine hy_zreturn (i := 41) rfl rfl (by first | decide | exact hy_b01 _) ?_
              refine ⟨congrArg some ?_, ?_⟩ <;> first | (exfalso; simp at *; done) | (simp_all [hy_b, sp_tellable, sp_tellM, hy_up] <;> try omega)
            · refine hy_aload (i := 27) rfl rfl ?_
              refine hy_iload (i := 28) rfl rfl ?_
              refine hy_cV1e (i := 29) rfl mj_M_isColour (by decide) rfl (Nat.le_of_ble_eq_true rfl) rfl rfl rfl (c_M_isColour) ?_
              refine hy_ib_eq (i := 30) (tt := 40) rfl (fun zc7 => ?_) (fun zc7 => ?_)
              · refine hy_const (i := 40) rfl (by decide) ?_
                refine hy_zreturn (i := 41) rfl rfl (by first | decide | exact hy_b01 _) ?_
                refine ⟨congrArg some ?_, ?_⟩ <;> first | (exfalso; simp at *; done) | (simp_all [hy_b, sp_tellable, sp_tellM, hy_up] <;> try omega)
              · refine hy_iload (i := 31) rfl rfl ?_
                refine hy_iload (i := 32) rfl rfl ?_
                refine hy_ic_eq (i := 33) (tt := 40) rfl (fun zc8 => ?_) (fun zc8 => ?_)
                · refine hy_const (i := 40) rfl (by decide) ?_
                  refine hy_zreturn (i := 41) rfl rfl (by first | decide | exact hy_b01 _) ?_
                  refine ⟨congrArg some ?_, ?_⟩ <;> first | (exfalso; simp at *; done) | (simp_all [hy_b, sp_tellable, sp_tellM, hy_up] <;> try omega)
                · refine hy_iload (i := 34) rfl rfl ?_
                  refine hy_iload (i := 35) rfl rfl ?_
                  refine hy_ic_ge (i := 36) (tt := 40) rfl (fun zc9 => ?_) (fun zc9 => ?_)
                  · refine hy_const (i := 40) rfl (by decide) ?_
                    refine hy_zreturn (i := 41) rfl rfl (by first | decide | exact hy_b01 _) ?_
                    refine ⟨congrArg some ?_, ?_⟩ <;> first | (exfalso; simp at *; done) | (simp_all [hy_b, sp_tellable, sp_tellM, hy_up] <;> try omega)
                  · refine hy_iload (i := 37) rfl rfl ?_
                    refine hy_iload (i := 38) rfl rfl ?_
                    refine hy_ic_lt (i := 39) (tt := 42) rfl (fun zc10 => ?_) (fun zc10 => ?_)
                    · refine hy_aload (i := 42) rfl rfl ?_
                      refine hy_aload (i := 43) rfl rfl ?_
                      refine hy_get (i := 44) (fk := 0) rfl rfl rfl ?_
                      refine hy_const (i := 45) rfl (by decide) ?_
                      refine hy_iload (i := 46) rfl rfl ?_
                      refine hy_ishl (i := 47) rfl ?_
                      refine hy_ior (i := 48) rfl ?_
                      refine hy_put (i := 49) (fk := 0) rfl rfl rfl rfl ?_
                      refine hy_aload (i := 50) rfl rfl ?_
                      refine hy_getr (i := 51) rfl rfl ?_
                      refine hy_iload (i := 52) rfl rfl ?_
                      refine hy_iload (i := 53) rfl rfl ?_
                      refine hy_iast (i := 54) rfl rfl (by simp at zc1; omega) rfl ?_
                      refine hy_aload (i := 55) rfl rfl ?_
                      refine hy_getr (i := 56) rfl rfl ?_
                      refine hy_iload (i := 57) rfl rfl ?_
                      refine hy_iload (i := 58) rfl rfl ?_
                      refine hy_iast (i := 59) rfl rfl (by simp at zc1; omega) rfl ?_
                      refine hy_const (i := 60) rfl (by decide) ?_
                      refine hy_zreturn (i := 61) rfl rfl (by first | decide | exact hy_b01 _) ?_
                      refine ⟨congrArg some ?_, ?_⟩ <;> first | (exfalso; simp at *; done) | (simp_all [hy_b, sp_tellable, sp_tellM, hy_up] <;> try omega)
                    · refine hy_const (i := 40) rfl (by decide) ?_
                      refine hy_zreturn (i := 41) rfl rfl (by first | decide | exact hy_b01 _) ?_
                      refine ⟨congrArg some ?_, ?_⟩ <;> first | (exfalso; simp at *; done) | (simp_all [hy_b, sp_tellable, sp_tellM, hy_up] <;> try omega)
        · refine hy_const (i := 17) rfl (by decide) ?_
          refine hy_goto (i := 18) (tt := 20) rfl ?_
          refine hy_istore (i := 20) rfl ?_
          refine hy_iload (i := 21) rfl rfl ?_
          refine hy_if_ne (i := 22) (tt := 42) rfl (fun zc5 => ?_) (fun zc5 => ?_)
          · refine hy_aload (i := 42) rfl rfl ?_
            refine hy_aload (i := 43) rfl rfl ?_
            refine hy_get (i := 44) (fk := 0) rfl rfl rfl ?_
            refine hy_const (i := 45) rfl (by decide) ?_
            refine hy_iload (i := 46) rfl rfl ?_
            refine hy_ishl (i := 47) rfl ?_
            refine hy_ior (i := 48) rfl ?_
            refine hy_put (i := 49) (fk := 0) rfl rfl rfl rfl ?_
            refine hy_aload (i := 50) rfl rfl ?_
            refine hy_getr (i := 51) rfl rfl ?_
            refine hy_iload (i := 52) rfl rfl ?_
            refine hy_iload (i := 53) rfl rfl ?_
            refine hy_iast (i := 54) rfl rfl (by simp at zc1; omega) rfl ?_
            refine hy_aload (i := 55) rfl rfl ?_
            refine hy_getr (i := 56) rfl rfl ?_
            refine hy_iload (i := 57) rfl rfl ?_
            refine hy_iload (i := 58) rfl rfl ?_
            refine hy_iast (i := 59) rfl rfl (by simp at zc1; omega) rfl ?_
            refine hy_const (i := 60) rfl (by decide) ?_
            refine hy_zreturn (i := 61) rfl rfl (by first | decide | exact hy_b01 _) ?_
            refine ⟨congrArg some ?_, ?_⟩ <;> first | (exfalso; simp at *; done) | (simp_all [hy_b, sp_tellable, sp_tellM, hy_up] <;> try omega)
          · refine hy_aload (i := 23) rfl rfl ?_
            refine hy_iload (i := 24) rfl rfl ?_
            refine hy_cV1e (i := 25) rfl mj_M_isColour (by decide) rfl (Nat.le_of_ble_eq_true rfl) rfl rfl rfl (c_M_isColour) ?_
            refine hy_ib_eq (i := 26) (tt := 40) rfl (fun zc6 => ?_) (fun zc6 => ?_)
            · refine hy_const (i := 40) rfl (by decide) ?_
              refine hy_zreturn (i := 41) rfl rfl (by first | decide | exact hy_b01 _) ?_
              refine ⟨congrArg some ?_, ?_⟩ <;> first | (exfalso; simp at *; done) | (simp_all [hy_b, sp_tellable, sp_tellM, hy_up] <;> try omega)
            · refine hy_aload (i := 27) rfl rfl ?_
              refine hy_iload (i := 28) rfl rfl ?_
              refine hy_cV1e (i := 29) rfl mj_M_isColour (by decide) rfl (Nat.le_of_ble_eq_true rfl) rfl rfl rfl (c_M_isColour) ?_
              refine hy_ib_eq (i := 30) (tt := 40) rfl (fun zc7 => ?_) (fun zc7 => ?_)
              · refine hy_const (i := 40) rfl (by decide) ?_
                refine hy_zreturn (i := 41) rfl rfl (by first | decide | exact hy_b01 _) ?_
                refine ⟨congrArg some ?_, ?_⟩ <;> first | (exfalso; simp at *; done) | (simp_all [hy_b, sp_tellable, sp_tellM, hy_up] <;> try omega)
              · refine hy_iload (i := 31) rfl rfl ?_
                refine hy_iload (i := 32) rfl rfl ?_
                refine hy_ic_eq (i := 33) (tt := 40) rfl (fun zc8 => ?_) (fun zc8 => ?_)
                · refine hy_const (i := 40) rfl (by decide) ?_
                  refine hy_zreturn (i := 41) rfl rfl (by first | decide | exact hy_b01 _) ?_
                  refine ⟨congrArg some ?_, ?_⟩ <;> first | (exfalso; simp at *; done) | (simp_all [hy_b, sp_tellable, sp_tellM, hy_up] <;> try omega)
                · refine hy_iload (i := 34) rfl rfl ?_
                  refine hy_iload (i := 35) rfl rfl ?_
                  refine hy_ic_ge (i := 36) (tt := 40) rfl (fun zc9 => ?_) (fun zc9 => ?_)
                  · refine hy_const (i := 40) rfl (by decide) ?_
                    refine hy_zreturn (i := 41) rfl rfl (by first | decide | exact hy_b01 _) ?_
                    refine ⟨congrArg some ?_, ?_⟩ <;> first | (exfalso; simp at *; done) | (simp_all [hy_b, sp_tellable, sp_tellM, hy_up] <;> try omega)
                  · refine hy_iload (i := 37) rfl rfl ?_
                    refine hy_iload (i := 38) rfl rfl ?_
                    refine hy_ic_lt (i := 39) (tt := 42) rfl (fun zc10 => ?_) (fun zc10 => ?_)
                    · refine hy_aload (i := 42) rfl rfl ?_
                      refine hy_aload (i := 43) rfl rfl ?_
                      refine hy_get (i := 44) (fk := 0) rfl rfl rfl ?_
                      refine hy_const (i := 45) rfl (by decide) ?_
                      refine hy_iload (i := 46) rfl rfl ?_
                      refine hy_ishl (i := 47) rfl ?_
                      refine hy_ior (i := 48) rfl ?_
                      refine hy_put (i := 49) (fk := 0) rfl rfl rfl rfl ?_
                      refine hy_aload (i := 50) rfl rfl ?_
                      refine hy_getr (i := 51) rfl rfl ?_
                      refine hy_iload (i := 52) rfl rfl ?_
                      refine hy_iload (i := 53) rfl rfl ?_
                      refine hy_iast (i := 54) rfl rfl (by simp at zc1; omega) rfl ?_
                      refine hy_aload (i := 55) rfl rfl ?_
                      refine hy_getr (i := 56) rfl rfl ?_
                      refine hy_iload (i := 57) rfl rfl ?_
                      refine hy_iload (i := 58) rfl rfl ?_
                      refine hy_iast (i := 59) rfl rfl (by simp at zc1; omega) rfl ?_
                      refine hy_const (i := 60) rfl (by decide) ?_
                      refine hy_zreturn (i := 61) rfl rfl (by first | decide | exact hy_b01 _) ?_
                      refine ⟨congrArg some ?_, ?_⟩ <;> first | (exfalso; simp at *; done) | (simp_all [hy_b, sp_tellable, sp_tellM, hy_up] <;> try omega)
                    · refine hy_const (i := 40) rfl (by decide) ?_
                      refine hy_zreturn (i := 41) rfl rfl (by first | decide | exact hy_b01 _) ?_
                      refine ⟨congrArg some ?_, ?_⟩ <;> first | (exfalso; simp at *; done) | (simp_all [hy_b, sp_tellable, sp_tellM, hy_up] <;> try omega)
    · refine hy_const (i := 9) rfl (by decide) ?_
      refine hy_zreturn (i := 10) rfl rfl (by first | decide | exact hy_b01 _) ?_
      refine ⟨congrArg some ?_, ?_⟩ <;> first | (exfalso; simp at *; done) | (simp_all [hy_b, sp_tellable, sp_tellM, hy_up] <;> try omega)
/-! the tape -/
def tp_next (t : hy_T) : Int := if t 3 4 = 0 ∧ 0 ≤ t 3 3 ∧ t 3 3 < t 3 2 then t 4 (t 3 3).toNat else -1
def tp_at (t : hy_T) (i : Int) : Int := if 0 ≤ i ∧ i < t 3 1 then t 4 i.toNat else 0
def tp_fail (t : hy_T) (n w : Int) : hy_T := if t 3 4 = 0 then hy_up t 3 4 (-1000 * n - w) else t
theorem c_T_length : hy_Ct sc hm_T_length 0 [.inr (some 3)] t (hy_e (some (t 3 1)) t) := by
  refine hy_mk_ct ok_T_length ck_T_length (Nat.le_of_ble_eq_true rfl) ?_
  refine hy_aload (i := 0) rfl rfl ?_
  refine hy_get (i := 1) (fk := 1) rfl rfl rfl ?_
  refine hy_ireturn (i := 2) rfl rfl ?_
  exact ⟨rfl, rfl⟩
theorem c_T_place : hy_Ct sc hm_T_place 0 [.inr (some 3)] t (hy_e (some (t 3 3)) t) := by
  refine hy_mk_ct ok_T_place ck_T_place (Nat.le_of_ble_eq_true rfl) ?_
  refine hy_aload (i := 0) rfl rfl ?_
  refine hy_get (i := 1) (fk := 3) rfl rfl rfl ?_
  refine hy_ireturn (i := 2) rfl rfl ?_
  exact ⟨rfl, rfl⟩
theorem c_T_fault : hy_Ct sc hm_T_fault 0 [.inr (some 3)] t (hy_e (some (t 3 4)) t) := by
  refine hy_mk_ct ok_T_fault ck_T_fault (Nat.le_of_ble_eq_true rfl) ?_
  refine hy_aload (i := 0) rfl rfl ?_
  refine hy_get (i := 1) (fk := 4) rfl rfl rfl ?_
  refine hy_ireturn (i := 2) rfl rfl ?_
  exact ⟨rfl, rfl⟩
theorem c_T_clear : hy_Ct sc hm_T_clear 0 [.inr (some 3)] t (hy_e none (hy_up t 3 1 0)) := by
  refine hy_mk_ct ok_T_clear ck_T_clear (Nat.le_of_ble_eq_true rfl) ?_
  refine hy_aload (i := 0) rfl rfl ?_
  refine hy_const (i := 1) rfl (by decide) ?_
  refine hy_put (i := 2) (fk := 1) rfl rfl rfl rfl ?_
  refine hy_return (i := 3) rfl rfl ?_
  exact ⟨rfl, rfl⟩
theorem c_T_at {k : Int} (hl : t 3 1 ≤ 260) : hy_Ct sc hm_T_at 0 [.inr (some 3), .inl k] t (hy_e (some (tp_at t k)) t) := by
  refine hy_mk_ct ok_T_at ck_T_at (Nat.le_of_ble_eq_true rfl) ?_
  refine hy_iload (i := 0) rfl rfl ?_
  refine hy_if_lt (i := 1) (tt := 11) rfl (fun zc1 => ?_) (fun zc1 => ?_)
  · refine hy_const (i := 11) rfl (by decide) ?_
    refine hy_ireturn (i := 12) rfl rfl ?_
    exact ⟨congrArg some (by unfold tp_at; split <;> first | rfl | omega), rfl⟩
  · refine hy_iload (i := 2) rfl rfl ?_
    refine hy_aload (i := 3) rfl rfl ?_
    refine hy_get (i := 4) (fk := 1) rfl rfl rfl ?_
    refine hy_ic_ge (i := 5) (tt := 11) rfl (fun zc2 => ?_) (fun zc2 => ?_)
    · refine hy_const (i := 11) rfl (by decide) ?_
      refine hy_ireturn (i := 12) rfl rfl ?_
      exact ⟨congrArg some (by unfold tp_at; split <;> first | rfl | omega), rfl⟩
    · refine hy_aload (i := 6) rfl rfl ?_
      refine hy_getr (i := 7) rfl rfl ?_
      refine hy_iload (i := 8) rfl rfl ?_
      refine hy_iald (i := 9) rfl rfl (by omega) rfl ?_
      refine hy_goto (i := 10) (tt := 12) rfl ?_
      refine hy_ireturn (i := 12) rfl rfl ?_
      exact ⟨congrArg some (by unfold tp_at; split <;> first | rfl | omega), rfl⟩
def tp_number (t : hy_T) (k : Int) : Int := hz_ior (hz_ior (hz_ior (hz_ishl (tp_at t k) 24) (hz_ishl (tp_at t (k + 1)) 16)) (hz_ishl (tp_at t (k + 2)) 8)) (tp_at t (k + 3))
theorem c_T_number {k : Int} (hl : t 3 1 ≤ 260) (hk : 0 ≤ k ∧ k < 1000) : hy_Ct sc hm_T_number 1 [.inr (some 3), .inl k] t (hy_e (some (tp_number t k)) t) := by
  refine hy_mk_ct ok_T_number ck_T_number (Nat.le_of_ble_eq_true rfl) ?_
  refine hy_aload (i := 0) rfl rfl ?_
  refine hy_iload (i := 1) rfl rfl ?_
  refine hy_cV1e (i := 2) rfl mj_T_at (by decide) rfl (Nat.le_of_ble_eq_true rfl) rfl rfl rfl (c_T_at (by assumption)) ?_
  refine hy_const (i := 3) rfl (by decide) ?_
  refine hy_ishl (i := 4) rfl ?_
  refine hy_aload (i := 5) rfl rfl ?_
  refine hy_iload (i := 6) rfl rfl ?_
  refine hy_const (i := 7) rfl (by decide) ?_
  refine hy_iadd (i := 8) rfl (by omega) ?_
  refine hy_cV1e (i := 9) rfl mj_T_at (by decide) rfl (Nat.le_of_ble_eq_true rfl) rfl rfl rfl (c_T_at (by assumption)) ?_
  refine hy_const (i := 10) rfl (by decide) ?_
  refine hy_ishl (i := 11) rfl ?_
  refine hy_ior (i := 12) rfl ?_
  refine hy_aload (i := 13) rfl rfl ?_
  refine hy_iload (i := 14) rfl rfl ?_
  refine hy_const (i := 15) rfl (by decide) ?_
  refine hy_iadd (i := 16) rfl (by omega) ?_
  refine hy_cV1e (i := 17) rfl mj_T_at (by decide) rfl (Nat.le_of_ble_eq_true rfl) rfl rfl rfl (c_T_at (by assumption)) ?_
  refine hy_const (i := 18) rfl (by decide) ?_
  refine hy_ishl (i := 19) rfl ?_
  refine hy_ior (i := 20) rfl ?_
  refine hy_aload (i := 21) rfl rfl ?_
  refine hy_iload (i := 22) rfl rfl ?_
  refine hy_const (i := 23) rfl (by decide) ?_
  refine hy_iadd (i := 24) rfl (by omega) ?_
  refine hy_cV1e (i := 25) rfl mj_T_at (by decide) rfl (Nat.le_of_ble_eq_true rfl) rfl rfl rfl (c_T_at (by assumption)) ?_
  refine hy_ior (i := 26) rfl ?_
  refine hy_ireturn (i := 27) rfl rfl ?_
  exact ⟨rfl, rfl⟩
theorem c_T_start {n : Int} : hy_Ct sc hm_T_start 0 [.inr (some 3), .inl n] t (hy_e none (hy_up (hy_up (hy_up t 3 2 (if t 3 1 < n then t 3 1 else n)) 3 3 0) 3 4 0)) := by
  refine hy_mk_ct ok_T_start ck_T_start (Nat.le_of_ble_eq_true rfl) ?_
  refine hy_aload (i := 0) rfl rfl ?_
  refine hy_iload (i := 1) rfl rfl ?_
  refine hy_aload (i := 2) rfl rfl ?_
  refine hy_get (i := 3) (fk := 1) rfl rfl rfl ?_
  refine hy_min (i := 4) rfl (Nat.le_of_ble_eq_true rfl) ?_
  refine hy_put (i := 5) (fk := 2) rfl rfl rfl rfl ?_
  refine hy_aload (i := 6) rfl rfl ?_
  refine hy_const (i := 7) rfl (by decide) ?_
  refine hy_put (i := 8) (fk := 3) rfl rfl rfl rfl ?_
  refine hy_aload (i := 9) rfl rfl ?_
  refine hy_const (i := 10) rfl (by decide) ?_
  refine hy_put (i := 11) (fk := 4) rfl rfl rfl rfl ?_
  refine hy_return (i := 12) rfl rfl ?_
  exact ⟨rfl, rfl⟩
theorem c_T_next (hl : t 3 2 ≤ 260) : hy_Ct sc hm_T_next 0 [.inr (some 3)] t (hy_e (some (tp_next t)) t) := by
  refine hy_mk_ct ok_T_next ck_T_next (Nat.le_of_ble_eq_true rfl) ?_
  refine hy_aload (i := 0) rfl rfl ?_
  refine hy_get (i := 1) (fk := 4) rfl rfl rfl ?_
  refine hy_if_ne (i := 2) (tt := 17) rfl (fun zc1 => ?_) (fun zc1 => ?_)
  · refine hy_const (i := 17) rfl (by decide) ?_
    refine hy_ireturn (i := 18) rfl rfl ?_
    exact ⟨congrArg some (by unfold tp_next; split <;> first | rfl | omega), rfl⟩
  · refine hy_aload (i := 3) rfl rfl ?_
    refine hy_get (i := 4) (fk := 3) rfl rfl rfl ?_
    refine hy_if_lt (i := 5) (tt := 17) rfl (fun zc2 => ?_) (fun zc2 => ?_)
    · refine hy_const (i := 17) rfl (by decide) ?_
      refine hy_ireturn (i := 18) rfl rfl ?_
      exact ⟨congrArg some (by unfold tp_next; split <;> first | rfl | omega), rfl⟩
    · refine hy_aload (i := 6) rfl rfl ?_
      refine hy_get (i := 7) (fk := 3) rfl rfl rfl ?_
      refine hy_aload (i := 8) rfl rfl ?_
      refine hy_get (i := 9) (fk := 2) rfl rfl rfl ?_
      refine hy_ic_ge (i := 10) (tt := 17) rfl (fun zc3 => ?_) (fun zc3 => ?_)
      · refine hy_const (i := 17) rfl (by decide) ?_
        refine hy_ireturn (i := 18) rfl rfl ?_
        exact ⟨congrArg some (by unfold tp_next; split <;> first | rfl | omega), rfl⟩
      · refine hy_aload (i := 11) rfl rfl ?_
        refine hy_getr (i := 12) rfl rfl ?_
        refine hy_aload (i := 13) rfl rfl ?_
        refine hy_get (i := 14) (fk := 3) rfl rfl rfl ?_
        refine hy_iald (i := 15) rfl rfl (by omega) rfl ?_
        refine hy_goto (i := 16) (tt := 18) rfl ?_
        refine hy_ireturn (i := 18) rfl rfl ?_
        exact ⟨congrArg some (by unfold tp_next; split <;> first | rfl | omega), rfl⟩
theorem c_T_step (hl : -1 ≤ t 3 3 ∧ t 3 3 ≤ 1000) : hy_Ct sc hm_T_step 0 [.inr (some 3)] t (hy_e none (hy_up t 3 3 (t 3 3 + 1))) := by
  refine hy_mk_ct ok_T_step ck_T_step (Nat.le_of_ble_eq_true rfl) ?_
  refine hy_aload (i := 0) rfl rfl ?_
  refine hy_dup (i := 1) rfl ?_
  refine hy_get (i := 2) (fk := 3) rfl rfl rfl ?_
  refine hy_const (i := 3) rfl (by decide) ?_
  refine hy_iadd (i := 4) rfl (by omega) ?_
  refine hy_put (i := 5) (fk := 3) rfl rfl rfl rfl ?_
  refine hy_return (i := 6) rfl rfl ?_
  exact ⟨rfl, rfl⟩
theorem c_T_fail {n : Int} (hn : 0 ≤ n ∧ n < 10) (hl : -1 ≤ t 3 3 ∧ t 3 3 ≤ 1000) : hy_Ct sc hm_T_fail 0 [.inr (some 3), .inl n] t (hy_e none (tp_fail t n (t 3 3))) := by
  refine hy_mk_ct ok_T_fail ck_T_fail (Nat.le_of_ble_eq_true rfl) ?_
  refine hy_aload (i := 0) rfl rfl ?_
  refine hy_get (i := 1) (fk := 4) rfl rfl rfl ?_
  refine hy_if_ne (i := 2) (tt := 11) rfl (fun zc1 => ?_) (fun zc1 => ?_)
  · refine hy_return (i := 11) rfl rfl ?_
    exact ⟨rfl, by simp_all [tp_fail]⟩
  · refine hy_aload (i := 3) rfl rfl ?_
    refine hy_const (i := 4) rfl (by decide) ?_
    refine hy_iload (i := 5) rfl rfl ?_
    refine hy_imul (i := 6) rfl (by omega) ?_
    refine hy_aload (i := 7) rfl rfl ?_
    refine hy_get (i := 8) (fk := 3) rfl rfl rfl ?_
    refine hy_isub (i := 9) rfl (by omega) ?_
    refine hy_put (i := 10) (fk := 4) rfl rfl rfl rfl ?_
    refine hy_return (i := 11) rfl rfl ?_
    exact ⟨rfl, by simp_all [tp_fail]⟩
theorem c_T_failAt {n w : Int} (hn : 0 ≤ n ∧ n < 10) (hl : -1 ≤ w ∧ w ≤ 1000) : hy_Ct sc hm_T_failAt 0 [.inr (some 3), .inl n, .inl w] t (hy_e none (tp_fail t n w)) := by
  refine hy_mk_ct ok_T_failAt ck_T_failAt (Nat.le_of_ble_eq_true rfl) ?_
  refine hy_aload (i := 0) rfl rfl ?_
  refine hy_get (i := 1) (fk := 4) rfl rfl rfl ?_
  refine hy_if_ne (i := 2) (tt := 10) rfl (fun zc1 => ?_) (fun zc1 => ?_)
  · refine hy_return (i := 10) rfl rfl ?_
    exact ⟨rfl, by simp_all [tp_fail]⟩
  · refine hy_aload (i := 3) rfl rfl ?_
    refine hy_const (i := 4) rfl (by decide) ?_
    refine hy_iload (i := 5) rfl rfl ?_
    refine hy_imul (i := 6) rfl (by omega) ?_
    refine hy_iload (i := 7) rfl rfl ?_
    refine hy_isub (i := 8) rfl (by omega) ?_
    refine hy_put (i := 9) (fk := 4) rfl rfl rfl rfl ?_
    refine hy_return (i := 10) rfl rfl ?_
    exact ⟨rfl, by simp_all [tp_fail]⟩
def tp_take (t : hy_T) (s : Int) : hy_T := if tp_next t = s then hy_up t 3 3 (t 3 3 + 1) else tp_fail t 1 (t 3 3)
theorem c_T_take {s : Int} (hl : t 3 2 ≤ 260) (hl2 : -1 ≤ t 3 3 ∧ t 3 3 ≤ 1000) : hy_Ct sc hm_T_take 1 [.inr (some 3), .inl s] t (hy_e none (tp_take t s)) := by
  refine hy_mk_ct ok_T_take ck_T_take (Nat.le_of_ble_eq_true rfl) ?_
  refine hy_aload (i := 0) rfl rfl ?_
  refine hy_cV0e (i := 1) rfl mj_T_next (by decide) rfl (Nat.le_of_ble_eq_true rfl) rfl rfl rfl (c_T_next (by assumption)) ?_
  refine hy_iload (i := 2) rfl rfl ?_
  refine hy_ic_ne (i := 3) (tt := 11) rfl (fun zc1 => ?_) (fun zc1 => ?_)
  · refine hy_aload (i := 11) rfl rfl ?_
    refine hy_const (i := 12) rfl (by decide) ?_
    refine hy_cV1v (i := 13) rfl mj_T_fail (by decide) rfl (Nat.le_of_ble_eq_true rfl) rfl rfl rfl (c_T_fail (by decide) (by omega)) ?_
    refine hy_return (i := 14) rfl rfl ?_
    exact ⟨rfl, by simp_all [tp_take]⟩
  · refine hy_aload (i := 4) rfl rfl ?_
    refine hy_dup (i := 5) rfl ?_
    refine hy_get (i := 6) (fk := 3) rfl rfl rfl ?_
    refine hy_const (i := 7) rfl (by decide) ?_
    refine hy_iadd (i := 8) rfl (by omega) ?_
    refine hy_put (i := 9) (fk := 3) rfl rfl rfl rfl ?_
    refine hy_goto (i := 10) (tt := 14) rfl ?_
    refine hy_return (i := 14) rfl rfl ?_
    exact ⟨rfl, by simp_all [tp_take]⟩
def tp_finish (t : hy_T) : hy_T := if t 3 3 < t 3 2 then tp_fail t 1 (t 3 3) else t
theorem c_T_finish (hl2 : -1 ≤ t 3 3 ∧ t 3 3 ≤ 1000) : hy_Ct sc hm_T_finish 1 [.inr (some 3)] t (hy_e none (tp_finish t)) := by
  refine hy_mk_ct ok_T_finish ck_T_finish (Nat.le_of_ble_eq_true rfl) ?_
  refine hy_aload (i := 0) rfl rfl ?_
  refine hy_get (i := 1) (fk := 3) rfl rfl rfl ?_
  refine hy_aload (i := 2) rfl rfl ?_
  refine hy_get (i := 3) (fk := 2) rfl rfl rfl ?_
  refine hy_ic_ge (i := 4) (tt := 8) rfl (fun zc1 => ?_) (fun zc1 => ?_)
  · refine hy_return (i := 8) rfl rfl ?_
    exact ⟨rfl, by simp only [tp_finish]; split <;> first | rfl | omega⟩
  · refine hy_aload (i := 5) rfl rfl ?_
    refine hy_const (i := 6) rfl (by decide) ?_
    refine hy_cV1v (i := 7) rfl mj_T_fail (by decide) rfl (Nat.le_of_ble_eq_true rfl) rfl rfl rfl (c_T_fail (by decide) (by omega)) ?_
    refine hy_return (i := 8) rfl rfl ?_
    exact ⟨rfl, by simp only [tp_finish]; split <;> first | rfl | omega⟩
end PAL
