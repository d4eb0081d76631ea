/-! the class's signals -/
abbrev snX : Nat → Nat → Bool := fun r _ => r == 17 || r == 18 || r == 46 || r == 58
theorem snX_law {t t1 : hy_T} (h : hy_F snX t t1) : lc_same t t1 := lc_same_of h (fun r j q => by revert q; simp [lawX, snX]; omega)
theorem sn_seen {t t1 : hy_T} (h : hy_F snX t t1) (e q : Int) : sp_seen t1 e q = sp_seen t e q := by
  unfold sp_seen
  rw [sp_seenN_G h (snX_law h) rfl rfl (fun _ => rfl) (fun _ => rfl), show t1 34 = t 34 from funext fun j => h 34 j rfl]
theorem sn_as {t t1 : hy_T} (h : hy_F snX t t1) (s : Int) (f : Nat → Int) : ∀ n : Nat, sp_asN t1 s f n = sp_asN t s f n
  | 0 => rfl
  | n + 1 => by
    simp only [sp_asN]
    rw [sn_as h s f n, h 5 3 rfl, show t1 6 n = t 6 n from h 6 n rfl, show t1 7 n = t 7 n from h 7 n rfl]
def wf_alk (L : Nat → Int) (c : Int) : Int := sp_alikeN L (lk L c) 12
def wf_unl (w : Int) (L : Nat → Int) (c : Int) : Int := if lk L c = 12 then 0 else hz_ior (hz_iand (hz_iand w (hz_ixor (wf_alk L c) (-1))) (hz_ixor (wf_alk L 12) (-1))) (hz_ishl 1 c)
def wf_aL (t : hy_T) (q fr fo : Int) : Nat → Nat → Int
  | 0 => t 46
  | e + 1 => if hz_b fr e = true ∨ hz_b fo e = true then sp_asN t (sp_seen t e q) (wf_aL t q fr fo e) 12 else wf_aL t q fr fo e
def wf_pr (t : hy_T) (q fr fo : Int) : Nat → Nat → Int
  | 0, c => if sp_told (t 5 2) c = true then t 5 2 else 0
  | e + 1, c => if hz_b fr e = true then hz_iand (wf_pr t q fr fo e c) (wf_unl (t 5 2) (wf_aL t q fr fo (e + 1)) c) else if hz_b fo e = true then hz_iand (wf_pr t q fr fo e c) (wf_alk (wf_aL t q fr fo (e + 1)) c) else wf_pr t q fr fo e c
def wf_sig (P : Nat → Int) (s : Int) : Bool := decide (∀ c : Nat, c < 12 → hz_b s c = true → hz_iand s (hz_ixor (P c) (-1)) = 0)
def wf_setsN (P : Nat → Int) (n : Int) : Nat → Int
  | 0 => 0
  | k + 1 => if sp_bc k = n ∧ wf_sig P k = true then wf_setsN P n k + 1 else wf_setsN P n k
theorem wf_setsN_e (P : Nat → Int) (n : Int) (k : Nat) : wf_setsN P n (k + 1) = if sp_bc k = n ∧ wf_sig P k = true then wf_setsN P n k + 1 else wf_setsN P n k := rfl
theorem wf_setsN_in (P : Nat → Int) (n : Int) : ∀ k : Nat, 0 ≤ wf_setsN P n k ∧ wf_setsN P n k ≤ k
  | 0 => by simp [wf_setsN]
  | k + 1 => by
    have h := wf_setsN_in P n k
    simp only [wf_setsN]
    split <;> omega
def wf_firstN (P : Nat → Int) (n : Int) : Nat → Nat → Int
  | 0, _ => -2
  | m + 1, k => if sp_bc k = n ∧ wf_sig P k = true then (k : Int) else wf_firstN P n m (k + 1)
def wf_mostN (P : Nat → Int) : Nat → Int
  | 0 => 0
  | m + 1 => if 0 ≤ wf_firstN P ((m : Int) + 2) 4096 0 then (m : Int) + 2 else wf_mostN P m
section WS
variable {sc : List Int32} {t : hy_T}
theorem c_W_unlike {c : Int} : hy_Ct sc hm_W_unlike 3 [.inr (some 2), .inl c] t (hy_e (some (wf_unl (t 5 2) (t 46) c)) t) := by
  refine hy_mk_ct ok_W_unlike ck_W_unlike (Nat.le_of_ble_eq_true rfl) ?_
  refine hy_aload (i := 0) rfl rfl ?_
  refine hy_getr (i := 1) rfl rfl ?_
  refine hy_iload (i := 2) rfl rfl ?_
  refine hy_cV1e (i := 3) rfl mj_E_looks (by decide) rfl (Nat.le_of_ble_eq_true rfl) rfl rfl rfl (c_E_looks) ?_
  refine hy_const (i := 4) rfl (by decide) ?_
  refine hy_ic_ne (i := 5) (tt := 8) rfl (fun zc1 => ?_) (fun zc1 => ?_)
  · refine hy_aload (i := 8) rfl rfl ?_
    refine hy_getr (i := 9) rfl rfl ?_
    refine hy_cV0e (i := 10) rfl mj_P_told (by decide) rfl (Nat.le_of_ble_eq_true rfl) rfl rfl rfl (c_P_told) ?_
    refine hy_aload (i := 11) rfl rfl ?_
    refine hy_getr (i := 12) rfl rfl ?_
    refine hy_iload (i := 13) rfl rfl ?_
    refine hy_cV1e (i := 14) rfl mj_E_alike (by decide) rfl (Nat.le_of_ble_eq_true rfl) rfl rfl rfl (c_E_alike) ?_
    refine hy_const (i := 15) rfl (by decide) ?_
    refine hy_ixor (i := 16) rfl ?_
    refine hy_iand (i := 17) rfl ?_
    refine hy_aload (i := 18) rfl rfl ?_
    refine hy_getr (i := 19) rfl rfl ?_
    refine hy_const (i := 20) rfl (by decide) ?_
    refine hy_cV1e (i := 21) rfl mj_E_alike (by decide) rfl (Nat.le_of_ble_eq_true rfl) rfl rfl rfl (c_E_alike) ?_
    refine hy_const (i := 22) rfl (by decide) ?_
    refine hy_ixor (i := 23) rfl ?_
    refine hy_iand (i := 24) rfl ?_
    refine hy_const (i := 25) rfl (by decide) ?_
    refine hy_iload (i := 26) rfl rfl ?_
    refine hy_ishl (i := 27) rfl ?_
    refine hy_ior (i := 28) rfl ?_
    refine hy_ireturn (i := 29) rfl rfl ?_
    exact ⟨congrArg some (by unfold wf_unl; first | (rw [if_pos (by assumption)]; done) | (rw [if_neg (by assumption)]; rfl)), rfl⟩
  · refine hy_const (i := 6) rfl (by decide) ?_
    refine hy_goto (i := 7) (tt := 29) rfl ?_
    refine hy_ireturn (i := 29) rfl rfl ?_
    exact ⟨congrArg some (by unfold wf_unl; first | (rw [if_pos (by assumption)]; done) | (rw [if_neg (by assumption)]; rfl)), rfl⟩
theorem c_W_isSignalSet {s : Int} : hy_Ct sc hm_W_isSignalSet 1 [.inr (some 2), .inl s] t (hy_e (some (hy_b (wf_sig (t 58) s))) t) := by
  refine hy_mk_ct ok_W_isSignalSet ck_W_isSignalSet (Nat.le_of_ble_eq_true rfl) ?_
  have loop : ∀ (m : Nat), ∀ (k : Nat), m + k = 12 → (∀ c : Nat, c < k → hz_b s c = true → hz_iand s (hz_ixor (t 58 c) (-1)) = 0) → hy_W sc hm_W_isSignalSet 1 2 [.inr (some 2), .inl s, .inl (k : Int)] [] t (hy_e (some (hy_b (wf_sig (t 58) s))) t) := by
    intro m
    induction m with
    | zero =>
      intro k hm hk
      obtain rfl : k = 12 := by omega
      rw [show wf_sig (t 58) s = true from decide_eq_true hk]
      refine hy_iload (i := 2) rfl rfl ?_
      refine hy_const (i := 3) rfl (by decide) ?_
      refine hy_ic_ge (i := 4) (tt := 23) rfl (fun zc1 => ?_) (fun zc1 => ?_)
      · refine hy_const (i := 23) rfl (by decide) ?_
        refine hy_zreturn (i := 24) rfl rfl (by first | decide | exact hy_b01 _) ?_
        exact ⟨rfl, rfl⟩
      · omega
    | succ m ih =>
      intro k hm hk
      by_cases hb : hz_b s k = true
      · by_cases hp : hz_iand s (hz_ixor (t 58 k) (-1)) = 0
        · skip
          refine hy_iload (i := 2) rfl rfl ?_
          refine hy_const (i := 3) rfl (by decide) ?_
          refine hy_ic_ge (i := 4) (tt := 23) rfl (fun zc1 => ?_) (fun zc1 => ?_)
          · omega
          · refine hy_iload (i := 5) rfl rfl ?_
            refine hy_iload (i := 6) rfl rfl ?_
            refine hy_cS2e (i := 7) rfl (by decide) mj_W_bit (by decide) rfl (Nat.le_of_ble_eq_true rfl) (c_W_bit) ?_
            refine hy_const (i := 8) rfl (by decide) ?_
            refine hy_icb_ne (i := 9) (tt := 21) rfl (fun zc2 => ?_) (fun zc2 => ?_)
            · rw [hb] at zc2; cases zc2
            · refine hy_iload (i := 10) rfl rfl ?_
              refine hy_aload (i := 11) rfl rfl ?_
              refine hy_getr (i := 12) rfl rfl ?_
              refine hy_iload (i := 13) rfl rfl ?_
              refine hy_iald (i := 14) rfl rfl (by omega) (k := k) (by omega) ?_
              refine hy_const (i := 15) rfl (by decide) ?_
              refine hy_ixor (i := 16) rfl ?_
              refine hy_iand (i := 17) rfl ?_
              refine hy_if_eq (i := 18) (tt := 21) rfl (fun zc3 => ?_) (fun zc3 => ?_)
              · refine hy_iinc (i := 21) rfl rfl (by omega) ?_
                refine hy_goto (i := 22) (tt := 2) rfl ?_
                exact ih (k + 1) (by omega) (fun c hc h => if e : c = k then by rw [e]; exact hp else hk c (by omega) h)
              · omega
        · rw [show wf_sig (t 58) s = false from decide_eq_false (fun h => hp (h k (by omega) hb))]
          refine hy_iload (i := 2) rfl rfl ?_
          refine hy_const (i := 3) rfl (by decide) ?_
          refine hy_ic_ge (i := 4) (tt := 23) rfl (fun zc1 => ?_) (fun zc1 => ?_)
          · omega
          · refine hy_iload (i := 5) rfl rfl ?_
            refine hy_iload (i := 6) rfl rfl ?_
            refine hy_cS2e (i := 7) rfl (by decide) mj_W_bit (by decide) rfl (Nat.le_of_ble_eq_true rfl) (c_W_bit) ?_
            refine hy_const (i := 8) rfl (by decide) ?_
            refine hy_icb_ne (i := 9) (tt := 21) rfl (fun zc2 => ?_) (fun zc2 => ?_)
            · rw [hb] at zc2; cases zc2
            · refine hy_iload (i := 10) rfl rfl ?_
              refine hy_aload (i := 11) rfl rfl ?_
              refine hy_getr (i := 12) rfl rfl ?_
              refine hy_iload (i := 13) rfl rfl ?_
              refine hy_iald (i := 14) rfl rfl (by omega) (k := k) (by omega) ?_
              refine hy_const (i := 15) rfl (by decide) ?_
              refine hy_ixor (i := 16) rfl ?_
              refine hy_iand (i := 17) rfl ?_
              refine hy_if_eq (i := 18) (tt := 21) rfl (fun zc3 => ?_) (fun zc3 => ?_)
              · omega
              · refine hy_const (i := 19) rfl (by decide) ?_
                refine hy_zreturn (i := 20) rfl rfl (by first | decide | exact hy_b01 _) ?_
                exact ⟨rfl, rfl⟩
      · skip
        refine hy_iload (i := 2) rfl rfl ?_
        refine hy_const (i := 3) rfl (by decide) ?_
        refine hy_ic_ge (i := 4) (tt := 23) rfl (fun zc1 => ?_) (fun zc1 => ?_)
        · omega
        · refine hy_iload (i := 5) rfl rfl ?_
          refine hy_iload (i := 6) rfl rfl ?_
          refine hy_cS2e (i := 7) rfl (by decide) mj_W_bit (by decide) rfl (Nat.le_of_ble_eq_true rfl) (c_W_bit) ?_
          refine hy_const (i := 8) rfl (by decide) ?_
          refine hy_icb_ne (i := 9) (tt := 21) rfl (fun zc2 => ?_) (fun zc2 => ?_)
          · refine hy_iinc (i := 21) rfl rfl (by omega) ?_
            refine hy_goto (i := 22) (tt := 2) rfl ?_
            exact ih (k + 1) (by omega) (fun c hc h => if e : c = k then by rw [e] at h; exact absurd h hb else hk c (by omega) h)
          · exact absurd zc2 hb
  refine hy_const (i := 0) rfl (by decide) ?_
  refine hy_istore (i := 1) rfl ?_
  exact loop 12 0 rfl (fun c hc => by omega)
theorem c_W_setsOf {n : Int} : hy_Ct sc hm_W_setsOf 2 [.inr (some 2), .inl n] t (hy_e (some (wf_setsN (t 58) n 4096)) t) := by
  refine hy_mk_ct ok_W_setsOf ck_W_setsOf (Nat.le_of_ble_eq_true rfl) ?_
  have loop : ∀ (m : Nat), ∀ (k : Nat), m + k = 4096 → hy_W sc hm_W_setsOf 2 4 [.inr (some 2), .inl n, .inl (wf_setsN (t 58) n k), .inl (k : Int)] [] t (hy_e (some (wf_setsN (t 58) n 4096)) t) := by
    intro m
    induction m with
    | zero =>
      intro k hm
      obtain rfl : k = 4096 := by omega
      refine hy_iload (i := 4) rfl rfl ?_
      refine hy_const (i := 5) rfl (by decide) ?_
      refine hy_ic_ge (i := 6) (tt := 18) rfl (fun zc1 => ?_) (fun zc1 => ?_)
      · refine hy_iload (i := 18) rfl rfl ?_
        refine hy_ireturn (i := 19) rfl rfl ?_
        exact ⟨rfl, rfl⟩
      · omega
    | succ m ih =>
      intro k hm
      have hin := wf_setsN_in (t 58) n k
      refine hy_iload (i := 4) rfl rfl ?_
      refine hy_const (i := 5) rfl (by decide) ?_
      refine hy_ic_ge (i := 6) (tt := 18) rfl (fun zc1 => ?_) (fun zc1 => ?_)
      · omega
      · refine hy_iload (i := 7) rfl rfl ?_
        refine hy_cS1e (i := 8) rfl (by decide) mj_J_bitCount (by decide) rfl (Nat.le_of_ble_eq_true rfl) (c_J_bitCount) ?_
        refine hy_iload (i := 9) rfl rfl ?_
        refine hy_ic_ne (i := 10) (tt := 16) rfl (fun zc2 => ?_) (fun zc2 => ?_)
        · refine hy_iinc (i := 16) rfl rfl (by omega) ?_
          refine hy_goto (i := 17) (tt := 4) rfl ?_
          have h := ih (k + 1) (by omega)
          rw [wf_setsN_e (t 58) n k] at h
          first | (rw [if_pos ⟨by assumption, by assumption⟩] at h; exact h) | (rw [if_neg (fun q => by first | exact absurd q.1 (by assumption) | (rw [zc3] at q; exact absurd q.2 (by decide)))] at h; exact h)
        · refine hy_aload (i := 11) rfl rfl ?_
          refine hy_iload (i := 12) rfl rfl ?_
          refine hy_cV1e (i := 13) rfl mj_W_isSignalSet (by decide) rfl (Nat.le_of_ble_eq_true rfl) rfl rfl rfl (c_W_isSignalSet) ?_
          refine hy_ib_eq (i := 14) (tt := 16) rfl (fun zc3 => ?_) (fun zc3 => ?_)
          · refine hy_iinc (i := 16) rfl rfl (by omega) ?_
            refine hy_goto (i := 17) (tt := 4) rfl ?_
            have h := ih (k + 1) (by omega)
            rw [wf_setsN_e (t 58) n k] at h
            first | (rw [if_pos ⟨by assumption, by assumption⟩] at h; exact h) | (rw [if_neg (fun q => by first | exact absurd q.1 (by assumption) | (rw [zc3] at q; exact absurd q.2 (by decide)))] at h; exact h)
          · refine hy_iinc (i := 15) rfl rfl (by omega) ?_
            refine hy_iinc (i := 16) rfl rfl (by omega) ?_
            refine hy_goto (i := 17) (tt := 4) rfl ?_
            have h := ih (k + 1) (by omega)
            rw [wf_setsN_e (t 58) n k] at h
            first | (rw [if_pos ⟨by assumption, by assumption⟩] at h; exact h) | (rw [if_neg (fun q => by first | exact absurd q.1 (by assumption) | (rw [zc3] at q; exact absurd q.2 (by decide)))] at h; exact h)
  refine hy_const (i := 0) rfl (by decide) ?_
  refine hy_istore (i := 1) rfl ?_
  refine hy_const (i := 2) rfl (by decide) ?_
  refine hy_istore (i := 3) rfl ?_
  exact loop 4096 0 rfl
theorem c_W_firstSetOf {n : Int} : hy_Ct sc hm_W_firstSetOf 2 [.inr (some 2), .inl n] t (hy_e (some (wf_firstN (t 58) n 4096 0)) t) := by
  refine hy_mk_ct ok_W_firstSetOf ck_W_firstSetOf (Nat.le_of_ble_eq_true rfl) ?_
  have loop : ∀ (m : Nat), ∀ (k : Nat), m + k = 4096 → wf_firstN (t 58) n m k = wf_firstN (t 58) n 4096 0 → hy_W sc hm_W_firstSetOf 2 2 [.inr (some 2), .inl n, .inl (k : Int)] [] t (hy_e (some (wf_firstN (t 58) n 4096 0)) t) := by
    intro m
    induction m with
    | zero =>
      intro k hm he
      rw [← he]
      refine hy_iload (i := 2) rfl rfl ?_
      refine hy_const (i := 3) rfl (by decide) ?_
      refine hy_ic_ge (i := 4) (tt := 17) rfl (fun zc1 => ?_) (fun zc1 => ?_)
      · refine hy_const (i := 17) rfl (by decide) ?_
        refine hy_ireturn (i := 18) rfl rfl ?_
        exact ⟨rfl, rfl⟩
      · omega
    | succ m ih =>
      intro k hm he
      by_cases hc : sp_bc k = n ∧ wf_sig (t 58) k = true
      · have e : wf_firstN (t 58) n (m + 1) k = k := by simp only [wf_firstN]; rw [if_pos hc]
        rw [← he, e]
        refine hy_iload (i := 2) rfl rfl ?_
        refine hy_const (i := 3) rfl (by decide) ?_
        refine hy_ic_ge (i := 4) (tt := 17) rfl (fun zc1 => ?_) (fun zc1 => ?_)
        · omega
        · refine hy_iload (i := 5) rfl rfl ?_
          refine hy_cS1e (i := 6) rfl (by decide) mj_J_bitCount (by decide) rfl (Nat.le_of_ble_eq_true rfl) (c_J_bitCount) ?_
          refine hy_iload (i := 7) rfl rfl ?_
          refine hy_ic_ne (i := 8) (tt := 15) rfl (fun zc2 => ?_) (fun zc2 => ?_)
          · exact absurd hc.1 (by assumption)
          · refine hy_aload (i := 9) rfl rfl ?_
            refine hy_iload (i := 10) rfl rfl ?_
            refine hy_cV1e (i := 11) rfl mj_W_isSignalSet (by decide) rfl (Nat.le_of_ble_eq_true rfl) rfl rfl rfl (c_W_isSignalSet) ?_
            refine hy_ib_eq (i := 12) (tt := 15) rfl (fun zc3 => ?_) (fun zc3 => ?_)
            · rw [hc.2] at zc3; cases zc3
            · refine hy_iload (i := 13) rfl rfl ?_
              refine hy_ireturn (i := 14) rfl rfl ?_
              exact ⟨rfl, rfl⟩
      · have e : wf_firstN (t 58) n (m + 1) k = wf_firstN (t 58) n m (k + 1) := by simp only [wf_firstN]; rw [if_neg hc]
        rw [e] at he
        refine hy_iload (i := 2) rfl rfl ?_
        refine hy_const (i := 3) rfl (by decide) ?_
        refine hy_ic_ge (i := 4) (tt := 17) rfl (fun zc1 => ?_) (fun zc1 => ?_)
        · omega
        · refine hy_iload (i := 5) rfl rfl ?_
          refine hy_cS1e (i := 6) rfl (by decide) mj_J_bitCount (by decide) rfl (Nat.le_of_ble_eq_true rfl) (c_J_bitCount) ?_
          refine hy_iload (i := 7) rfl rfl ?_
          refine hy_ic_ne (i := 8) (tt := 15) rfl (fun zc2 => ?_) (fun zc2 => ?_)
          · refine hy_iinc (i := 15) rfl rfl (by omega) ?_
            refine hy_goto (i := 16) (tt := 2) rfl ?_
            exact ih (k + 1) (by omega) he
          · refine hy_aload (i := 9) rfl rfl ?_
            refine hy_iload (i := 10) rfl rfl ?_
            refine hy_cV1e (i := 11) rfl mj_W_isSignalSet (by decide) rfl (Nat.le_of_ble_eq_true rfl) rfl rfl rfl (c_W_isSignalSet) ?_
            refine hy_ib_eq (i := 12) (tt := 15) rfl (fun zc3 => ?_) (fun zc3 => ?_)
            · refine hy_iinc (i := 15) rfl rfl (by omega) ?_
              refine hy_goto (i := 16) (tt := 2) rfl ?_
              exact ih (k + 1) (by omega) he
            · exfalso; exact hc ⟨by first | assumption | omega, zc3⟩
  refine hy_const (i := 0) rfl (by decide) ?_
  refine hy_istore (i := 1) rfl ?_
  exact loop 4096 0 rfl rfl
theorem c_W_mostSignals : hy_Ct sc hm_W_mostSignals 3 [.inr (some 2)] t (hy_e (some (wf_mostN (t 58) 5)) t) := by
  refine hy_mk_ct ok_W_mostSignals ck_W_mostSignals (Nat.le_of_ble_eq_true rfl) ?_
  have loop : ∀ (m : Nat), m ≤ 5 → wf_mostN (t 58) m = wf_mostN (t 58) 5 → hy_W sc hm_W_mostSignals 3 2 [.inr (some 2), .inl ((m : Int) + 1)] [] t (hy_e (some (wf_mostN (t 58) 5)) t) := by
    intro m
    induction m with
    | zero =>
      intro hm he
      rw [← he]
      refine hy_iload (i := 2) rfl rfl ?_
      refine hy_const (i := 3) rfl (by decide) ?_
      refine hy_ic_lt (i := 4) (tt := 13) rfl (fun zc1 => ?_) (fun zc1 => ?_)
      · refine hy_const (i := 13) rfl (by decide) ?_
        refine hy_ireturn (i := 14) rfl rfl ?_
        exact ⟨rfl, rfl⟩
      · omega
    | succ m ih =>
      intro hm he
      rw [show (((m + 1 : Nat) : Int) + 1) = (m : Int) + 2 by omega]
      by_cases hc : 0 ≤ wf_firstN (t 58) ((m : Int) + 2) 4096 0
      · have e : wf_mostN (t 58) (m + 1) = (m : Int) + 2 := by simp only [wf_mostN]; rw [if_pos hc]
        rw [← he, e]
        refine hy_iload (i := 2) rfl rfl ?_
        refine hy_const (i := 3) rfl (by decide) ?_
        refine hy_ic_lt (i := 4) (tt := 13) rfl (fun zc1 => ?_) (fun zc1 => ?_)
        · omega
        · refine hy_aload (i := 5) rfl rfl ?_
          refine hy_iload (i := 6) rfl rfl ?_
          refine hy_cV1e (i := 7) rfl mj_W_firstSetOf (by decide) rfl (Nat.le_of_ble_eq_true rfl) rfl rfl rfl (c_W_firstSetOf) ?_
          refine hy_if_lt (i := 8) (tt := 11) rfl (fun zc2 => ?_) (fun zc2 => ?_)
          · omega
          · refine hy_iload (i := 9) rfl rfl ?_
            refine hy_ireturn (i := 10) rfl rfl ?_
            exact ⟨rfl, rfl⟩
      · have e : wf_mostN (t 58) (m + 1) = wf_mostN (t 58) m := by simp only [wf_mostN]; rw [if_neg hc]
        rw [e] at he
        refine hy_iload (i := 2) rfl rfl ?_
        refine hy_const (i := 3) rfl (by decide) ?_
        refine hy_ic_lt (i := 4) (tt := 13) rfl (fun zc1 => ?_) (fun zc1 => ?_)
        · omega
        · refine hy_aload (i := 5) rfl rfl ?_
          refine hy_iload (i := 6) rfl rfl ?_
          refine hy_cV1e (i := 7) rfl mj_W_firstSetOf (by decide) rfl (Nat.le_of_ble_eq_true rfl) rfl rfl rfl (c_W_firstSetOf) ?_
          refine hy_if_lt (i := 8) (tt := 11) rfl (fun zc2 => ?_) (fun zc2 => ?_)
          · refine hy_iinc (i := 11) rfl rfl (by omega) ?_
            refine hy_goto (i := 12) (tt := 2) rfl ?_
            rw [show (m : Int) + 2 + -1 = (m : Int) + 1 by omega]
            exact ih (by omega) he
          · omega
  refine hy_const (i := 0) rfl (by decide) ?_
  refine hy_istore (i := 1) rfl ?_
  exact loop 5 (by decide) rfl
theorem c_W_findPartners {fr fo q : Int} (hk : lc_ok t) : hy_Ct sc hm_W_findPartners 5 [.inr (some 2), .inl fr, .inl fo, .inl q] t (fun r t' => r = none ∧ (∀ c : Nat, c < 12 → t' 58 c = wf_pr t q fr fo 6 c) ∧ hy_F snX t t') := by
  refine hy_mk_ct ok_W_findPartners ck_W_findPartners (Nat.le_of_ble_eq_true rfl) ?_
  have loop2 : ∀ (m : Nat), ∀ (k : Nat) (t1 : hy_T) (v5 v6 : hy_V), m + k = 6 → hy_F snX t t1 → t1 46 = wf_aL t q fr fo k → (∀ c : Nat, c < 12 → t1 58 c = wf_pr t q fr fo k c) → hy_W sc hm_W_findPartners 5 23 [.inr (some 2), .inl fr, .inl fo, .inl q, .inl (k : Int), v5, v6] [] t1 (fun r t' => r = none ∧ (∀ c : Nat, c < 12 → t' 58 c = wf_pr t q fr fo 6 c) ∧ hy_F snX t t') := by
    intro m
    induction m with
    | zero =>
      intro k t1 v5 v6 hm hF ha hp
      obtain rfl : k = 6 := by omega
      refine hy_iload (i := 23) rfl rfl ?_
      refine hy_const (i := 24) rfl (by decide) ?_
      refine hy_ic_ge (i := 25) (tt := 73) rfl (fun zc1 => ?_) (fun zc1 => ?_)
      · refine hy_return (i := 73) rfl rfl ?_
        exact ⟨rfl, hp, hF⟩
      · omega
    | succ m ih =>
      intro k t1 v5 v6 hm hF ha hp
      have inner : ∀ (f : Int) (t2 : hy_T), f = hy_b (hz_b fr k) → (hz_b fr k = true ∨ hz_b fo k = true) → ∀ (m2 : Nat), ∀ (c : Nat) (t3 : hy_T), m2 + c = 12 → hy_F snX t t3 → t3 46 = wf_aL t q fr fo (k + 1) → (∀ j : Nat, j < 12 → t3 58 j = if j < c then wf_pr t q fr fo (k + 1) j else wf_pr t q fr fo k j) → hy_W sc hm_W_findPartners 5 49 [.inr (some 2), .inl fr, .inl fo, .inl q, .inl (k : Int), .inl f, .inl (c : Int)] [] t3 (fun r t' => r = none ∧ (∀ c : Nat, c < 12 → t' 58 c = wf_pr t q fr fo 6 c) ∧ hy_F snX t t') := by
        intro f t2 hf hor m2
        induction m2 with
        | zero =>
          intro c t3 hm2 hF3 ha3 hp3
          obtain rfl : c = 12 := by omega
          refine hy_iload (i := 49) rfl rfl ?_
          refine hy_const (i := 50) rfl (by decide) ?_
          refine hy_ic_ge (i := 51) (tt := 71) rfl (fun zc1 => ?_) (fun zc1 => ?_)
          · refine hy_iinc (i := 71) rfl rfl (by omega) ?_
            refine hy_goto (i := 72) (tt := 23) rfl ?_
            exact ih (k + 1) t3 _ _ (by omega) hF3 ha3 (fun j hj => by rw [hp3 j hj, if_pos hj])
          · omega
        | succ m2 ih2 =>
          intro c t3 hm2 hF3 ha3 hp3
          have hpc : t3 58 c = wf_pr t q fr fo k c := by rw [hp3 c (by omega), if_neg (by omega)]
          have e5 : t3 5 2 = t 5 2 := hF3 5 2 rfl
          by_cases hfr : hz_b fr k = true
          · have ew : wf_pr t q fr fo (k + 1) c = hz_iand (t3 58 c) (wf_unl (t3 5 2) (t3 46) c) := by simp only [wf_pr]; rw [if_pos hfr, hpc, e5, ha3]
            obtain rfl : f = 1 := by rw [hf, hfr]; rfl
            refine hy_iload (i := 49) rfl rfl ?_
            refine hy_const (i := 50) rfl (by decide) ?_
            refine hy_ic_ge (i := 51) (tt := 71) rfl (fun zc1 => ?_) (fun zc1 => ?_)
            · omega
            · refine hy_aload (i := 52) rfl rfl ?_
              refine hy_getr (i := 53) rfl rfl ?_
              refine hy_iload (i := 54) rfl rfl ?_
              refine hy_dup2 (i := 55) rfl ?_
              refine hy_iald (i := 56) rfl rfl (by omega) (k := c) (by omega) ?_
              refine hy_iload (i := 57) rfl rfl ?_
              refine hy_if_eq (i := 58) (tt := 63) rfl (fun zc2 => ?_) (fun zc2 => ?_)
              · exact absurd zc2 (by decide)
              · refine hy_aload (i := 59) rfl rfl ?_
                refine hy_iload (i := 60) rfl rfl ?_
                refine hy_cV1e (i := 61) rfl mj_W_unlike (by decide) rfl (Nat.le_of_ble_eq_true rfl) rfl rfl rfl (c_W_unlike) ?_
                refine hy_goto (i := 62) (tt := 67) rfl ?_
                refine hy_iand (i := 67) rfl ?_
                refine hy_iast (i := 68) rfl rfl (by omega) (k := c) (by omega) ?_
                refine hy_iinc (i := 69) rfl rfl (by omega) ?_
                refine hy_goto (i := 70) (tt := 49) rfl ?_
                refine ih2 (c + 1) _ (by omega) (hF3.up rfl) ha3 (fun j hj => ?_)
                by_cases hjc : j = c
                · rw [hjc, if_pos (by omega), ew]; simp [hy_up]
                · rw [show ∀ v, hy_up t3 58 c v 58 j = t3 58 j from fun v => by simp [hy_up, hjc], hp3 j hj]; exact (if h9 : j < c then by rw [if_pos h9, if_pos (by omega)] else by rw [if_neg h9, if_neg (by omega)])
          · have hfo : hz_b fo k = true := hor.resolve_left hfr
            have ew : wf_pr t q fr fo (k + 1) c = hz_iand (t3 58 c) (wf_alk (t3 46) c) := by simp only [wf_pr]; rw [if_neg hfr, if_pos hfo, hpc, ha3]
            rw [Bool.not_eq_true] at hfr
            obtain rfl : f = 0 := by rw [hf, hfr]; rfl
            refine hy_iload (i := 49) rfl rfl ?_
            refine hy_const (i := 50) rfl (by decide) ?_
            refine hy_ic_ge (i := 51) (tt := 71) rfl (fun zc1 => ?_) (fun zc1 => ?_)
            · omega
            · refine hy_aload (i := 52) rfl rfl ?_
              refine hy_getr (i := 53) rfl rfl ?_
              refine hy_iload (i := 54) rfl rfl ?_
              refine hy_dup2 (i := 55) rfl ?_
              refine hy_iald (i := 56) rfl rfl (by omega) (k := c) (by omega) ?_
              refine hy_iload (i := 57) rfl rfl ?_
              refine hy_if_eq (i := 58) (tt := 63) rfl (fun zc2 => ?_) (fun zc2 => ?_)
              · refine hy_aload (i := 63) rfl rfl ?_
                refine hy_getr (i := 64) rfl rfl ?_
                refine hy_iload (i := 65) rfl rfl ?_
                refine hy_cV1e (i := 66) rfl mj_E_alike (by decide) rfl (Nat.le_of_ble_eq_true rfl) rfl rfl rfl (c_E_alike) ?_
                refine hy_iand (i := 67) rfl ?_
                refine hy_iast (i := 68) rfl rfl (by omega) (k := c) (by omega) ?_
                refine hy_iinc (i := 69) rfl rfl (by omega) ?_
                refine hy_goto (i := 70) (tt := 49) rfl ?_
                refine ih2 (c + 1) _ (by omega) (hF3.up rfl) ha3 (fun j hj => ?_)
                by_cases hjc : j = c
                · rw [hjc, if_pos (by omega), ew]; simp [hy_up]; rfl
                · rw [show ∀ v, hy_up t3 58 c v 58 j = t3 58 j from fun v => by simp [hy_up, hjc], hp3 j hj]; exact (if h9 : j < c then by rw [if_pos h9, if_pos (by omega)] else by rw [if_neg h9, if_neg (by omega)])
              · exact absurd rfl zc2
      have hk1 := lc_ok_same (snX_law hF) hk
      by_cases hor : hz_b fr k = true ∨ hz_b fo k = true
      · have eL : wf_aL t q fr fo (k + 1) = sp_asN t (sp_seen t k q) (wf_aL t q fr fo k) 12 := by simp only [wf_aL]; rw [if_pos hor]
        refine hy_iload (i := 23) rfl rfl ?_
        refine hy_const (i := 24) rfl (by decide) ?_
        refine hy_ic_ge (i := 25) (tt := 73) rfl (fun zc1 => ?_) (fun zc1 => ?_)
        · omega
        · refine hy_iload (i := 26) rfl rfl ?_
          refine hy_iload (i := 27) rfl rfl ?_
          refine hy_cS2e (i := 28) rfl (by decide) mj_W_bit (by decide) rfl (Nat.le_of_ble_eq_true rfl) (c_W_bit) ?_
          refine hy_const (i := 29) rfl (by decide) ?_
          refine hy_icb_ne (i := 30) (tt := 33) rfl (fun zc2 => ?_) (fun zc2 => ?_)
          · refine hy_const (i := 33) rfl (by decide) ?_
            refine hy_istore (i := 34) rfl ?_
            refine hy_iload (i := 35) rfl rfl ?_
            refine hy_if_ne (i := 36) (tt := 42) rfl (fun zc3 => ?_) (fun zc3 => ?_)
            · refine hy_aload (i := 42) rfl rfl ?_
              refine hy_getr (i := 43) rfl rfl ?_
              refine hy_iload (i := 44) rfl rfl ?_
              refine hy_iload (i := 45) rfl rfl ?_
              refine hy_cV2 (i := 46) rfl mj_E_look (by decide) rfl (Nat.le_of_ble_eq_true rfl) rfl rfl rfl (c_E_look hk1) (fun r2_ t2_ h2 => ?_)
              obtain ⟨rfl, hL2, hF2⟩ := h2
              dsimp only [hy_st, List.nil_append]
              rw [sn_seen hF, ha, sn_as hF, ← eL] at hL2
              have hG := hF.tr' (hF2.w (fun r j q => by revert q; simp [snX, lX]; omega))
              refine hy_const (i := 47) rfl (by decide) ?_
              refine hy_istore (i := 48) rfl ?_
              first | exact inner _ t (by rw [zc2]; rfl) hor 12 0 _ rfl hG (by assumption) (fun j hj => by rw [if_neg (by omega), ← hp j hj]; exact (by assumption : hy_F lX t1 _) 58 j rfl) | exact inner _ t (by rw [show hz_b fr k = false by first | assumption | (rw [← Bool.not_eq_true]; assumption)]; rfl) hor 12 0 _ rfl hG (by assumption) (fun j hj => by rw [if_neg (by omega), ← hp j hj]; exact (by assumption : hy_F lX t1 _) 58 j rfl)
            · refine hy_iload (i := 37) rfl rfl ?_
              refine hy_iload (i := 38) rfl rfl ?_
              refine hy_cS2e (i := 39) rfl (by decide) mj_W_bit (by decide) rfl (Nat.le_of_ble_eq_true rfl) (c_W_bit) ?_
              refine hy_const (i := 40) rfl (by decide) ?_
              refine hy_icb_ne (i := 41) (tt := 71) rfl (fun zc4 => ?_) (fun zc4 => ?_)
              · exfalso; rcases hor with h | h
                · first | exact absurd h (by assumption) | simp_all
                · first | exact absurd h (by assumption) | simp_all
              · refine hy_aload (i := 42) rfl rfl ?_
                refine hy_getr (i := 43) rfl rfl ?_
                refine hy_iload (i := 44) rfl rfl ?_
                refine hy_iload (i := 45) rfl rfl ?_
                refine hy_cV2 (i := 46) rfl mj_E_look (by decide) rfl (Nat.le_of_ble_eq_true rfl) rfl rfl rfl (c_E_look hk1) (fun r3_ t3_ h3 => ?_)
                obtain ⟨rfl, hL3, hF3⟩ := h3
                dsimp only [hy_st, List.nil_append]
                rw [sn_seen hF, ha, sn_as hF, ← eL] at hL3
                have hG := hF.tr' (hF3.w (fun r j q => by revert q; simp [snX, lX]; omega))
                refine hy_const (i := 47) rfl (by decide) ?_
                refine hy_istore (i := 48) rfl ?_
                first | exact inner _ t (by rw [zc2]; rfl) hor 12 0 _ rfl hG (by assumption) (fun j hj => by rw [if_neg (by omega), ← hp j hj]; exact (by assumption : hy_F lX t1 _) 58 j rfl) | exact inner _ t (by rw [show hz_b fr k = false by first | assumption | (rw [← Bool.not_eq_true]; assumption)]; rfl) hor 12 0 _ rfl hG (by assumption) (fun j hj => by rw [if_neg (by omega), ← hp j hj]; exact (by assumption : hy_F lX t1 _) 58 j rfl)
          · refine hy_const (i := 31) rfl (by decide) ?_
            refine hy_goto (i := 32) (tt := 34) rfl ?_
            refine hy_istore (i := 34) rfl ?_
            refine hy_iload (i := 35) rfl rfl ?_
            refine hy_if_ne (i := 36) (tt := 42) rfl (fun zc3 => ?_) (fun zc3 => ?_)
            · refine hy_aload (i := 42) rfl rfl ?_
              refine hy_getr (i := 43) rfl rfl ?_
              refine hy_iload (i := 44) rfl rfl ?_
              refine hy_iload (i := 45) rfl rfl ?_
              refine hy_cV2 (i := 46) rfl mj_E_look (by decide) rfl (Nat.le_of_ble_eq_true rfl) rfl rfl rfl (c_E_look hk1) (fun r2_ t2_ h2 => ?_)
              obtain ⟨rfl, hL2, hF2⟩ := h2
              dsimp only [hy_st, List.nil_append]
              rw [sn_seen hF, ha, sn_as hF, ← eL] at hL2
              have hG := hF.tr' (hF2.w (fun r j q => by revert q; simp [snX, lX]; omega))
              refine hy_const (i := 47) rfl (by decide) ?_
              refine hy_istore (i := 48) rfl ?_
              first | exact inner _ t (by rw [zc2]; rfl) hor 12 0 _ rfl hG (by assumption) (fun j hj => by rw [if_neg (by omega), ← hp j hj]; exact (by assumption : hy_F lX t1 _) 58 j rfl) | exact inner _ t (by rw [show hz_b fr k = false by first | assumption | (rw [← Bool.not_eq_true]; assumption)]; rfl) hor 12 0 _ rfl hG (by assumption) (fun j hj => by rw [if_neg (by omega), ← hp j hj]; exact (by assumption : hy_F lX t1 _) 58 j rfl)
            · refine hy_iload (i := 37) rfl rfl ?_
              refine hy_iload (i := 38) rfl rfl ?_
              refine hy_cS2e (i := 39) rfl (by decide) mj_W_bit (by decide) rfl (Nat.le_of_ble_eq_true rfl) (c_W_bit) ?_
              refine hy_const (i := 40) rfl (by decide) ?_
              refine hy_icb_ne (i := 41) (tt := 71) rfl (fun zc4 => ?_) (fun zc4 => ?_)
              · exfalso; rcases hor with h | h
                · first | exact absurd h (by assumption) | simp_all
                · first | exact absurd h (by assumption) | simp_all
              · refine hy_aload (i := 42) rfl rfl ?_
                refine hy_getr (i := 43) rfl rfl ?_
                refine hy_iload (i := 44) rfl rfl ?_
                refine hy_iload (i := 45) rfl rfl ?_
                refine hy_cV2 (i := 46) rfl mj_E_look (by decide) rfl (Nat.le_of_ble_eq_true rfl) rfl rfl rfl (c_E_look hk1) (fun r3_ t3_ h3 => ?_)
                obtain ⟨rfl, hL3, hF3⟩ := h3
                dsimp only [hy_st, List.nil_append]
                rw [sn_seen hF, ha, sn_as hF, ← eL] at hL3
                have hG := hF.tr' (hF3.w (fun r j q => by revert q; simp [snX, lX]; omega))
                refine hy_const (i := 47) rfl (by decide) ?_
                refine hy_istore (i := 48) rfl ?_
                first | exact inner _ t (by rw [zc2]; rfl) hor 12 0 _ rfl hG (by assumption) (fun j hj => by rw [if_neg (by omega), ← hp j hj]; exact (by assumption : hy_F lX t1 _) 58 j rfl) | exact inner _ t (by rw [show hz_b fr k = false by first | assumption | (rw [← Bool.not_eq_true]; assumption)]; rfl) hor 12 0 _ rfl hG (by assumption) (fun j hj => by rw [if_neg (by omega), ← hp j hj]; exact (by assumption : hy_F lX t1 _) 58 j rfl)
      · have eL : wf_aL t q fr fo (k + 1) = wf_aL t q fr fo k := by simp only [wf_aL]; rw [if_neg hor]
        refine hy_iload (i := 23) rfl rfl ?_
        refine hy_const (i := 24) rfl (by decide) ?_
        refine hy_ic_ge (i := 25) (tt := 73) rfl (fun zc1 => ?_) (fun zc1 => ?_)
        · omega
        · refine hy_iload (i := 26) rfl rfl ?_
          refine hy_iload (i := 27) rfl rfl ?_
          refine hy_cS2e (i := 28) rfl (by decide) mj_W_bit (by decide) rfl (Nat.le_of_ble_eq_true rfl) (c_W_bit) ?_
          refine hy_const (i := 29) rfl (by decide) ?_
          refine hy_icb_ne (i := 30) (tt := 33) rfl (fun zc2 => ?_) (fun zc2 => ?_)
          · refine hy_const (i := 33) rfl (by decide) ?_
            refine hy_istore (i := 34) rfl ?_
            refine hy_iload (i := 35) rfl rfl ?_
            refine hy_if_ne (i := 36) (tt := 42) rfl (fun zc3 => ?_) (fun zc3 => ?_)
            · exact absurd rfl zc3
            · refine hy_iload (i := 37) rfl rfl ?_
              refine hy_iload (i := 38) rfl rfl ?_
              refine hy_cS2e (i := 39) rfl (by decide) mj_W_bit (by decide) rfl (Nat.le_of_ble_eq_true rfl) (c_W_bit) ?_
              refine hy_const (i := 40) rfl (by decide) ?_
              refine hy_icb_ne (i := 41) (tt := 71) rfl (fun zc4 => ?_) (fun zc4 => ?_)
              · refine hy_iinc (i := 71) rfl rfl (by omega) ?_
                refine hy_goto (i := 72) (tt := 23) rfl ?_
                exact ih (k + 1) t1 _ _ (by omega) hF (by rw [eL, ha]) (fun c hc => by rw [hp c hc]; simp only [wf_pr]; rw [if_neg (fun h => hor (.inl h)), if_neg (fun h => hor (.inr h))])
              · exact absurd (.inr zc4) hor
          · exact absurd (.inl zc2) hor
  have loop1 : ∀ (m : Nat), ∀ (k : Nat) (t1 : hy_T), m + k = 12 → hy_F snX t t1 → t1 46 = t 46 → (∀ c : Nat, c < k → t1 58 c = wf_pr t q fr fo 0 c) → hy_W sc hm_W_findPartners 5 2 [.inr (some 2), .inl fr, .inl fo, .inl q, .inl (k : Int), .inr none, .inr none] [] t1 (fun r t' => r = none ∧ (∀ c : Nat, c < 12 → t' 58 c = wf_pr t q fr fo 6 c) ∧ hy_F snX t t') := by
    intro m
    induction m with
    | zero =>
      intro k t1 hm hF ha hp
      obtain rfl : k = 12 := by omega
      refine hy_iload (i := 2) rfl rfl ?_
      refine hy_const (i := 3) rfl (by decide) ?_
      refine hy_ic_ge (i := 4) (tt := 21) rfl (fun zc1 => ?_) (fun zc1 => ?_)
      · refine hy_const (i := 21) rfl (by decide) ?_
        refine hy_istore (i := 22) rfl ?_
        exact loop2 6 0 t1 _ _ rfl hF ha hp
      · omega
    | succ m ih =>
      intro k t1 hm hF ha hp
      have e5 : t1 5 2 = t 5 2 := hF 5 2 rfl
      refine hy_iload (i := 2) rfl rfl ?_
      refine hy_const (i := 3) rfl (by decide) ?_
      refine hy_ic_ge (i := 4) (tt := 21) rfl (fun zc1 => ?_) (fun zc1 => ?_)
      · omega
      · refine hy_aload (i := 5) rfl rfl ?_
        refine hy_getr (i := 6) rfl rfl ?_
        refine hy_iload (i := 7) rfl rfl ?_
        refine hy_aload (i := 8) rfl rfl ?_
        refine hy_getr (i := 9) rfl rfl ?_
        refine hy_iload (i := 10) rfl rfl ?_
        refine hy_cV1e (i := 11) rfl mj_P_isTold (by decide) rfl (Nat.le_of_ble_eq_true rfl) rfl rfl rfl (c_P_isTold) ?_
        refine hy_ib_eq (i := 12) (tt := 17) rfl (fun zc2 => ?_) (fun zc2 => ?_)
        · refine hy_const (i := 17) rfl (by decide) ?_
          refine hy_iast (i := 18) rfl rfl (by omega) (k := k) (by omega) ?_
          refine hy_iinc (i := 19) rfl rfl (by omega) ?_
          refine hy_goto (i := 20) (tt := 2) rfl ?_
          refine ih (k + 1) _ (by omega) (hF.up rfl) ha (fun j hj => ?_)
          by_cases hjk : j = k
          · rw [hjk, show ∀ v, hy_up t1 58 k v 58 k = v from fun v => by simp [hy_up]]; simp only [wf_pr]; rw [e5] at *; first | (rw [if_pos zc2]; done) | (rw [if_neg (by rw [zc2]; decide)]; done)
          · rw [show ∀ v, hy_up t1 58 k v 58 j = t1 58 j from fun v => by simp [hy_up, hjk]]; exact hp j (by omega)
        · refine hy_aload (i := 13) rfl rfl ?_
          refine hy_getr (i := 14) rfl rfl ?_
          refine hy_cV0e (i := 15) rfl mj_P_told (by decide) rfl (Nat.le_of_ble_eq_true rfl) rfl rfl rfl (c_P_told) ?_
          refine hy_goto (i := 16) (tt := 18) rfl ?_
          refine hy_iast (i := 18) rfl rfl (by omega) (k := k) (by omega) ?_
          refine hy_iinc (i := 19) rfl rfl (by omega) ?_
          refine hy_goto (i := 20) (tt := 2) rfl ?_
          refine ih (k + 1) _ (by omega) (hF.up rfl) ha (fun j hj => ?_)
          by_cases hjk : j = k
          · rw [hjk, show ∀ v, hy_up t1 58 k v 58 k = v from fun v => by simp [hy_up]]; simp only [wf_pr]; rw [e5] at *; first | (rw [if_pos zc2]; done) | (rw [if_neg (by rw [zc2]; decide)]; done)
          · rw [show ∀ v, hy_up t1 58 k v 58 j = t1 58 j from fun v => by simp [hy_up, hjk]]; exact hp j (by omega)
  refine hy_const (i := 0) rfl (by decide) ?_
  refine hy_istore (i := 1) rfl ?_
  exact loop1 12 0 t rfl hy_F.rf rfl (fun c hc => by omega)
end WS
