/-! the model's law -/
abbrev Ls : Type := Int × Nat × (Nat → Int) × Nat × (Nat → Nat → Int)
def al_put (R : Nat → Nat → Int) (k : Nat) (c m h e : Int) : Nat → Nat → Int := fun r => if r = 68 then su (R 68) k c else if r = 69 then su (R 69) k m else if r = 70 then su (R 70) k h else if r = 71 then su (R 71) k e else R r
def al_nx (B : Int → Int) (s : Ls) (p : Int) (q : Int × Nat × (Nat → Int) × Nat) : Ls := (q.1, q.2.1, q.2.2.1, s.2.2.2.1 + 1, al_put s.2.2.2.2 s.2.2.2.1 (B p) s.2.1 q.2.2.2 q.2.1)
def al_lawN (B : Int → Int) (len : Int) : Nat → Ls → Int ⊕ Ls
  | 0, _ => .inl 0
  | n + 1, s => if s.1 < len then
      (if B s.1 = 59 then (match az_cl B s.2.2.2.1 (s.1 + 1) s.2.1 s.2.2.1 with
        | .inl e => .inl e
        | .inr q => al_lawN B len n (al_nx B s (s.1 + 1) q))
       else .inl (-1000 - s.1))
    else .inr s
def al_s0 (R : Nat → Nat → Int) : Ls := (0, 0, fun _ => 0, 0, R)
def al_law (B : Int → Int) (len : Int) (R : Nat → Nat → Int) : Int ⊕ Ls := match az_cl B 0 0 0 (fun _ => 0) with
  | .inl e => .inl e
  | .inr q => al_lawN B len 300 (al_nx B (al_s0 R) 0 q)
def al_L (t : hy_T) (s : Ls) : Prop := t 59 10 = s.1 ∧ t 59 15 = (s.2.1 : Int) ∧ (∀ j : Nat, j < s.2.1 → t 66 j = s.2.2.1 j) ∧ t 59 17 = (s.2.2.2.1 : Int) ∧ t 68 = s.2.2.2.2 68 ∧ t 69 = s.2.2.2.2 69 ∧ t 70 = s.2.2.2.2 70 ∧ t 71 = s.2.2.2.2 71
def al_I (s : Ls) : Prop := (0 ≤ s.1 ∧ s.1 ≤ 240) ∧ (s.2.1 : Int) ≤ s.1 ∧ az_rows s.2.2.1 ∧ s.2.2.2.1 ≤ 16 ∧ ∀ q : Nat, q < s.2.2.2.1 → s.2.2.2.2 71 q ≤ s.2.1 ∧ s.2.2.2.2 70 q ≤ s.2.1 ∧ mc_wf s.2.2.1 (s.2.2.2.2 70 q) (s.2.2.2.2 71 q) ∧ ((s.2.2.2.2 68 q = 98 ∨ s.2.2.2.2 68 q = 118) → mc_wf s.2.2.1 (s.2.2.2.2 69 q) (s.2.2.2.2 70 q))
theorem al_nx_s {B : Int → Int} (hB : az_by B) {s : Ls} (h : al_I s) {p : Int} (hp : 0 ≤ p ∧ p ≤ 240) (hm : (s.2.1 : Int) ≤ p) {q : Int × Nat × (Nat → Int) × Nat} (he : az_cl B s.2.2.2.1 p s.2.1 s.2.2.1 = .inr q) : al_I (al_nx B s p q) ∧ p < q.1 := by
  obtain ⟨i1, i2, i3, i4, i5⟩ := h
  obtain ⟨⟨c1, c2⟩, ⟨c3, c4, c5⟩, c6, c7, c8, c9, c10⟩ := az_cl_s hB hp hm i3 he
  refine ⟨⟨⟨by show 0 ≤ q.1; omega, c5⟩, c3, c6, by show s.2.2.2.1 + 1 ≤ 16; omega, fun j hj => ?_⟩, c4⟩
  have e68 : al_put s.2.2.2.2 s.2.2.2.1 (B p) s.2.1 q.2.2.2 q.2.1 68 = su (s.2.2.2.2 68) s.2.2.2.1 (B p) := rfl
  have e69 : al_put s.2.2.2.2 s.2.2.2.1 (B p) s.2.1 q.2.2.2 q.2.1 69 = su (s.2.2.2.2 69) s.2.2.2.1 s.2.1 := rfl
  have e70 : al_put s.2.2.2.2 s.2.2.2.1 (B p) s.2.1 q.2.2.2 q.2.1 70 = su (s.2.2.2.2 70) s.2.2.2.1 q.2.2.2 := rfl
  have e71 : al_put s.2.2.2.2 s.2.2.2.1 (B p) s.2.1 q.2.2.2 q.2.1 71 = su (s.2.2.2.2 71) s.2.2.2.1 q.2.1 := rfl
  unfold al_nx
  dsimp only
  rw [e68, e69, e70, e71]
  simp only [su]
  unfold al_nx at hj
  dsimp only at hj
  by_cases hk : j = s.2.2.2.1
  · simp only [if_pos hk]
    exact ⟨Int.le_refl _, by omega, c8, c9⟩
  · simp only [if_neg hk]
    obtain ⟨d1, d2, d3, d4⟩ := i5 j (by omega)
    exact ⟨by omega, by omega, mc_wf_eq (fun k hk => (c7 k (by omega)).symm) d3, fun hq => mc_wf_eq (fun k hk => (c7 k (by omega)).symm) (d4 hq)⟩
theorem bb_not {p : Bool} (q : (!p) = false) : p = true := by
  cases p
  · cases q
  · rfl
/-- what the law answers and leaves -/
def al_Q (t0 : hy_T) (G : Int ⊕ Ls) (r : Option Int) (t' : hy_T) : Prop := t' 59 9 = 0 ∧ match G with
  | .inl e => r = some e ∧ ∀ r j, mlawX r j = true → t' r j = t0 r j
  | .inr s => r = some (s.2.2.2.1 : Int) ∧ t' 59 18 = (s.2.2.2.1 : Int) ∧ (∀ j : Nat, j < s.2.1 → t' 72 j = s.2.2.1 j) ∧ ∀ q : Nat, q < s.2.2.2.1 → t' 73 q = s.2.2.2.2 68 q ∧ t' 74 q = s.2.2.2.2 69 q ∧ t' 75 q = s.2.2.2.2 70 q ∧ t' 76 q = s.2.2.2.2 71 q
abbrev lwX : Nat → Nat → Bool := fun r j => lrX r j || mlawX r j || (r == 59 && (j == 9 || j == 11))
theorem al_ok_of {t' : hy_T} {s : Ls} (hI : al_I s) (h18 : t' 59 18 = (s.2.2.2.1 : Int)) (h72 : ∀ j : Nat, j < s.2.1 → t' 72 j = s.2.2.1 j) (hr : ∀ q : Nat, q < s.2.2.2.1 → t' 73 q = s.2.2.2.2 68 q ∧ t' 74 q = s.2.2.2.2 69 q ∧ t' 75 q = s.2.2.2.2 70 q ∧ t' 76 q = s.2.2.2.2 71 q) : ml_ok t' := by
  obtain ⟨i1, i2, i3, i4, i5⟩ := hI
  refine ⟨by omega, fun q hq hq2 => ?_⟩
  obtain ⟨d1, d2, d3, d4⟩ := i5 q (by omega)
  obtain ⟨r1, r2, r3, r4⟩ := hr q (by omega)
  rw [r1, r2, r3, r4]
  exact ⟨mc_wf_eq (fun k hk => (h72 k (by omega)).symm) d3, fun ho => mc_wf_eq (fun k hk => (h72 k (by omega)).symm) (d4 ho)⟩
abbrev al_nc (t : hy_T) (n : Int) : Prop := (1 ≤ n ∧ n ≤ 240) ∧ n ≤ t 59 9
def al_B (t : hy_T) (n : Int) : Int → Int := fun p => if p < n then hz_iand (t 65 p.toNat) 255 else -1
section LL
variable {sc : List Int32} {t : hy_T}
theorem c_M_law {n : Int} (hk : ml_ok t) : hy_Ct sc hm_M_law 8 [.inr (some 59), .inl n] t (fun r t' => hy_F lwX t t' ∧ ml_ok t' ∧ (if al_nc t n then al_Q t (al_law (al_B t n) n t) r t' else r = some (-1) ∧ t' = t)) := by
  refine hy_mk_ct ok_M_law ck_M_law (Nat.le_of_ble_eq_true rfl) ?_
  by_cases hq : al_nc t n
  · simp only [if_pos hq]
    generalize hG : al_law (al_B t n) n t = G
    generalize hBB : al_B t n = B at hG
    -- the ends
    have bad : ∀ (t2 : hy_T) (e : Int) (v3 : hy_V), G = .inl e → hy_F lwX t t2 → (∀ r j, mlawX r j = true → t2 r j = t r j) → t2 59 12 = e → hy_W sc hm_M_law 8 45 [.inr (some 59), .inl n, .inl 0, v3] [] t2 (fun r t' => hy_F lwX t t' ∧ ml_ok t' ∧ al_Q t G r t') := by
      intro t2 e v3 hv hF hL he
      refine hy_aload (i := 45) rfl rfl ?_
      refine hy_const (i := 46) rfl (by decide) ?_
      refine hy_put (i := 47) (fk := 9) rfl rfl rfl rfl ?_
      refine hy_iload (i := 48) rfl rfl ?_
      refine hy_if_ne (i := 49) (tt := 53) rfl (fun zc1 => ?_) (fun zc1 => ?_)
      · exact absurd rfl (by assumption)
      · refine hy_aload (i := 50) rfl rfl ?_
        refine hy_get (i := 51) (fk := 12) rfl rfl rfl ?_
        refine hy_ireturn (i := 52) rfl rfl ?_
        refine ⟨hF.up rfl, ml_ok_F (X := fun r j => !mlawX r j) (fun r j q => ?_) (fun r j q => by simp [q]) hk, ?_⟩
        · rw [show hy_up t2 59 9 0 r j = t2 r j by simp only [hy_up]; rw [if_neg (fun c => by rw [c.1, c.2] at q; revert q; decide)]]
          exact hL r j (bb_not q)
        · rw [hv]
          refine ⟨rfl, congrArg some he, fun r j q => ?_⟩
          rw [show hy_up t2 59 9 0 r j = t2 r j by simp only [hy_up]; rw [if_neg (fun c => by rw [c.1, c.2] at q; revert q; decide)]]
          exact hL r j q
    have bad2 : ∀ (t2 : hy_T) (e : Int) (v3 : hy_V), G = .inl e → hy_F lwX t t2 → (∀ r j, mlawX r j = true → t2 r j = t r j) → t2 59 12 = e → hy_W sc hm_M_law 8 26 [.inr (some 59), .inl n, .inl 0, v3] [] t2 (fun r t' => hy_F lwX t t' ∧ ml_ok t' ∧ al_Q t G r t') := by
      intro t2 e v3 hv hF hL he
      refine hy_iload (i := 26) rfl rfl ?_
      refine hy_if_eq (i := 27) (tt := 45) rfl (fun zc1 => ?_) (fun zc1 => ?_)
      · exact bad t2 e _ hv hF hL he
      · exact absurd rfl (by assumption)
    have fin : ∀ (t2 : hy_T) (s : Ls) (v3 : hy_V), G = .inr s → al_I s → al_L t2 s → hy_F lwX t t2 → hy_W sc hm_M_law 8 45 [.inr (some 59), .inl n, .inl 1, v3] [] t2 (fun r t' => hy_F lwX t t' ∧ ml_ok t' ∧ al_Q t G r t') := by
      intro t2 s v3 hv hI hL hF
      obtain ⟨i1, i2, i3, i4, i5⟩ := id hI
      obtain ⟨l1, l2, l3, l4, l5, l6, l7, l8⟩ := hL
      rw [hv]
      have rows : ∀ (m : Nat), ∀ (k : Nat) (t3 : hy_T), m + k = s.2.2.2.1 → hy_F lwX t t3 → t3 59 9 = 0 → t3 59 17 = (s.2.2.2.1 : Int) → t3 59 18 = (s.2.2.2.1 : Int) → (∀ j : Nat, j < s.2.1 → t3 72 j = s.2.2.1 j) → t3 68 = s.2.2.2.2 68 → t3 69 = s.2.2.2.2 69 → t3 70 = s.2.2.2.2 70 → t3 71 = s.2.2.2.2 71 → (∀ q : Nat, q < k → t3 73 q = s.2.2.2.2 68 q ∧ t3 74 q = s.2.2.2.2 69 q ∧ t3 75 q = s.2.2.2.2 70 q ∧ t3 76 q = s.2.2.2.2 71 q) → hy_W sc hm_M_law 8 75 [.inr (some 59), .inl n, .inl 1, .inl (k : Int)] [] t3 (fun r t' => hy_F lwX t t' ∧ ml_ok t' ∧ al_Q t (.inr s) r t') := by
        intro m
        induction m with
        | zero =>
          intro k t3 hm hF3 h9 h17 h18 h72 h68 h69 h70 h71 hr
          obtain rfl : k = s.2.2.2.1 := by omega
          refine hy_iload (i := 75) rfl rfl ?_
          refine hy_aload (i := 76) rfl rfl ?_
          refine hy_get (i := 77) (fk := 17) rfl rfl rfl ?_
          refine hy_ic_ge (i := 78) (tt := 113) rfl (fun zc1 => ?_) (fun zc1 => ?_)
          · refine hy_aload (i := 113) rfl rfl ?_
            refine hy_get (i := 114) (fk := 17) rfl rfl rfl ?_
            refine hy_ireturn (i := 115) rfl rfl ?_
            exact ⟨hF3, al_ok_of hI h18 h72 hr, h9, congrArg some h17, h18, h72, hr⟩
          · omega
        | succ m ih =>
          intro k t3 hm hF3 h9 h17 h18 h72 h68 h69 h70 h71 hr
          refine hy_iload (i := 75) rfl rfl ?_
          refine hy_aload (i := 76) rfl rfl ?_
          refine hy_get (i := 77) (fk := 17) rfl rfl rfl ?_
          refine hy_ic_ge (i := 78) (tt := 113) rfl (fun zc1 => ?_) (fun zc1 => ?_)
          · omega
          · refine hy_aload (i := 79) rfl rfl ?_
            refine hy_getr (i := 80) rfl rfl ?_
            refine hy_iload (i := 81) rfl rfl ?_
            refine hy_aload (i := 82) rfl rfl ?_
            refine hy_getr (i := 83) rfl rfl ?_
            refine hy_iload (i := 84) rfl rfl ?_
            refine hy_iald (i := 85) rfl rfl (by omega) (k := k) (by omega) ?_
            refine hy_iast (i := 86) rfl rfl (by omega) (k := k) (by omega) ?_
            refine hy_aload (i := 87) rfl rfl ?_
            refine hy_getr (i := 88) rfl rfl ?_
            refine hy_iload (i := 89) rfl rfl ?_
            refine hy_aload (i := 90) rfl rfl ?_
            refine hy_getr (i := 91) rfl rfl ?_
            refine hy_iload (i := 92) rfl rfl ?_
            refine hy_iald (i := 93) rfl rfl (by omega) (k := k) (by omega) ?_
            refine hy_iast (i := 94) rfl rfl (by omega) (k := k) (by omega) ?_
            refine hy_aload (i := 95) rfl rfl ?_
            refine hy_getr (i := 96) rfl rfl ?_
            refine hy_iload (i := 97) rfl rfl ?_
            refine hy_aload (i := 98) rfl rfl ?_
            refine hy_getr (i := 99) rfl rfl ?_
            refine hy_iload (i := 100) rfl rfl ?_
            refine hy_iald (i := 101) rfl rfl (by omega) (k := k) (by omega) ?_
            refine hy_iast (i := 102) rfl rfl (by omega) (k := k) (by omega) ?_
            refine hy_aload (i := 103) rfl rfl ?_
            refine hy_getr (i := 104) rfl rfl ?_
            refine hy_iload (i := 105) rfl rfl ?_
            refine hy_aload (i := 106) rfl rfl ?_
            refine hy_getr (i := 107) rfl rfl ?_
            refine hy_iload (i := 108) rfl rfl ?_
            refine hy_iald (i := 109) rfl rfl (by omega) (k := k) (by omega) ?_
            refine hy_iast (i := 110) rfl rfl (by omega) (k := k) (by omega) ?_
            refine hy_iinc (i := 111) rfl rfl (by omega) ?_
            refine hy_goto (i := 112) (tt := 75) rfl ?_
            refine ih (k + 1) _ (by omega) ((((hF3.up rfl).up rfl).up rfl).up rfl) h9 h17 h18 h72 h68 h69 h70 h71 (fun q hq => ?_)
            have e68 : t3 68 k = s.2.2.2.2 68 k := by rw [h68]
            have e69 : t3 69 k = s.2.2.2.2 69 k := by rw [h69]
            have e70 : t3 70 k = s.2.2.2.2 70 k := by rw [h70]
            have e71 : t3 71 k = s.2.2.2.2 71 k := by rw [h71]
            rcases Nat.lt_succ_iff_lt_or_eq.mp hq with h | rfl
            · have hne : q ≠ k := by omega
              have := hr q h
              simp [hy_up, hne]
              exact this
            · simp [hy_up]
              exact ⟨e68, e69, e70, e71⟩
      have codes : ∀ (m : Nat), ∀ (k : Nat) (t3 : hy_T), m + k = s.2.1 → hy_F lwX t t3 → t3 59 9 = 0 → t3 59 15 = (s.2.1 : Int) → (∀ j : Nat, j < s.2.1 → t3 66 j = s.2.2.1 j) → t3 59 17 = (s.2.2.2.1 : Int) → t3 59 18 = (s.2.2.2.1 : Int) → (∀ j : Nat, j < k → t3 72 j = s.2.2.1 j) → t3 68 = s.2.2.2.2 68 → t3 69 = s.2.2.2.2 69 → t3 70 = s.2.2.2.2 70 → t3 71 = s.2.2.2.2 71 → hy_W sc hm_M_law 8 59 [.inr (some 59), .inl n, .inl 1, .inl (k : Int)] [] t3 (fun r t' => hy_F lwX t t' ∧ ml_ok t' ∧ al_Q t (.inr s) r t') := by
        intro m
        induction m with
        | zero =>
          intro k t3 hm hF3 h9 h15 h66 h17 h18 h72 h68 h69 h70 h71
          obtain rfl : k = s.2.1 := by omega
          refine hy_iload (i := 59) rfl rfl ?_
          refine hy_aload (i := 60) rfl rfl ?_
          refine hy_get (i := 61) (fk := 15) rfl rfl rfl ?_
          refine hy_ic_ge (i := 62) (tt := 73) rfl (fun zc1 => ?_) (fun zc1 => ?_)
          · refine hy_const (i := 73) rfl (by decide) ?_
            refine hy_istore (i := 74) rfl ?_
            exact rows s.2.2.2.1 0 t3 rfl hF3 h9 h17 h18 h72 h68 h69 h70 h71 (fun q hq => absurd hq (by omega))
          · omega
        | succ m ih =>
          intro k t3 hm hF3 h9 h15 h66 h17 h18 h72 h68 h69 h70 h71
          refine hy_iload (i := 59) rfl rfl ?_
          refine hy_aload (i := 60) rfl rfl ?_
          refine hy_get (i := 61) (fk := 15) rfl rfl rfl ?_
          refine hy_ic_ge (i := 62) (tt := 73) rfl (fun zc1 => ?_) (fun zc1 => ?_)
          · omega
          · refine hy_aload (i := 63) rfl rfl ?_
            refine hy_getr (i := 64) rfl rfl ?_
            refine hy_iload (i := 65) rfl rfl ?_
            refine hy_aload (i := 66) rfl rfl ?_
            refine hy_getr (i := 67) rfl rfl ?_
            refine hy_iload (i := 68) rfl rfl ?_
            refine hy_iald (i := 69) rfl rfl (by omega) (k := k) (by omega) ?_
            refine hy_iast (i := 70) rfl rfl (by omega) (k := k) (by omega) ?_
            refine hy_iinc (i := 71) rfl rfl (by omega) ?_
            refine hy_goto (i := 72) (tt := 59) rfl ?_
            refine ih (k + 1) _ (by omega) (hF3.up rfl) h9 h15 h66 h17 h18 (fun j hj => ?_) h68 h69 h70 h71
            rcases Nat.lt_succ_iff_lt_or_eq.mp hj with h | rfl
            · rw [show hy_up t3 72 k (t3 66 k) 72 j = t3 72 j by simp only [hy_up]; rw [if_neg (by omega)]]
              exact h72 j h
            · simp only [hy_up, true_and, if_true]
              exact h66 j (by omega)
      refine hy_aload (i := 45) rfl rfl ?_
      refine hy_const (i := 46) rfl (by decide) ?_
      refine hy_put (i := 47) (fk := 9) rfl rfl rfl rfl ?_
      refine hy_iload (i := 48) rfl rfl ?_
      refine hy_if_ne (i := 49) (tt := 53) rfl (fun zc1 => ?_) (fun zc1 => ?_)
      · refine hy_aload (i := 53) rfl rfl ?_
        refine hy_aload (i := 54) rfl rfl ?_
        refine hy_get (i := 55) (fk := 17) rfl rfl rfl ?_
        refine hy_put (i := 56) (fk := 18) rfl rfl rfl rfl ?_
        refine hy_const (i := 57) rfl (by decide) ?_
        refine hy_istore (i := 58) rfl ?_
        exact codes s.2.1 0 _ rfl ((hF.up rfl).up rfl) rfl l2 l3 l4 l4 (fun j hj => absurd hj (by omega)) l5 l6 l7 l8
      · omega
    have nxt : ∀ (t1 t2 : hy_T) (s : Ls) (p : Int) (q : Int × Nat × (Nat → Int) × Nat), t1 59 17 = (s.2.2.2.1 : Int) → t1 59 10 = p → t1 59 15 = (s.2.1 : Int) → t1 68 = s.2.2.2.2 68 → t1 69 = s.2.2.2.2 69 → t1 70 = s.2.2.2.2 70 → t1 71 = s.2.2.2.2 71 → az_PC t1 B (.inr q) (some (hy_b true)) t2 → al_L t2 (al_nx B s p q) := by
      intro t1 t2 s p q e17 e10 e15 e68 e69 e70 e71 h
      obtain ⟨-, -, p1, p2, p3, p4, p5, p6, p7, p8⟩ := h
      rw [e17, show ((s.2.2.2.1 : Nat) : Int).toNat = s.2.2.2.1 from rfl] at p5 p6 p7 p8
      rw [e10, e68] at p5
      rw [e15, e69] at p6
      rw [e70] at p7
      rw [e71] at p8
      exact ⟨p1, p2, p3, by rw [p4, e17]; rfl, p5, p6, p7, p8⟩
    have hlw : ∀ (t1 t2 : hy_T), hy_F lrX t1 t2 → (∀ r j, mlawX r j = true → t1 r j = t r j) → ∀ r j, mlawX r j = true → t2 r j = t r j := fun t1 t2 hF h r j q => by
      rw [hF r j (by revert q; simp [lrX, mrX, mlawX]; omega)]
      exact h r j q
    have loop : ∀ (m : Nat), ∀ (s : Ls) (t1 : hy_T) (v3 : hy_V), al_I s → al_L t1 s → az_C t1 B → t1 59 11 = n → hy_F lwX t t1 → (∀ r j, mlawX r j = true → t1 r j = t r j) → 300 ≤ m + s.1 → al_lawN B n m s = G → hy_W sc hm_M_law 8 26 [.inr (some 59), .inl n, .inl 1, v3] [] t1 (fun r t' => hy_F lwX t t' ∧ ml_ok t' ∧ al_Q t G r t') := by
      intro m
      induction m with
      | zero =>
        intro s t1 v3 hI hL hC h11 hF hlwt hn hv
        have := hI.1
        omega
      | succ m ih =>
        intro s t1 v3 hI hL hC h11 hF hlwt hn hv
        obtain ⟨i1, i2, i3, i4, i5⟩ := id hI
        obtain ⟨l1, l2, l3, l4, l5, l6, l7, l8⟩ := id hL
        have hB := az_C_by hC
        have hmp := az_mpok hC (by omega)
        have hhe := az_here hC
        rw [l1] at hhe
        simp only [al_lawN] at hv
        by_cases hlen : s.1 < n
        · rw [if_pos hlen] at hv
          by_cases h59 : B s.1 = 59
          · rw [if_pos h59] at hv
            have hlt : s.1 < 240 := by
              refine Decidable.byContradiction (fun q => ?_)
              have := (hB s.1).2.2 (by omega); omega
            have et : mp_take t1 59 = (true, mp_st t1) := by unfold mp_take; rw [if_pos (by omega)]
            have hCs : az_C (mp_st t1) B := az_C_F (X := fun r j => r == 59 && j == 10) (hy_F.rf.up rfl) rfl (fun _ => rfl) hC
            have e10s : mp_st t1 59 10 = s.1 + 1 := by show t1 59 10 + 1 = _; omega
            have hcl := c_M_readsClause (sc := sc) (p := s.1 + 1) (m := s.2.1) (f := s.2.2.1) hCs e10s l2 l3 (by omega) (by omega) i3 (by show 0 ≤ t1 59 17 ∧ t1 59 17 ≤ 16; omega)
            rw [show mp_st t1 59 17 = (s.2.2.2.1 : Int) from l4] at hcl
            have hFs : hy_F lwX t (mp_st t1) := hF.up rfl
            have hls : ∀ r j, mlawX r j = true → mp_st t1 r j = t r j := fun r j q => by
              rw [show mp_st t1 r j = t1 r j by unfold mp_st; simp only [hy_up]; rw [if_neg (fun c => by rw [c.1, c.2] at q; revert q; decide)]]
              exact hlwt r j q
            have htk : hy_Ct sc hm_M_takes 1 [.inr (some 59), .inl 59] t1 (hy_e (some (hy_b true)) (mp_st t1)) := by
              have h := c_M_takes (sc := sc) (c := 59) hmp
              rw [et] at h
              exact h
            cases ec : az_cl B s.2.2.2.1 (s.1 + 1) s.2.1 s.2.2.1 with
            | inl e =>
              rw [ec] at hv hcl
              refine hy_iload (i := 26) rfl rfl ?_
              refine hy_if_eq (i := 27) (tt := 45) rfl (fun zc1 => ?_) (fun zc1 => ?_)
              · omega
              · refine hy_aload (i := 28) rfl rfl ?_
                refine hy_get (i := 29) (fk := 10) rfl rfl rfl ?_
                refine hy_aload (i := 30) rfl rfl ?_
                refine hy_get (i := 31) (fk := 11) rfl rfl rfl ?_
                refine hy_ic_ge (i := 32) (tt := 45) rfl (fun zc2 => ?_) (fun zc2 => ?_)
                · omega
                · refine hy_aload (i := 33) rfl rfl ?_
                  refine hy_const (i := 34) rfl (by decide) ?_
                  refine hy_cV1e (i := 35) rfl mj_M_takes (by decide) rfl (Nat.le_of_ble_eq_true rfl) rfl rfl rfl (htk) ?_
                  refine hy_ib_eq (i := 36) (tt := 42) rfl (fun zc3 => ?_) (fun zc3 => ?_)
                  · cases (show true = false by assumption)
                  · refine hy_aload (i := 37) rfl rfl ?_
                    refine hy_cV0 (i := 38) rfl mj_M_readsClause (by decide) rfl (Nat.le_of_ble_eq_true rfl) rfl rfl rfl (hcl) (fun r2_ t2_ h2 => ?_)
                    obtain ⟨hF2, rfl, he2⟩ := h2
                    dsimp only [hy_st, List.cons_append, List.nil_append]
                    refine hy_ib_eq (i := 39) (tt := 42) rfl (fun zc4 => ?_) (fun zc4 => ?_)
                    · refine hy_const (i := 42) rfl (by decide) ?_
                      refine hy_istore (i := 43) rfl ?_
                      refine hy_goto (i := 44) (tt := 26) rfl ?_
                      exact bad2 _ e _ hv.symm (hFs.tr' ((show hy_F lrX _ _ by assumption).w (fun r j q => by revert q; simp only [lwX, Bool.or_eq_false_iff]; exact fun q => q.1.1))) (hlw _ _ (by assumption) hls) (by assumption)
                    · cases (show false = true by assumption)
            | inr q =>
              rw [ec] at hv hcl
              dsimp only at hv
              obtain ⟨n1, n2⟩ := al_nx_s hB hI (p := s.1 + 1) (by omega) (by omega) ec
              refine hy_iload (i := 26) rfl rfl ?_
              refine hy_if_eq (i := 27) (tt := 45) rfl (fun zc1 => ?_) (fun zc1 => ?_)
              · omega
              · refine hy_aload (i := 28) rfl rfl ?_
                refine hy_get (i := 29) (fk := 10) rfl rfl rfl ?_
                refine hy_aload (i := 30) rfl rfl ?_
                refine hy_get (i := 31) (fk := 11) rfl rfl rfl ?_
                refine hy_ic_ge (i := 32) (tt := 45) rfl (fun zc2 => ?_) (fun zc2 => ?_)
                · omega
                · refine hy_aload (i := 33) rfl rfl ?_
                  refine hy_const (i := 34) rfl (by decide) ?_
                  refine hy_cV1e (i := 35) rfl mj_M_takes (by decide) rfl (Nat.le_of_ble_eq_true rfl) rfl rfl rfl (htk) ?_
                  refine hy_ib_eq (i := 36) (tt := 42) rfl (fun zc3 => ?_) (fun zc3 => ?_)
                  · cases (show true = false by assumption)
                  · refine hy_aload (i := 37) rfl rfl ?_
                    refine hy_cV0 (i := 38) rfl mj_M_readsClause (by decide) rfl (Nat.le_of_ble_eq_true rfl) rfl rfl rfl (hcl) (fun r2_ t2_ h2 => ?_)
                    have hPC2 := h2
                    obtain ⟨hF2, rfl, hR2⟩ := h2
                    dsimp only [hy_st, List.cons_append, List.nil_append]
                    refine hy_ib_eq (i := 39) (tt := 42) rfl (fun zc4 => ?_) (fun zc4 => ?_)
                    · cases (show true = false by assumption)
                    · refine hy_const (i := 40) rfl (by decide) ?_
                      refine hy_goto (i := 41) (tt := 43) rfl ?_
                      refine hy_istore (i := 43) rfl ?_
                      refine hy_goto (i := 44) (tt := 26) rfl ?_
                      exact ih (al_nx B s (s.1 + 1) q) _ _ n1 (nxt (mp_st t1) _ s (s.1 + 1) q l4 e10s l2 l5 l6 l7 l8 hPC2) (az_C_F hF2 rfl (fun _ => rfl) hCs) ((hF2 59 11 rfl).trans h11) (hFs.tr' (hF2.w (fun r j q => by revert q; simp only [lwX, Bool.or_eq_false_iff]; exact fun q => q.1.1))) (hlw _ _ hF2 hls) (by show 300 ≤ (m : Int) + q.1; omega) hv
          · rw [if_neg h59] at hv
            have et : mp_take t1 59 = (false, mp_wr t1 1 (t1 59 10)) := by unfold mp_take; rw [if_neg (by omega)]
            have htk : hy_Ct sc hm_M_takes 1 [.inr (some 59), .inl 59] t1 (hy_e (some (hy_b false)) (mp_wr t1 1 (t1 59 10))) := by
              have h := c_M_takes (sc := sc) (c := 59) hmp
              rw [et] at h
              exact h
            refine hy_iload (i := 26) rfl rfl ?_
            refine hy_if_eq (i := 27) (tt := 45) rfl (fun zc1 => ?_) (fun zc1 => ?_)
            · omega
            · refine hy_aload (i := 28) rfl rfl ?_
              refine hy_get (i := 29) (fk := 10) rfl rfl rfl ?_
              refine hy_aload (i := 30) rfl rfl ?_
              refine hy_get (i := 31) (fk := 11) rfl rfl rfl ?_
              refine hy_ic_ge (i := 32) (tt := 45) rfl (fun zc2 => ?_) (fun zc2 => ?_)
              · omega
              · refine hy_aload (i := 33) rfl rfl ?_
                refine hy_const (i := 34) rfl (by decide) ?_
                refine hy_cV1e (i := 35) rfl mj_M_takes (by decide) rfl (Nat.le_of_ble_eq_true rfl) rfl rfl rfl (htk) ?_
                refine hy_ib_eq (i := 36) (tt := 42) rfl (fun zc3 => ?_) (fun zc3 => ?_)
                · refine hy_const (i := 42) rfl (by decide) ?_
                  refine hy_istore (i := 43) rfl ?_
                  refine hy_goto (i := 44) (tt := 26) rfl ?_
                  exact bad2 _ (-1000 - s.1) _ hv.symm (hF.up rfl) (fun r j q => by rw [show mp_wr t1 1 (t1 59 10) r j = t1 r j by unfold mp_wr; simp only [hy_up]; rw [if_neg (fun c => by rw [c.1, c.2] at q; revert q; decide)]]; exact hlwt r j q) (by show -1000 * 1 - t1 59 10 = _; omega)
                · cases (show false = true by assumption)
        · rw [if_neg hlen] at hv
          refine hy_iload (i := 26) rfl rfl ?_
          refine hy_if_eq (i := 27) (tt := 45) rfl (fun zc1 => ?_) (fun zc1 => ?_)
          · omega
          · refine hy_aload (i := 28) rfl rfl ?_
            refine hy_get (i := 29) (fk := 10) rfl rfl rfl ?_
            refine hy_aload (i := 30) rfl rfl ?_
            refine hy_get (i := 31) (fk := 11) rfl rfl rfl ?_
            refine hy_ic_ge (i := 32) (tt := 45) rfl (fun zc2 => ?_) (fun zc2 => ?_)
            · exact fin t1 s _ hv.symm hI hL hF
            · omega
    have start : ∀ (t1 : hy_T), t1 = hy_up (hy_up (hy_up (hy_up t 59 10 0) 59 11 n) 59 15 0) 59 17 0 → hy_W sc hm_M_law 8 23 [.inr (some 59), .inl n, .inr none, .inr none] [] t1 (fun r t' => hy_F lwX t t' ∧ ml_ok t' ∧ al_Q t G r t') := by
      intro t1 ht1
      have hF1 : hy_F lwX t t1 := by rw [ht1]; exact (((hy_F.rf.up rfl).up rfl).up rfl).up rfl
      have h11 : t1 59 11 = n := by rw [ht1]; rfl
      have hC1 : az_C t1 B := by
        refine ⟨?_, by omega⟩
        rw [← hBB]
        funext p
        unfold az_B al_B
        rw [h11, show t1 65 = t 65 from funext fun j => hF1 65 j rfl]
      have hB := az_C_by hC1
      have l1 : t1 59 10 = 0 := by rw [ht1]; rfl
      have l2 : t1 59 15 = ((0 : Nat) : Int) := by rw [ht1]; rfl
      have l4 : t1 59 17 = ((0 : Nat) : Int) := by rw [ht1]; rfl
      have hrow : ∀ r, r ≠ 59 → t1 r = t r := fun r hr => by
        funext j
        rw [ht1, hy_up_ne hr, hy_up_ne hr, hy_up_ne hr, hy_up_ne hr]
      have hls : ∀ r j, mlawX r j = true → t1 r j = t r j := fun r j q => by
        rw [ht1]
        simp only [hy_up]
        rw [if_neg (fun c => by rw [c.1, c.2] at q; revert q; decide), if_neg (fun c => by rw [c.1, c.2] at q; revert q; decide), if_neg (fun c => by rw [c.1, c.2] at q; revert q; decide), if_neg (fun c => by rw [c.1, c.2] at q; revert q; decide)]
      have hI0 : al_I (al_s0 t) := ⟨(by show (0 : Int) ≤ 0 ∧ (0 : Int) ≤ 240; decide), (by show ((0 : Nat) : Int) ≤ 0; decide), (fun j _ => by show (0 : Int) ≤ 0 ∧ (0 : Int) < 13631488; decide), (by show 0 ≤ 16; decide), fun q hq => absurd hq (by show ¬ q < 0; omega)⟩
      have hcl := c_M_readsClause (sc := sc) (p := 0) (m := 0) (f := fun _ => 0) hC1 l1 l2 (fun j hj => absurd hj (by omega)) (by decide) (by decide) (fun j _ => by show (0 : Int) ≤ 0 ∧ (0 : Int) < 13631488; decide) (by omega)
      rw [l4] at hcl
      unfold al_law at hG
      cases ec : az_cl B 0 0 0 (fun _ => 0) with
      | inl e =>
        rw [ec] at hG
        rw [show az_cl B ((0 : Nat) : Int) 0 0 (fun _ => 0) = .inl e from ec] at hcl
        refine hy_aload (i := 23) rfl rfl ?_
        refine hy_cV0 (i := 24) rfl mj_M_readsClause (by decide) rfl (Nat.le_of_ble_eq_true rfl) rfl rfl rfl (hcl) (fun r1_ t1_ h1 => ?_)
        obtain ⟨hFa, rfl, hea⟩ := h1
        dsimp only [hy_st, List.cons_append, List.nil_append]
        refine hy_istore (i := 25) rfl ?_
        exact bad2 _ e _ hG.symm (hF1.tr' (hFa.w (fun r j q => by revert q; simp only [lwX, Bool.or_eq_false_iff]; exact fun q => q.1.1))) (hlw _ _ hFa hls) hea
      | inr q =>
        rw [ec] at hG
        dsimp only at hG
        rw [show az_cl B ((0 : Nat) : Int) 0 0 (fun _ => 0) = .inr q from ec] at hcl
        obtain ⟨n1, n2⟩ := al_nx_s hB hI0 (p := 0) (by decide) (by show ((0 : Nat) : Int) ≤ 0; decide) ec
        refine hy_aload (i := 23) rfl rfl ?_
        refine hy_cV0 (i := 24) rfl mj_M_readsClause (by decide) rfl (Nat.le_of_ble_eq_true rfl) rfl rfl rfl (hcl) (fun r1_ t1_ h1 => ?_)
        have hPC1 := h1
        obtain ⟨hFa, rfl, hR1⟩ := h1
        dsimp only [hy_st, List.cons_append, List.nil_append]
        refine hy_istore (i := 25) rfl ?_
        exact loop 300 (al_nx B (al_s0 t) 0 q) _ _ n1 (nxt t1 _ (al_s0 t) 0 q l4 l1 l2 (hrow 68 (by decide)) (hrow 69 (by decide)) (hrow 70 (by decide)) (hrow 71 (by decide)) hPC1) (az_C_F hFa rfl (fun _ => rfl) hC1) ((hFa 59 11 rfl).trans h11) (hF1.tr' (hFa.w (fun r j q => by revert q; simp only [lwX, Bool.or_eq_false_iff]; exact fun q => q.1.1))) (hlw _ _ hFa hls) (by show 300 ≤ (300 : Int) + q.1; omega) hG
    refine hy_iload (i := 0) rfl rfl ?_
    refine hy_const (i := 1) rfl (by decide) ?_
    refine hy_const (i := 2) rfl (by decide) ?_
    refine hy_cS3e (i := 3) rfl (by decide) mj_M_in (by decide) rfl (Nat.le_of_ble_eq_true rfl) (c_M_in) ?_
    refine hy_ib_eq (i := 4) (tt := 9) rfl (fun zc1 => ?_) (fun zc1 => ?_)
    · simp only [decide_eq_false_iff_not] at zc1; omega
    · refine hy_iload (i := 5) rfl rfl ?_
      refine hy_aload (i := 6) rfl rfl ?_
      refine hy_get (i := 7) (fk := 9) rfl rfl rfl ?_
      refine hy_ic_le (i := 8) (tt := 11) rfl (fun zc2 => ?_) (fun zc2 => ?_)
      · refine hy_aload (i := 11) rfl rfl ?_
        refine hy_const (i := 12) rfl (by decide) ?_
        refine hy_put (i := 13) (fk := 10) rfl rfl rfl rfl ?_
        refine hy_aload (i := 14) rfl rfl ?_
        refine hy_iload (i := 15) rfl rfl ?_
        refine hy_put (i := 16) (fk := 11) rfl rfl rfl rfl ?_
        refine hy_aload (i := 17) rfl rfl ?_
        refine hy_const (i := 18) rfl (by decide) ?_
        refine hy_put (i := 19) (fk := 15) rfl rfl rfl rfl ?_
        refine hy_aload (i := 20) rfl rfl ?_
        refine hy_const (i := 21) rfl (by decide) ?_
        refine hy_put (i := 22) (fk := 17) rfl rfl rfl rfl ?_
        exact start _ rfl
      · omega
  · simp only [if_neg hq]
    refine hy_iload (i := 0) rfl rfl ?_
    refine hy_const (i := 1) rfl (by decide) ?_
    refine hy_const (i := 2) rfl (by decide) ?_
    refine hy_cS3e (i := 3) rfl (by decide) mj_M_in (by decide) rfl (Nat.le_of_ble_eq_true rfl) (c_M_in) ?_
    refine hy_ib_eq (i := 4) (tt := 9) rfl (fun zc1 => ?_) (fun zc1 => ?_)
    · refine hy_const (i := 9) rfl (by decide) ?_
      refine hy_ireturn (i := 10) rfl rfl ?_
      exact ⟨hy_F.rf, hk, rfl, rfl⟩
    · refine hy_iload (i := 5) rfl rfl ?_
      refine hy_aload (i := 6) rfl rfl ?_
      refine hy_get (i := 7) (fk := 9) rfl rfl rfl ?_
      refine hy_ic_le (i := 8) (tt := 11) rfl (fun zc2 => ?_) (fun zc2 => ?_)
      · exfalso; simp only [decide_eq_true_eq] at zc1; exact hq ⟨by omega, by omega⟩
      · refine hy_const (i := 9) rfl (by decide) ?_
        refine hy_ireturn (i := 10) rfl rfl ?_
        exact ⟨hy_F.rf, hk, rfl, rfl⟩
end LL
