/-! the model's law, clause by clause -/
theorem az_cl_wf {f : Nat → Int} {a m : Nat} (hl : az_lc f a m []) (hd : az_dep f a m = 1) (ha : a ≤ m) (hm : m ≤ 240) : mc_wf f a m := by
  obtain ⟨D, hD⟩ : ∃ D : Nat → Nat, ∀ k, D k = (az_dep f a k).toNat := ⟨fun k => (az_dep f a k).toNat, fun _ => rfl⟩
  refine ⟨D, ⟨by omega, by omega, by omega⟩, ?_, ?_, fun k k1 k2 => ?_⟩
  · rw [hD, show ((a : Int)).toNat = a from rfl, az_dep_a f a a (Nat.le_refl _)]
    rfl
  · rw [hD, show ((m : Int)).toNat = m from rfl, hd]
    rfl
  · obtain ⟨c0, c1, c2, c3, c4⟩ := hl k (by omega) (by omega)
    have hs := az_dep_s f a k (by omega)
    have hle := az_dep_le f a k
    have d0 := hD k
    have d1 := hD (k + 1)
    unfold az_eff at hs
    refine ⟨⟨c0.1, by omega, by omega⟩, fun q => ?_, fun q => ?_, fun q => ?_, fun q1 q2 q3 => ?_⟩
    · rw [if_pos q] at hs
      exact ⟨by omega, c1⟩
    · rw [if_neg (by omega), if_pos q] at hs
      exact ⟨by have := c2 q; omega, by omega⟩
    · rw [if_neg (by omega), if_neg (by omega)] at hs
      obtain ⟨e1, e2⟩ := c3 q
      rcases e2 with ⟨x, hx, _⟩ | ⟨e2, e3, e4⟩
      · cases hx
      · exact ⟨by omega, by omega, e2, e3, by rw [hD, e4, d0]⟩
    · rw [if_neg q1, if_neg q2] at hs
      have := c4 (by omega) (by omega)
      exact ⟨by omega, by omega⟩
theorem mc_wf_eq {f g : Nat → Int} {a b : Int} (h : ∀ k : Nat, (k : Int) < b → f k = g k) (hw : mc_wf f a b) : mc_wf g a b := by
  obtain ⟨D, h0, h1, h2, h3⟩ := hw
  refine ⟨D, h0, h1, h2, fun k k1 k2 => ?_⟩
  have := h3 k k1 k2
  unfold mc_at at this ⊢
  rw [← h k k2]
  exact this
abbrev az_isc (c : Int) : Prop := c = 115 ∨ c = 107 ∨ c = 118 ∨ c = 98
abbrev az_amt (c : Int) : Prop := c ≠ 115 ∧ c ≠ 107
def az_ce (B : Int → Int) (p : Int) (m : Nat) (f : Nat → Int) : Int ⊕ Zs := if az_amt (B p) then az_rs B (p + 1, m, f, [], 0) else .inr (p + 1, m, f, [], 0)
/-- a clause: place and codes behind it, and where its condition begins -/
def az_cl (B : Int → Int) (k : Int) (p : Int) (m : Nat) (f : Nat → Int) : Int ⊕ (Int × Nat × (Nat → Int) × Nat) :=
  if ¬ az_isc (B p) then .inl (-1000 - p)
  else if k = 16 then .inl (-4000 - p)
  else match az_ce B p m f with
    | .inl e => .inl e
    | .inr s1 => match az_rc B s1.1 s1.2.1 s1.2.2.1 with
      | .inl e => .inl e
      | .inr s2 => .inr (s2.1, s2.2.1, s2.2.2.1, s1.2.1)
theorem az_ok0 {p : Int} {m : Nat} {f : Nat → Int} (hp : 0 ≤ p ∧ p ≤ 240) (hm : (m : Int) ≤ p) (hf : az_rows f) : az_ok 0 (p, m, f, [], 0) := ⟨hp, by simp [az_cnt]; exact hm, by simp; exact hp.1, ⟨rfl, by dsimp only; omega⟩, (fun x hx => by cases hx), hf⟩
theorem az_lc0 (f : Nat → Int) (m : Nat) (w : List Int) : az_lc f m m w := fun k k1 k2 => absurd k2 (by omega)
theorem az_ce_s {B : Int → Int} (hB : az_by B) {p : Int} {m : Nat} {f : Nat → Int} {s1 : Zs} (hp : 0 ≤ p ∧ p ≤ 240) (hc : az_isc (B p)) (hm : (m : Int) ≤ p) (hf : az_rows f) (he : az_ce B p m f = .inr s1) : m ≤ s1.2.1 ∧ ((s1.2.1 : Int) ≤ s1.1 ∧ p < s1.1 ∧ s1.1 ≤ 240) ∧ az_rows s1.2.2.1 ∧ (∀ j, j < m → s1.2.2.1 j = f j) ∧ (az_amt (B p) → mc_wf s1.2.2.1 m s1.2.1) := by
  have hlt : p < 240 := by
    refine Decidable.byContradiction (fun q => ?_)
    have := (hB p).2.2 (by omega); omega
  unfold az_ce at he
  split at he
  · have hok := az_ok0 (p := p + 1) (m := m) (f := f) ⟨by omega, by omega⟩ (by omega) hf
    obtain ⟨r1, r2, r3, r4, r5, ⟨r6, r7⟩, r8⟩ := az_rs_s hB (Int.le_refl 0) (a := m) (a0 := m) (f0 := f) (s := (p + 1, m, f, [], 0)) (fun x hx => by cases hx) (az_dep_a f m m (Nat.le_refl _)) (az_lc0 f m _) (Nat.le_refl _) hok (Nat.le_refl _) (fun _ _ => rfl) he
    obtain ⟨k1, k2, k3, k4, k5, k6⟩ := r5
    dsimp only at r8 r3
    exact ⟨r4, ⟨by omega, by omega, k1.2⟩, k6, r7, fun _ => az_cl_wf r3 (by omega) r4 (by omega)⟩
  · next ha =>
    cases he
    exact ⟨Nat.le_refl _, ⟨by dsimp only; omega, by dsimp only; omega, by dsimp only; omega⟩, hf, fun _ _ => rfl, fun h => absurd h ha⟩
theorem az_rc_s {B : Int → Int} (hB : az_by B) {p : Int} {m : Nat} {f : Nat → Int} {s1 : Zs} (hp : 0 ≤ p ∧ p ≤ 240) (hm : (m : Int) ≤ p) (hf : az_rows f) (he : az_rc B p m f = .inr s1) : m ≤ s1.2.1 ∧ ((s1.2.1 : Int) ≤ s1.1 ∧ p < s1.1 ∧ s1.1 ≤ 240) ∧ az_rows s1.2.2.1 ∧ (∀ j, j < m → s1.2.2.1 j = f j) ∧ mc_wf s1.2.2.1 m s1.2.1 := by
  unfold az_rc at he
  split at he
  · next h40 =>
    have hlt : p < 240 := by
      refine Decidable.byContradiction (fun q => ?_)
      have := (hB p).2.2 (by omega); omega
    have hI : az_cI (if true = true then 0 else 1) m f (p + 1, m, f, [13631488], 1) := by
      refine ⟨fun x hx => ?_, fun x hx ho => ?_, ⟨[], rfl⟩, az_dep_a f m m (Nat.le_refl _), az_lc0 f m _, Nat.le_refl _, ⟨⟨by dsimp only; omega, by dsimp only; omega⟩, ?_, ?_, ⟨rfl, by dsimp only; omega⟩, fun x hx => ?_, hf⟩, fun _ _ => rfl⟩
      · simp at hx; subst hx; decide
      · simp at hx; subst hx; exact absurd ho (by decide)
      · simp [az_cnt]; omega
      · simp; omega
      · simp at hx; subst hx; decide
    obtain ⟨r1, r2, r3, r4, r5, ⟨r6, r7, r8⟩, r9⟩ := az_cond_s hB 600 true _ s1 hI he
    dsimp only at r9
    exact ⟨r4, ⟨r7, by omega, r6.2⟩, r8, r5, az_cl_wf r3 r2 r4 (by omega)⟩
  · cases he
theorem az_cl_s {B : Int → Int} (hB : az_by B) {k p : Int} {m : Nat} {f : Nat → Int} {q : Int × Nat × (Nat → Int) × Nat} (hp : 0 ≤ p ∧ p ≤ 240) (hm : (m : Int) ≤ p) (hf : az_rows f) (he : az_cl B k p m f = .inr q) : (m ≤ q.2.2.2 ∧ q.2.2.2 ≤ q.2.1) ∧ ((q.2.1 : Int) ≤ q.1 ∧ p < q.1 ∧ q.1 ≤ 240) ∧ az_rows q.2.2.1 ∧ (∀ j, j < m → q.2.2.1 j = f j) ∧ mc_wf q.2.2.1 q.2.2.2 q.2.1 ∧ ((B p = 98 ∨ B p = 118) → mc_wf q.2.2.1 m q.2.2.2) ∧ k ≠ 16 := by
  unfold az_cl at he
  split at he
  · cases he
  · next hc =>
    split at he
    · cases he
    · next hk =>
      cases e1 : az_ce B p m f with
      | inl e => rw [e1] at he; cases he
      | inr s1 =>
        rw [e1] at he
        dsimp only at he
        obtain ⟨a1, ⟨a2, a3, a4⟩, a5, a6, a7⟩ := az_ce_s hB hp (Decidable.not_not.mp hc) hm hf e1
        cases e2 : az_rc B s1.1 s1.2.1 s1.2.2.1 with
        | inl e => rw [e2] at he; cases he
        | inr s2 =>
          rw [e2] at he
          cases he
          obtain ⟨b1, ⟨b2, b3, b4⟩, b5, b6, b7⟩ := az_rc_s hB ⟨by omega, a4⟩ a2 a5 e2
          refine ⟨⟨a1, b1⟩, ⟨b2, by dsimp only; omega, b4⟩, b5, fun j hj => ?_, b7, fun hq => mc_wf_eq (fun j hj => (b6 j (by dsimp only at hj; omega)).symm) (a7 (by omega)), hk⟩
          dsimp only
          rw [b6 j (by omega)]
          exact a6 j hj
abbrev lrX : Nat → Nat → Bool := fun r j => mrX r j || r == 68 || r == 69 || r == 70 || r == 71 || (r == 59 && j == 17)
def az_PC (t0 : hy_T) (B : Int → Int) (res : Int ⊕ (Int × Nat × (Nat → Int) × Nat)) (r : Option Int) (t' : hy_T) : Prop := hy_F lrX t0 t' ∧ match res with
  | .inl e => r = some (hy_b false) ∧ t' 59 12 = e
  | .inr q => r = some (hy_b true) ∧ t' 59 10 = q.1 ∧ t' 59 15 = (q.2.1 : Int) ∧ (∀ j : Nat, j < q.2.1 → t' 66 j = q.2.2.1 j) ∧ t' 59 17 = t0 59 17 + 1 ∧ t' 68 = su (t0 68) (t0 59 17).toNat (B (t0 59 10)) ∧ t' 69 = su (t0 69) (t0 59 17).toNat (t0 59 15) ∧ t' 70 = su (t0 70) (t0 59 17).toNat q.2.2.2 ∧ t' 71 = su (t0 71) (t0 59 17).toNat q.2.1
section LB
variable {sc : List Int32} {t : hy_T} {B : Int → Int}
theorem c_M_isClause {c : Int} : hy_Ct sc hm_M_isClause 0 [.inl c] t (hy_e (some (hy_b (decide (az_isc c)))) t) := by
  refine hy_mk_ct ok_M_isClause ck_M_isClause (Nat.le_of_ble_eq_true rfl) ?_
  refine hy_iload (i := 0) rfl rfl ?_
  refine hy_const (i := 1) rfl (by decide) ?_
  refine hy_ic_eq (i := 2) (tt := 12) rfl (fun zc1 => ?_) (fun zc1 => ?_)
  · refine hy_const (i := 12) rfl (by decide) ?_
    refine hy_goto (i := 13) (tt := 15) rfl ?_
    refine hy_zreturn (i := 15) rfl rfl (by first | decide | exact hy_b01 _) ?_
    exact ⟨congrArg some (by first | (rw [decide_eq_true (by omega)]; rfl) | (rw [decide_eq_false (by omega)]; rfl)), rfl⟩
  · refine hy_iload (i := 3) rfl rfl ?_
    refine hy_const (i := 4) rfl (by decide) ?_
    refine hy_ic_eq (i := 5) (tt := 12) rfl (fun zc2 => ?_) (fun zc2 => ?_)
    · refine hy_const (i := 12) rfl (by decide) ?_
      refine hy_goto (i := 13) (tt := 15) rfl ?_
      refine hy_zreturn (i := 15) rfl rfl (by first | decide | exact hy_b01 _) ?_
      exact ⟨congrArg some (by first | (rw [decide_eq_true (by omega)]; rfl) | (rw [decide_eq_false (by omega)]; rfl)), rfl⟩
    · refine hy_iload (i := 6) rfl rfl ?_
      refine hy_const (i := 7) rfl (by decide) ?_
      refine hy_ic_eq (i := 8) (tt := 12) rfl (fun zc3 => ?_) (fun zc3 => ?_)
      · refine hy_const (i := 12) rfl (by decide) ?_
        refine hy_goto (i := 13) (tt := 15) rfl ?_
        refine hy_zreturn (i := 15) rfl rfl (by first | decide | exact hy_b01 _) ?_
        exact ⟨congrArg some (by first | (rw [decide_eq_true (by omega)]; rfl) | (rw [decide_eq_false (by omega)]; rfl)), rfl⟩
      · refine hy_iload (i := 9) rfl rfl ?_
        refine hy_const (i := 10) rfl (by decide) ?_
        refine hy_ic_ne (i := 11) (tt := 14) rfl (fun zc4 => ?_) (fun zc4 => ?_)
        · refine hy_const (i := 14) rfl (by decide) ?_
          refine hy_zreturn (i := 15) rfl rfl (by first | decide | exact hy_b01 _) ?_
          exact ⟨congrArg some (by first | (rw [decide_eq_true (by omega)]; rfl) | (rw [decide_eq_false (by omega)]; rfl)), rfl⟩
        · refine hy_const (i := 12) rfl (by decide) ?_
          refine hy_goto (i := 13) (tt := 15) rfl ?_
          refine hy_zreturn (i := 15) rfl rfl (by first | decide | exact hy_b01 _) ?_
          exact ⟨congrArg some (by first | (rw [decide_eq_true (by omega)]; rfl) | (rw [decide_eq_false (by omega)]; rfl)), rfl⟩
theorem c_M_readsClause {p : Int} {m : Nat} {f : Nat → Int} (hC : az_C t B) (h10 : t 59 10 = p) (h15 : t 59 15 = (m : Int)) (h66 : ∀ j : Nat, j < m → t 66 j = f j) (hp : 0 ≤ p ∧ p ≤ 240) (hm : (m : Int) ≤ p) (hf : az_rows f) (h17 : 0 ≤ t 59 17 ∧ t 59 17 ≤ 16) : hy_Ct sc hm_M_readsClause 7 [.inr (some 59)] t (az_PC t B (az_cl B (t 59 17) p m f)) := by
  refine hy_mk_ct ok_M_readsClause ck_M_readsClause (Nat.le_of_ble_eq_true rfl) ?_
  have hB := az_C_by hC
  have hmp := az_mpok hC (by omega)
  have hhe := az_here hC
  rw [h10] at hhe
  generalize hG : az_cl B (t 59 17) p m f = G
  unfold az_cl at hG
  by_cases hc : az_isc (B p)
  · rw [if_neg (fun q => q hc)] at hG
    have hlt : p < 240 := by
      refine Decidable.byContradiction (fun q => ?_)
      have := (hB p).2.2 (by omega); omega
    by_cases h16 : t 59 17 = 16
    · rw [if_pos h16] at hG
      refine hy_aload (i := 0) rfl rfl ?_
      refine hy_cV0e (i := 1) rfl mj_M_here (by decide) rfl (Nat.le_of_ble_eq_true rfl) rfl rfl rfl (c_M_here (by assumption)) ?_
      refine hy_istore (i := 2) rfl ?_
      refine hy_iload (i := 3) rfl rfl ?_
      rw [hhe]
      refine hy_cS1e (i := 4) rfl (by decide) mj_M_isClause (by decide) rfl (Nat.le_of_ble_eq_true rfl) (c_M_isClause) ?_
      refine hy_ib_ne (i := 5) (tt := 12) rfl (fun zc1 => ?_) (fun zc1 => ?_)
      · refine hy_aload (i := 12) rfl rfl ?_
        refine hy_get (i := 13) (fk := 17) rfl rfl rfl ?_
        refine hy_const (i := 14) rfl (by decide) ?_
        refine hy_ic_ne (i := 15) (tt := 22) rfl (fun zc2 => ?_) (fun zc2 => ?_)
        · omega
        · refine hy_aload (i := 16) rfl rfl ?_
          refine hy_const (i := 17) rfl (by decide) ?_
          refine hy_aload (i := 18) rfl rfl ?_
          refine hy_get (i := 19) (fk := 10) rfl rfl rfl ?_
          refine hy_cV2e (i := 20) rfl mj_M_wrongAt (by decide) rfl (Nat.le_of_ble_eq_true rfl) rfl rfl rfl (c_M_wrongAt (by decide) (by omega)) ?_
          refine hy_zreturn (i := 21) rfl rfl (by first | decide | exact hy_b01 _) ?_
          rw [← hG]; exact ⟨hy_F.rf.up rfl, rfl, by show -1000 * 4 - t 59 10 = _; omega⟩
      · have := of_decide_eq_false zc1; exact absurd hc this
    · rw [if_neg h16] at hG
      have hkk : (t 59 17).toNat < 16 := by omega
      -- the condition, and the end
      have cond : ∀ (t3 : hy_T) (s1 : Zs) (v1 : hy_V), az_C t3 B → hy_F lrX t t3 → t3 59 10 = s1.1 → t3 59 15 = (s1.2.1 : Int) → (∀ j : Nat, j < s1.2.1 → t3 66 j = s1.2.2.1 j) → (0 ≤ s1.1 ∧ s1.1 ≤ 240) → (s1.2.1 : Int) ≤ s1.1 → az_rows s1.2.2.1 → t3 59 17 = t 59 17 → t3 68 = su (t 68) (t 59 17).toNat (B p) → t3 69 = su (t 69) (t 59 17).toNat (t 59 15) → t3 70 = t 70 → t3 71 = t 71 → (match az_rc B s1.1 s1.2.1 s1.2.2.1 with | .inl e => Sum.inl e | .inr s2 => Sum.inr (s2.1, s2.2.1, s2.2.2.1, s1.2.1)) = G → hy_W sc hm_M_readsClause 7 58 [.inr (some 59), v1] [] t3 (az_PC t B G) := by
        intro t3 s1 v1 hC3 hF3 e10 e15 e66 hp3 hm3 hf3 e17 e68 e69 e70 e71 hv
        have hC4 : az_C (hy_up t3 70 (t 59 17).toNat (s1.2.1 : Int)) B := az_C_F (X := fun r _ => r == 70) (hy_F.rf.up rfl) rfl (fun _ => rfl) hC3
        have hcd := c_M_readsCondition (sc := sc) (t := hy_up t3 70 (t 59 17).toNat (s1.2.1 : Int)) hC4 e10 e15 e66 hp3 hm3 hf3
        have hF4 : hy_F lrX t (hy_up t3 70 (t 59 17).toNat (s1.2.1 : Int)) := hF3.up rfl
        cases e2 : az_rc B s1.1 s1.2.1 s1.2.2.1 with
        | inl e =>
          rw [e2] at hv hcd
          refine hy_aload (i := 58) rfl rfl ?_
          refine hy_getr (i := 59) rfl rfl ?_
          refine hy_aload (i := 60) rfl rfl ?_
          refine hy_get (i := 61) (fk := 17) rfl rfl rfl ?_
          refine hy_aload (i := 62) rfl rfl ?_
          refine hy_get (i := 63) (fk := 15) rfl rfl rfl ?_
          refine hy_iast (i := 64) rfl rfl (by omega) (k := (t 59 17).toNat) (by omega) ?_
          rw [e15]
          refine hy_aload (i := 65) rfl rfl ?_
          refine hy_cV0 (i := 66) rfl mj_M_readsCondition (by decide) rfl (Nat.le_of_ble_eq_true rfl) rfl rfl rfl (hcd) (fun r1_ t1_ h1 => ?_)
          obtain ⟨hF1, rfl, he1⟩ := h1
          dsimp only [hy_st, List.cons_append, List.nil_append]
          refine hy_ib_ne (i := 67) (tt := 70) rfl (fun zc1 => ?_) (fun zc1 => ?_)
          · cases (show false = true by assumption)
          · refine hy_const (i := 68) rfl (by decide) ?_
            refine hy_zreturn (i := 69) rfl rfl (by first | decide | exact hy_b01 _) ?_
            rw [← hv]; exact ⟨hF4.tr' ((show hy_F mrX _ _ by assumption).w (fun r j q => by revert q; simp [lrX, mrX]; omega)), rfl, by assumption⟩
        | inr s2 =>
          rw [e2] at hv hcd
          refine hy_aload (i := 58) rfl rfl ?_
          refine hy_getr (i := 59) rfl rfl ?_
          refine hy_aload (i := 60) rfl rfl ?_
          refine hy_get (i := 61) (fk := 17) rfl rfl rfl ?_
          refine hy_aload (i := 62) rfl rfl ?_
          refine hy_get (i := 63) (fk := 15) rfl rfl rfl ?_
          refine hy_iast (i := 64) rfl rfl (by omega) (k := (t 59 17).toNat) (by omega) ?_
          rw [e15]
          refine hy_aload (i := 65) rfl rfl ?_
          refine hy_cV0 (i := 66) rfl mj_M_readsCondition (by decide) rfl (Nat.le_of_ble_eq_true rfl) rfl rfl rfl (hcd) (fun r1_ t1_ h1 => ?_)
          obtain ⟨hF1, rfl, hR1⟩ := h1
          dsimp only [hy_st, List.cons_append, List.nil_append]
          refine hy_ib_ne (i := 67) (tt := 70) rfl (fun zc1 => ?_) (fun zc1 => ?_)
          · have g17 : t1_ 59 17 = t 59 17 := (hF1 59 17 rfl).trans e17
            obtain ⟨w1, w2, w3, w4, w5, w6⟩ := hR1
            refine hy_aload (i := 70) rfl rfl ?_
            refine hy_getr (i := 71) rfl rfl ?_
            refine hy_aload (i := 72) rfl rfl ?_
            refine hy_get (i := 73) (fk := 17) rfl rfl rfl ?_
            refine hy_aload (i := 74) rfl rfl ?_
            refine hy_get (i := 75) (fk := 15) rfl rfl rfl ?_
            refine hy_iast (i := 76) rfl rfl (by omega) (k := (t 59 17).toNat) (by omega) ?_
            rw [w2]
            refine hy_aload (i := 77) rfl rfl ?_
            refine hy_aload (i := 78) rfl rfl ?_
            refine hy_get (i := 79) (fk := 17) rfl rfl rfl ?_
            refine hy_const (i := 80) rfl (by decide) ?_
            refine hy_iadd (i := 81) rfl (by show -2147483648 ≤ t1_ 59 17 + 1 ∧ t1_ 59 17 + 1 ≤ 2147483647; omega) ?_
            refine hy_put (i := 82) (fk := 17) rfl rfl rfl rfl ?_
            refine hy_const (i := 83) rfl (by decide) ?_
            refine hy_zreturn (i := 84) rfl rfl (by first | decide | exact hy_b01 _) ?_
            rw [← hv]
            refine ⟨((hF4.tr' (hF1.w (fun r j q => by revert q; simp [lrX, mrX]; omega))).up rfl).up rfl, rfl, w1, w2, w3, by show t1_ 59 17 + 1 = _; rw [g17], ?_, ?_, ?_, ?_⟩
            · funext j; rw [hy_up_ne (by decide), hy_up_ne (by decide), hF1 68 j rfl, hy_up_ne (by decide), e68, h10]
            · funext j; rw [hy_up_ne (by decide), hy_up_ne (by decide), hF1 69 j rfl, hy_up_ne (by decide), e69]
            · funext j; rw [hy_up_ne (by decide), hy_up_ne (by decide), hF1 70 j rfl, hy_up_row, e70]
            · funext j; rw [hy_up_ne (by decide), hy_up_row, show t1_ 71 = t 71 from funext fun j => by rw [hF1 71 j rfl, hy_up_ne (by decide), e71]]
          · cases (show true = false by assumption)
      have start : ∀ (t2 : hy_T), t2 = hy_up (hy_up (hy_up (hy_up (hy_up t 68 (t 59 17).toNat (B p)) 59 10 (p + 1)) 69 (t 59 17).toNat (t 59 15)) 59 14 0) 59 16 0 → hy_W sc hm_M_readsClause 7 47 [.inr (some 59), .inl (B p)] [] t2 (az_PC t B G) := by
        intro t2 ht2
        have hF2 : hy_F lrX t t2 := by rw [ht2]; exact ((((hy_F.rf.up rfl).up rfl).up rfl).up rfl).up rfl
        have hC2 : az_C t2 B := az_C_F hF2 rfl (fun _ => rfl) hC
        have e10 : t2 59 10 = p + 1 := by rw [ht2]; rfl
        have e15 : t2 59 15 = (m : Int) := by rw [ht2]; exact h15
        have e66 : ∀ j : Nat, j < m → t2 66 j = f j := fun j hj => by
          rw [ht2, hy_up_ne (by decide), hy_up_ne (by decide), hy_up_ne (by decide), hy_up_ne (by decide), hy_up_ne (by decide)]
          exact h66 j hj
        have e17 : t2 59 17 = t 59 17 := by rw [ht2]; rfl
        have e68 : t2 68 = su (t 68) (t 59 17).toNat (B p) := by
          rw [ht2, ← hy_up_row]
          funext j
          rw [hy_up_ne (by decide), hy_up_ne (by decide), hy_up_ne (by decide), hy_up_ne (by decide)]
        have e69 : t2 69 = su (t 69) (t 59 17).toNat (t 59 15) := by
          rw [ht2]
          funext j
          rw [hy_up_ne (by decide), hy_up_ne (by decide), hy_up_row]
          rfl
        have e70 : t2 70 = t 70 := by rw [ht2]; rfl
        have e71 : t2 71 = t 71 := by rw [ht2]; rfl
        by_cases ha : az_amt (B p)
        · have ece : az_ce B p m f = az_rs B (p + 1, m, f, [], 0) := by unfold az_ce; rw [if_pos ha]
          have hok := az_ok0 (p := p + 1) (m := m) (f := f) ⟨by omega, by omega⟩ (by omega) hf
          have hR2 : az_R t2 (p + 1, m, f, [], 0) := ⟨e10, e15, e66, by rw [ht2]; rfl, trivial, by rw [ht2]; rfl⟩
          have hsm := c_M_readsSum (sc := sc) (a := m) (a0 := m) (f0 := f) hC2 hR2 (Int.le_refl 0) (fun x hx => by cases hx) (az_dep_a f m m (Nat.le_refl _)) (az_lc0 f m _) (Nat.le_refl _) hok (Nat.le_refl _) (fun _ _ => rfl)
          rw [← ece] at hsm
          cases e1 : az_ce B p m f with
          | inl e =>
            rw [e1] at hG hsm
            refine hy_iload (i := 47) rfl rfl ?_
            refine hy_const (i := 48) rfl (by decide) ?_
            refine hy_ic_eq (i := 49) (tt := 58) rfl (fun zc1 => ?_) (fun zc1 => ?_)
            · omega
            · refine hy_iload (i := 50) rfl rfl ?_
              refine hy_const (i := 51) rfl (by decide) ?_
              refine hy_ic_eq (i := 52) (tt := 58) rfl (fun zc2 => ?_) (fun zc2 => ?_)
              · omega
              · refine hy_aload (i := 53) rfl rfl ?_
                refine hy_cV0 (i := 54) rfl mj_M_readsSum (by decide) rfl (Nat.le_of_ble_eq_true rfl) rfl rfl rfl (hsm) (fun r1_ t1_ h1 => ?_)
                obtain ⟨hF1, rfl, he1⟩ := h1
                dsimp only [hy_st, List.cons_append, List.nil_append]
                refine hy_ib_ne (i := 55) (tt := 58) rfl (fun zc3 => ?_) (fun zc3 => ?_)
                · cases (show false = true by assumption)
                · refine hy_const (i := 56) rfl (by decide) ?_
                  refine hy_zreturn (i := 57) rfl rfl (by first | decide | exact hy_b01 _) ?_
                  rw [← hG]; exact ⟨hF2.tr' ((show hy_F mrX _ _ by assumption).w (fun r j q => by revert q; simp [lrX, mrX]; omega)), rfl, by assumption⟩
          | inr s1 =>
            rw [e1] at hG hsm
            dsimp only at hG
            obtain ⟨a1, ⟨a2, a3, a4⟩, a5, a6, a7⟩ := az_ce_s hB hp hc hm hf e1
            refine hy_iload (i := 47) rfl rfl ?_
            refine hy_const (i := 48) rfl (by decide) ?_
            refine hy_ic_eq (i := 49) (tt := 58) rfl (fun zc1 => ?_) (fun zc1 => ?_)
            · omega
            · refine hy_iload (i := 50) rfl rfl ?_
              refine hy_const (i := 51) rfl (by decide) ?_
              refine hy_ic_eq (i := 52) (tt := 58) rfl (fun zc2 => ?_) (fun zc2 => ?_)
              · omega
              · refine hy_aload (i := 53) rfl rfl ?_
                refine hy_cV0 (i := 54) rfl mj_M_readsSum (by decide) rfl (Nat.le_of_ble_eq_true rfl) rfl rfl rfl (hsm) (fun r1_ t1_ h1 => ?_)
                obtain ⟨hF1, rfl, hR1⟩ := h1
                dsimp only [hy_st, List.cons_append, List.nil_append]
                refine hy_ib_ne (i := 55) (tt := 58) rfl (fun zc3 => ?_) (fun zc3 => ?_)
                · have hFz := (show hy_F mrX t2 t1_ by assumption).w (fun r j q => by revert q; simp only [lrX, Bool.or_eq_false_iff]; exact fun q => q.1.1.1.1.1) (Y := lrX)
                  have hR9 : az_R t1_ s1 := by assumption
                  exact cond t1_ s1 _ (az_C_F hFz rfl (fun _ => rfl) hC2) (hF2.tr' hFz) hR9.1 hR9.2.1 hR9.2.2.1 ⟨by omega, a4⟩ a2 a5 ((hF1 59 17 rfl).trans e17) (by rw [← e68]; exact funext fun j => hF1 68 j rfl) (by rw [← e69]; exact funext fun j => hF1 69 j rfl) (by rw [← e70]; exact funext fun j => hF1 70 j rfl) (by rw [← e71]; exact funext fun j => hF1 71 j rfl) hG
                · cases (show true = false by assumption)
        · have ece : az_ce B p m f = .inr (p + 1, m, f, [], 0) := by unfold az_ce; rw [if_neg ha]
          rw [ece] at hG
          dsimp only at hG
          refine hy_iload (i := 47) rfl rfl ?_
          refine hy_const (i := 48) rfl (by decide) ?_
          refine hy_ic_eq (i := 49) (tt := 58) rfl (fun zc1 => ?_) (fun zc1 => ?_)
          · exact cond t2 (p + 1, m, f, [], 0) _ hC2 hF2 e10 e15 e66 ⟨by dsimp only; omega, by dsimp only; omega⟩ (by dsimp only; omega) hf e17 e68 e69 e70 e71 hG
          · refine hy_iload (i := 50) rfl rfl ?_
            refine hy_const (i := 51) rfl (by decide) ?_
            refine hy_ic_eq (i := 52) (tt := 58) rfl (fun zc2 => ?_) (fun zc2 => ?_)
            · exact cond t2 (p + 1, m, f, [], 0) _ hC2 hF2 e10 e15 e66 ⟨by dsimp only; omega, by dsimp only; omega⟩ (by dsimp only; omega) hf e17 e68 e69 e70 e71 hG
            · omega
      refine hy_aload (i := 0) rfl rfl ?_
      refine hy_cV0e (i := 1) rfl mj_M_here (by decide) rfl (Nat.le_of_ble_eq_true rfl) rfl rfl rfl (c_M_here (by assumption)) ?_
      refine hy_istore (i := 2) rfl ?_
      refine hy_iload (i := 3) rfl rfl ?_
      rw [hhe]
      refine hy_cS1e (i := 4) rfl (by decide) mj_M_isClause (by decide) rfl (Nat.le_of_ble_eq_true rfl) (c_M_isClause) ?_
      refine hy_ib_ne (i := 5) (tt := 12) rfl (fun zc1 => ?_) (fun zc1 => ?_)
      · refine hy_aload (i := 12) rfl rfl ?_
        refine hy_get (i := 13) (fk := 17) rfl rfl rfl ?_
        refine hy_const (i := 14) rfl (by decide) ?_
        refine hy_ic_ne (i := 15) (tt := 22) rfl (fun zc2 => ?_) (fun zc2 => ?_)
        · refine hy_aload (i := 22) rfl rfl ?_
          refine hy_getr (i := 23) rfl rfl ?_
          refine hy_aload (i := 24) rfl rfl ?_
          refine hy_get (i := 25) (fk := 17) rfl rfl rfl ?_
          refine hy_iload (i := 26) rfl rfl ?_
          refine hy_iast (i := 27) rfl rfl (by omega) rfl ?_
          refine hy_aload (i := 28) rfl rfl ?_
          refine hy_aload (i := 29) rfl rfl ?_
          refine hy_get (i := 30) (fk := 10) rfl rfl rfl ?_
          refine hy_const (i := 31) rfl (by decide) ?_
          refine hy_iadd (i := 32) rfl (by show -2147483648 ≤ t 59 10 + 1 ∧ t 59 10 + 1 ≤ 2147483647; omega) ?_
          refine hy_put (i := 33) (fk := 10) rfl rfl rfl rfl ?_
          refine hy_aload (i := 34) rfl rfl ?_
          refine hy_getr (i := 35) rfl rfl ?_
          refine hy_aload (i := 36) rfl rfl ?_
          refine hy_get (i := 37) (fk := 17) rfl rfl rfl ?_
          refine hy_aload (i := 38) rfl rfl ?_
          refine hy_get (i := 39) (fk := 15) rfl rfl rfl ?_
          refine hy_iast (i := 40) rfl rfl (by show 0 ≤ t 59 17 ∧ t 59 17 < 16; omega) rfl ?_
          refine hy_aload (i := 41) rfl rfl ?_
          refine hy_const (i := 42) rfl (by decide) ?_
          refine hy_put (i := 43) (fk := 14) rfl rfl rfl rfl ?_
          refine hy_aload (i := 44) rfl rfl ?_
          refine hy_const (i := 45) rfl (by decide) ?_
          refine hy_put (i := 46) (fk := 16) rfl rfl rfl rfl ?_
          refine start _ ?_
          rw [← h10]
          rfl
        · omega
      · have := of_decide_eq_false zc1; exact absurd hc this
  · rw [if_pos hc] at hG
    refine hy_aload (i := 0) rfl rfl ?_
    refine hy_cV0e (i := 1) rfl mj_M_here (by decide) rfl (Nat.le_of_ble_eq_true rfl) rfl rfl rfl (c_M_here (by assumption)) ?_
    refine hy_istore (i := 2) rfl ?_
    refine hy_iload (i := 3) rfl rfl ?_
    rw [hhe]
    refine hy_cS1e (i := 4) rfl (by decide) mj_M_isClause (by decide) rfl (Nat.le_of_ble_eq_true rfl) (c_M_isClause) ?_
    refine hy_ib_ne (i := 5) (tt := 12) rfl (fun zc1 => ?_) (fun zc1 => ?_)
    · exact absurd (of_decide_eq_true zc1) hc
    · refine hy_aload (i := 6) rfl rfl ?_
      refine hy_const (i := 7) rfl (by decide) ?_
      refine hy_aload (i := 8) rfl rfl ?_
      refine hy_get (i := 9) (fk := 10) rfl rfl rfl ?_
      refine hy_cV2e (i := 10) rfl mj_M_wrongAt (by decide) rfl (Nat.le_of_ble_eq_true rfl) rfl rfl rfl (c_M_wrongAt (by decide) (by omega)) ?_
      refine hy_zreturn (i := 11) rfl rfl (by first | decide | exact hy_b01 _) ?_
      rw [← hG]; exact ⟨hy_F.rf.up rfl, rfl, by show -1000 * 1 - t 59 10 = _; omega⟩
end LB
