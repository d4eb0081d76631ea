/-! the model's law as it is read: sums, what waits -/
theorem az_R_p {t t2 : hy_T} {s : Zs} (h : az_R t s) (hF : hy_F (fun r j => r == 59 && (j == 10 || j == 12 || j == 13)) t t2) {p : Int} (hp : t2 59 10 = p) : az_R t2 (p, s.2.1, s.2.2.1, s.2.2.2.1, s.2.2.2.2) := by
  obtain ⟨h1, h2, h3, h4, h5, h6⟩ := h
  refine ⟨hp, by rw [hF 59 15 rfl]; exact h2, ?_, by rw [hF 59 16 rfl]; exact h4, ?_, by rw [hF 59 14 rfl]; exact h6⟩
  · intro j hj; rw [hF 66 j rfl]; exact h3 j hj
  · rw [show t2 67 = t 67 from funext fun j => hF 67 j rfl]; exact h5
theorem mr_num {t t2 : hy_T} (hF : hy_F (fun r j => r == 59 && (j == 10 || j == 12 || j == 13)) t t2) : hy_F mrX t t2 := hF.w (fun r j q => by revert q; simp [mrX]; omega)
theorem az_of_s {a a0 : Nat} {d0 : Int} {w0 : List Int} {f0 : Nat → Int} {sl : Nat} {s s2 : Zs} (h : az_sI 0 a a0 d0 w0 f0 sl s) (hp : s.1 < 240) (ho : az_open 14 s = .inr s2) : az_sI 0 a a0 d0 w0 f0 sl s2 ∧ s2.2.2.2.2 = s.2.2.2.2 + 1 := by
  obtain ⟨ops, h1, h2, h3, h4, h5, h6, h8, h7⟩ := id h
  obtain ⟨o1, o2⟩ := az_open_s (.inr (.inr rfl)) h6 hp ho
  refine ⟨⟨14680064 :: ops, by rw [o2]; dsimp only; rw [h1]; rfl, fun x hx => by rcases List.mem_cons.mp hx with rfl | hx; exact .inr rfl; exact h2 x hx, by rw [o2]; dsimp only; rw [h3]; simp only [az_bin]; rw [if_neg (by decide)]; omega, by rw [o2]; exact h4, by rw [o2]; exact h5, o1, by rw [o2]; exact h8, by rw [o2]; exact h7⟩, by rw [o2]⟩
theorem az_has_iff (g : Nat → Int) : ∀ (w : List Int) (n : Nat), az_row g w → n ≤ w.length → (az_has n w = true ↔ ∃ k, w.length - n ≤ k ∧ k < w.length ∧ g k / 1048576 = 14)
  | w, 0, _, _ => by
    simp only [az_has]
    constructor
    · intro h; cases h
    · intro ⟨k, h1, h2, _⟩; omega
  | [], n + 1, _, hn => by simp at hn
  | x :: w, n + 1, hr, hn => by
    have ih := az_has_iff g w n hr.2 (by simp only [List.length_cons] at hn; omega)
    have hx := hr.1
    simp only [az_has, Bool.or_eq_true, decide_eq_true_eq, ih, List.length_cons]
    constructor
    · rintro (h | ⟨k, h1, h2, h3⟩)
      · exact ⟨w.length, by omega, by omega, by rw [hx]; exact h⟩
      · exact ⟨k, by omega, by omega, h3⟩
    · rintro ⟨k, h1, h2, h3⟩
      by_cases hk : k = w.length
      · left; rw [← hx, ← hk]; exact h3
      · exact .inr ⟨k, by omega, by omega, h3⟩
theorem az_ent_row (g : Nat → Int) : ∀ (w : List Int), az_row g w → (∀ x, x ∈ w → az_ent x) → ∀ k, k < w.length → az_ent (g k)
  | [], _, _, k, hk => by simp at hk
  | x :: w, hr, he, k, hk => by
    simp only [List.length_cons] at hk
    by_cases h : k = w.length
    · rw [h, hr.1]; exact he x List.mem_cons_self
    · exact az_ent_row g w hr.2 (fun y hy => he y (List.mem_cons_of_mem _ hy)) k (by omega)
section MU
variable {sc : List Int32} {t : hy_T} {B : Int → Int}
theorem c_M_readsFactor {s : Zs} {a a0 : Nat} {d0 : Int} {w0 : List Int} {f0 : Nat → Int} {sl : Nat} (hC : az_C t B) (hR : az_R t s) (hI : az_sI 0 a a0 d0 w0 f0 sl s) : hy_Ct sc hm_M_readsFactor 3 [.inr (some 59)] t (az_P t (az_fac B 8 s)) := by
  refine hy_mk_ct ok_M_readsFactor ck_M_readsFactor (Nat.le_of_ble_eq_true rfl) ?_
  have hB := az_C_by hC
  generalize hG : az_fac B 8 s = G
  have loop : ∀ (n : Nat), ∀ (s1 : Zs) (t1 : hy_T), hy_F mrX t t1 → az_R t1 s1 → az_sI 0 a a0 d0 w0 f0 sl s1 → 8 ≤ n + s1.2.2.2.2 → az_fac B n s1 = G → hy_W sc hm_M_readsFactor 3 0 [.inr (some 59), .inr none] [] t1 (az_P t G) := by
    intro n
    induction n with
    | zero =>
      intro s1 t1 hF hR1 hI1 hn hv
      obtain ⟨ops, i1, i2, i3, i4, i5, ⟨k1, k2, k3, k4, k5, k6⟩, i7⟩ := hI1
      omega
    | succ n ih =>
      intro s1 t1 hF hR1 hI1 hn hv
      obtain ⟨ops, i1, i2, i3, i4, i5, hok, i7⟩ := id hI1
      obtain ⟨k1, k2, k3, k4, k5, k6⟩ := id hok
      obtain ⟨q1, q2, q3, q4, q5, q6⟩ := id hR1
      have hC1 := az_C_F hF rfl (fun _ => rfl) hC
      have hmp := az_mpok hC1 (by omega)
      have hh := az_here hC1
      rw [q1] at hh
      have hb := hB s1.1
      simp only [az_fac] at hv
      by_cases h91 : B s1.1 = 91
      · rw [if_pos h91] at hv
        have hlt : s1.1 < 240 := by
          refine Decidable.byContradiction (fun q => ?_)
          have := hb.2.2 (by omega); omega
        have hop := c_M_opens (sc := sc) (what := 14) (by decide) hR1 hok
        cases ho : az_open 14 s1 with
        | inl e =>
          rw [ho] at hv hop
          refine hy_aload (i := 0) rfl rfl ?_
          refine hy_cV0e (i := 1) rfl mj_M_here (by decide) rfl (Nat.le_of_ble_eq_true rfl) rfl rfl rfl (c_M_here (by assumption)) ?_
          refine hy_const (i := 2) rfl (by decide) ?_
          refine hy_ic_ne (i := 3) (tt := 10) rfl (fun zc1 => ?_) (fun zc1 => ?_)
          · omega
          · refine hy_aload (i := 4) rfl rfl ?_
            refine hy_const (i := 5) rfl (by decide) ?_
            refine hy_cV1 (i := 6) rfl mj_M_opens (by decide) rfl (Nat.le_of_ble_eq_true rfl) rfl rfl rfl (hop) (fun r2_ t2_ h2 => ?_)
            obtain ⟨hF2, rfl, he2⟩ := h2
            dsimp only [hy_st, List.cons_append, List.nil_append]
            refine hy_ib_ne (i := 7) (tt := 0) rfl (fun zc2 => ?_) (fun zc2 => ?_)
            · cases (show false = true by assumption)
            · refine hy_const (i := 8) rfl (by decide) ?_
              refine hy_zreturn (i := 9) rfl rfl (by first | decide | exact hy_b01 _) ?_
              rw [← hv]; exact ⟨hF.tr' (by assumption), rfl, by assumption⟩
        | inr s2 =>
          rw [ho] at hv hop
          obtain ⟨o1, o2⟩ := az_of_s hI1 hlt ho
          refine hy_aload (i := 0) rfl rfl ?_
          refine hy_cV0e (i := 1) rfl mj_M_here (by decide) rfl (Nat.le_of_ble_eq_true rfl) rfl rfl rfl (c_M_here (by assumption)) ?_
          refine hy_const (i := 2) rfl (by decide) ?_
          refine hy_ic_ne (i := 3) (tt := 10) rfl (fun zc1 => ?_) (fun zc1 => ?_)
          · omega
          · refine hy_aload (i := 4) rfl rfl ?_
            refine hy_const (i := 5) rfl (by decide) ?_
            refine hy_cV1 (i := 6) rfl mj_M_opens (by decide) rfl (Nat.le_of_ble_eq_true rfl) rfl rfl rfl (hop) (fun r2_ t2_ h2 => ?_)
            obtain ⟨hF2, rfl, hR2⟩ := h2
            dsimp only [hy_st, List.cons_append, List.nil_append]
            refine hy_ib_ne (i := 7) (tt := 0) rfl (fun zc2 => ?_) (fun zc2 => ?_)
            · exact ih s2 _ (hF.tr' hF2) hR2 o1 (by omega) hv
            · cases (show true = false by assumption)
      · rw [if_neg h91] at hv
        by_cases hd : 48 ≤ B s1.1 ∧ B s1.1 ≤ 57
        · rw [if_pos hd] at hv
          have hnm := c_M_readsNumber (sc := sc) hC1 hR1 k1
          cases hn5 : az_num B 5 s1.1 0 with
          | inl e =>
            rw [hn5] at hv hnm
            refine hy_aload (i := 0) rfl rfl ?_
            refine hy_cV0e (i := 1) rfl mj_M_here (by decide) rfl (Nat.le_of_ble_eq_true rfl) rfl rfl rfl (c_M_here (by assumption)) ?_
            refine hy_const (i := 2) rfl (by decide) ?_
            refine hy_ic_ne (i := 3) (tt := 10) rfl (fun zc1 => ?_) (fun zc1 => ?_)
            · refine hy_aload (i := 10) rfl rfl ?_
              refine hy_cV0e (i := 11) rfl mj_M_isDigit (by decide) rfl (Nat.le_of_ble_eq_true rfl) rfl rfl rfl (c_M_isDigit (by assumption)) ?_
              refine hy_ib_eq (i := 12) (tt := 25) rfl (fun zc2 => ?_) (fun zc2 => ?_)
              · have := mp_dig_n (by assumption); omega
              · refine hy_aload (i := 13) rfl rfl ?_
                refine hy_cV0 (i := 14) rfl mj_M_readsNumber (by decide) rfl (Nat.le_of_ble_eq_true rfl) rfl rfl rfl (hnm) (fun r3_ t3_ h3 => ?_)
                obtain ⟨hF3, rfl, he3⟩ := h3
                dsimp only [hy_st, List.cons_append, List.nil_append]
                refine hy_ib_ne (i := 15) (tt := 18) rfl (fun zc3 => ?_) (fun zc3 => ?_)
                · cases (show false = true by assumption)
                · refine hy_const (i := 16) rfl (by decide) ?_
                  refine hy_zreturn (i := 17) rfl rfl (by first | decide | exact hy_b01 _) ?_
                  rw [← hv]; exact ⟨hF.tr' (mr_num (by assumption)), rfl, by assumption⟩
            · omega
          | inr q =>
            rw [hn5] at hv hnm
            obtain ⟨z1, z2, z3, z4, z5⟩ := az_num_s hB 5 s1.1 0 q 100000 (by decide) (by decide) hn5
            refine hy_aload (i := 0) rfl rfl ?_
            refine hy_cV0e (i := 1) rfl mj_M_here (by decide) rfl (Nat.le_of_ble_eq_true rfl) rfl rfl rfl (c_M_here (by assumption)) ?_
            refine hy_const (i := 2) rfl (by decide) ?_
            refine hy_ic_ne (i := 3) (tt := 10) rfl (fun zc1 => ?_) (fun zc1 => ?_)
            · refine hy_aload (i := 10) rfl rfl ?_
              refine hy_cV0e (i := 11) rfl mj_M_isDigit (by decide) rfl (Nat.le_of_ble_eq_true rfl) rfl rfl rfl (c_M_isDigit (by assumption)) ?_
              refine hy_ib_eq (i := 12) (tt := 25) rfl (fun zc2 => ?_) (fun zc2 => ?_)
              · have := mp_dig_n (by assumption); omega
              · refine hy_aload (i := 13) rfl rfl ?_
                refine hy_cV0 (i := 14) rfl mj_M_readsNumber (by decide) rfl (Nat.le_of_ble_eq_true rfl) rfl rfl rfl (hnm) (fun r3_ t3_ h3 => ?_)
                obtain ⟨hF3, rfl, hp3, hv3⟩ := h3
                dsimp only [hy_st, List.cons_append, List.nil_append]
                refine hy_ib_ne (i := 15) (tt := 18) rfl (fun zc3 => ?_) (fun zc3 => ?_)
                · refine hy_aload (i := 18) rfl rfl ?_
                  refine hy_const (i := 19) rfl (by decide) ?_
                  refine hy_aload (i := 20) rfl rfl ?_
                  refine hy_get (i := 21) (fk := 13) rfl rfl rfl ?_
                  have hR5 := az_R_p hR1 hF3 hp3
                  rw [hv3]
                  have e15 := hR5.2.1
                  refine hy_cV2v (i := 22) rfl mj_M_notes (by decide) rfl (Nat.le_of_ble_eq_true rfl) rfl rfl rfl (c_M_notes (by rw [e15]; dsimp only; omega) (by decide) (by omega)) ?_
                  refine hy_const (i := 23) rfl (by decide) ?_
                  refine hy_zreturn (i := 24) rfl rfl (by first | decide | exact hy_b01 _) ?_
                  rw [← hv]
                  refine ⟨(hF.tr' (mr_num hF3)).tr' ((hy_F.rf.up (r := 66) rfl).up (r := 59) (j := 15) rfl), rfl, ?_⟩
                  have hq := az_R_note hR5 q.2
                  rw [show (1048576 * 0 + q.2 : Int) = q.2 by omega]
                  exact hq
                · cases (show true = false by assumption)
            · omega
        · rw [if_neg hd] at hv
          by_cases hlt : lp_letter (B s1.1) = -1
          · rw [if_pos hlt] at hv
            refine hy_aload (i := 0) rfl rfl ?_
            refine hy_cV0e (i := 1) rfl mj_M_here (by decide) rfl (Nat.le_of_ble_eq_true rfl) rfl rfl rfl (c_M_here (by assumption)) ?_
            refine hy_const (i := 2) rfl (by decide) ?_
            refine hy_ic_ne (i := 3) (tt := 10) rfl (fun zc1 => ?_) (fun zc1 => ?_)
            · refine hy_aload (i := 10) rfl rfl ?_
              refine hy_cV0e (i := 11) rfl mj_M_isDigit (by decide) rfl (Nat.le_of_ble_eq_true rfl) rfl rfl rfl (c_M_isDigit (by assumption)) ?_
              refine hy_ib_eq (i := 12) (tt := 25) rfl (fun zc2 => ?_) (fun zc2 => ?_)
              · refine hy_aload (i := 25) rfl rfl ?_
                refine hy_cV0e (i := 26) rfl mj_M_here (by decide) rfl (Nat.le_of_ble_eq_true rfl) rfl rfl rfl (c_M_here (by assumption)) ?_
                rw [hh]
                refine hy_cS1e (i := 27) rfl (by decide) mj_M_factOf (by decide) rfl (Nat.le_of_ble_eq_true rfl) (c_M_factOf) ?_
                refine hy_istore (i := 28) rfl ?_
                refine hy_iload (i := 29) rfl rfl ?_
                refine hy_const (i := 30) rfl (by decide) ?_
                refine hy_ic_ne (i := 31) (tt := 38) rfl (fun zc3 => ?_) (fun zc3 => ?_)
                · exact absurd hlt (by assumption)
                · refine hy_aload (i := 32) rfl rfl ?_
                  refine hy_const (i := 33) rfl (by decide) ?_
                  refine hy_aload (i := 34) rfl rfl ?_
                  refine hy_get (i := 35) (fk := 10) rfl rfl rfl ?_
                  refine hy_cV2e (i := 36) rfl mj_M_wrongAt (by decide) rfl (Nat.le_of_ble_eq_true rfl) rfl rfl rfl (c_M_wrongAt (by decide) (by omega)) ?_
                  refine hy_zreturn (i := 37) rfl rfl (by first | decide | exact hy_b01 _) ?_
                  rw [← hv]; exact ⟨hF.up rfl, rfl, by show -1000 * 1 - t1 59 10 = _; omega⟩
              · have := mp_dig_h (by assumption); omega
            · omega
          · rw [if_neg hlt] at hv
            have hli := az_letter_in hlt
            have hlt2 : s1.1 < 240 := by
              refine Decidable.byContradiction (fun q => ?_)
              have := hb.2.2 (by omega); omega
            have hq := az_R_step (az_R_note hR1 (1048576 + lp_letter (B s1.1)))
            refine hy_aload (i := 0) rfl rfl ?_
            refine hy_cV0e (i := 1) rfl mj_M_here (by decide) rfl (Nat.le_of_ble_eq_true rfl) rfl rfl rfl (c_M_here (by assumption)) ?_
            refine hy_const (i := 2) rfl (by decide) ?_
            refine hy_ic_ne (i := 3) (tt := 10) rfl (fun zc1 => ?_) (fun zc1 => ?_)
            · refine hy_aload (i := 10) rfl rfl ?_
              refine hy_cV0e (i := 11) rfl mj_M_isDigit (by decide) rfl (Nat.le_of_ble_eq_true rfl) rfl rfl rfl (c_M_isDigit (by assumption)) ?_
              refine hy_ib_eq (i := 12) (tt := 25) rfl (fun zc2 => ?_) (fun zc2 => ?_)
              · refine hy_aload (i := 25) rfl rfl ?_
                refine hy_cV0e (i := 26) rfl mj_M_here (by decide) rfl (Nat.le_of_ble_eq_true rfl) rfl rfl rfl (c_M_here (by assumption)) ?_
                rw [hh]
                refine hy_cS1e (i := 27) rfl (by decide) mj_M_factOf (by decide) rfl (Nat.le_of_ble_eq_true rfl) (c_M_factOf) ?_
                refine hy_istore (i := 28) rfl ?_
                refine hy_iload (i := 29) rfl rfl ?_
                refine hy_const (i := 30) rfl (by decide) ?_
                refine hy_ic_ne (i := 31) (tt := 38) rfl (fun zc3 => ?_) (fun zc3 => ?_)
                · refine hy_aload (i := 38) rfl rfl ?_
                  refine hy_const (i := 39) rfl (by decide) ?_
                  refine hy_iload (i := 40) rfl rfl ?_
                  refine hy_cV2v (i := 41) rfl mj_M_notes (by decide) rfl (Nat.le_of_ble_eq_true rfl) rfl rfl rfl (c_M_notes (by omega) (by decide) (by omega)) ?_
                  rw [show (1048576 * 1 + lp_letter (B s1.1) : Int) = 1048576 + lp_letter (B s1.1) by omega]
                  refine hy_aload (i := 42) rfl rfl ?_
                  refine hy_aload (i := 43) rfl rfl ?_
                  refine hy_get (i := 44) (fk := 10) rfl rfl rfl ?_
                  refine hy_const (i := 45) rfl (by decide) ?_
                  refine hy_iadd (i := 46) rfl (by show -2147483648 ≤ t1 59 10 + 1 ∧ t1 59 10 + 1 ≤ 2147483647; omega) ?_
                  refine hy_put (i := 47) (fk := 10) rfl rfl rfl rfl ?_
                  refine hy_const (i := 48) rfl (by decide) ?_
                  refine hy_zreturn (i := 49) rfl rfl (by first | decide | exact hy_b01 _) ?_
                  rw [← hv]; exact ⟨((hF.up (r := 66) rfl).up (r := 59) (j := 15) rfl).up (r := 59) (j := 10) rfl, rfl, hq⟩
                · exact absurd (by assumption) hlt
              · have := mp_dig_h (by assumption); omega
            · omega
  have hno : 0 ≤ s.2.2.2.2 := by
    obtain ⟨ops, i1, i2, i3, i4, i5, ⟨k1, k2, k3, k4, k5, k6⟩, i7⟩ := hI
    omega
  exact loop 8 s t hy_F.rf hR hI (by omega) hG
theorem c_M_hasOpenSum {s : Zs} {b : Nat} (hR : az_R t s) (hb : b ≤ s.2.2.2.1.length) (hl : s.2.2.2.1.length ≤ 250) (he : ∀ x, x ∈ s.2.2.2.1 → az_ent x) : hy_Ct sc hm_M_hasOpenSum 0 [.inr (some 59), .inl (b : Int)] t (hy_e (some (hy_b (az_has (s.2.2.2.1.length - b) s.2.2.2.1))) t) := by
  refine hy_mk_ct ok_M_hasOpenSum ck_M_hasOpenSum (Nat.le_of_ble_eq_true rfl) ?_
  obtain ⟨h1, h2, h3, h4, h5, h6⟩ := hR
  have hi := az_has_iff (t 67) s.2.2.2.1 (s.2.2.2.1.length - b) h5 (by omega)
  have hen := az_ent_row (t 67) s.2.2.2.1 h5 he
  generalize az_has (s.2.2.2.1.length - b) s.2.2.2.1 = G at hi
  have loop : ∀ (m : Nat), ∀ (k : Nat), m + k = s.2.2.2.1.length → b ≤ k → (∀ j, b ≤ j → j < k → t 67 j / 1048576 ≠ 14) → hy_W sc hm_M_hasOpenSum 0 2 [.inr (some 59), .inl (b : Int), .inl (k : Int)] [] t (hy_e (some (hy_b G)) t) := by
    intro m
    induction m with
    | zero =>
      intro k hm hk hn
      have hg : G = false := by
        cases hG : G
        · rfl
        · obtain ⟨j, j1, j2, j3⟩ := hi.mp hG
          exact absurd j3 (hn j (by omega) (by omega))
      refine hy_iload (i := 2) rfl rfl ?_
      refine hy_aload (i := 3) rfl rfl ?_
      refine hy_get (i := 4) (fk := 16) rfl rfl rfl ?_
      refine hy_ic_ge (i := 5) (tt := 18) rfl (fun zc1 => ?_) (fun zc1 => ?_)
      · refine hy_const (i := 18) rfl (by decide) ?_
        refine hy_zreturn (i := 19) rfl rfl (by first | decide | exact hy_b01 _) ?_
        exact ⟨congrArg some (by rw [hg]; rfl), rfl⟩
      · omega
    | succ m ih =>
      intro k hm hk hn
      have hx := hen k (by omega)
      refine hy_iload (i := 2) rfl rfl ?_
      refine hy_aload (i := 3) rfl rfl ?_
      refine hy_get (i := 4) (fk := 16) rfl rfl rfl ?_
      refine hy_ic_ge (i := 5) (tt := 18) rfl (fun zc1 => ?_) (fun zc1 => ?_)
      · omega
      · refine hy_aload (i := 6) rfl rfl ?_
        refine hy_getr (i := 7) rfl rfl ?_
        refine hy_iload (i := 8) rfl rfl ?_
        refine hy_iald (i := 9) rfl rfl (by omega) (k := k) (by omega) ?_
        refine hy_const (i := 10) rfl (by decide) ?_
        refine hy_idiv (i := 11) rfl (by omega) (by omega) ?_
        refine hy_const (i := 12) rfl (by decide) ?_
        refine hy_ic_ne (i := 13) (tt := 16) rfl (fun zc2 => ?_) (fun zc2 => ?_)
        · refine hy_iinc (i := 16) rfl rfl (by omega) ?_
          refine hy_goto (i := 17) (tt := 2) rfl ?_
          exact ih (k + 1) (by omega) (by omega) (fun j j1 j2 => by rcases Nat.lt_succ_iff_lt_or_eq.mp j2 with h | rfl; exact hn j j1 h; assumption)
        · refine hy_const (i := 14) rfl (by decide) ?_
          refine hy_zreturn (i := 15) rfl rfl (by first | decide | exact hy_b01 _) ?_
          exact ⟨congrArg some (by rw [hi.mpr ⟨k, by omega, by omega, by assumption⟩]; rfl), rfl⟩
  refine hy_iload (i := 0) rfl rfl ?_
  refine hy_istore (i := 1) rfl ?_
  exact loop (s.2.2.2.1.length - b) b (by omega) (Nat.le_refl _) (fun j j1 j2 => absurd j2 (by omega))
theorem c_M_endsPiece {s : Zs} (hR : az_R t s) (hm : s.2.1 + az_cnt s.2.2.2.1 ≤ 250) (hl : s.2.2.2.1.length ≤ 250) (he : ∀ x, x ∈ s.2.2.2.1 → az_ent x) (ho : (s.2.2.2.1.length : Int) - 1000 ≤ s.2.2.2.2 ∧ s.2.2.2.2 ≤ 1000) : hy_Ct sc hm_M_endsPiece 1 [.inr (some 59)] t (fun r t' => r = none ∧ hy_F mrX t t' ∧ az_R t' (s.1, (az_ends s.2.2.2.1 s.2.1 s.2.2.1 s.2.2.2.2).2.1, (az_ends s.2.2.2.1 s.2.1 s.2.2.1 s.2.2.2.2).2.2.1, (az_ends s.2.2.2.1 s.2.1 s.2.2.1 s.2.2.2.2).1, (az_ends s.2.2.2.1 s.2.1 s.2.2.1 s.2.2.2.2).2.2.2)) := by
  refine hy_mk_ct ok_M_endsPiece ck_M_endsPiece (Nat.le_of_ble_eq_true rfl) ?_
  have loop : ∀ (w : List Int) (m : Nat) (f : Nat → Int) (o : Int) (t1 : hy_T), hy_F mrX t t1 → az_R t1 (s.1, m, f, w, o) → m + az_cnt w ≤ 250 → w.length ≤ 250 → (∀ x, x ∈ w → az_ent x) → ((w.length : Int) - 1000 ≤ o ∧ o ≤ 1000) → hy_W sc hm_M_endsPiece 1 0 [.inr (some 59)] [] t1 (fun r t' => r = none ∧ hy_F mrX t t' ∧ az_R t' (s.1, (az_ends w m f o).2.1, (az_ends w m f o).2.2.1, (az_ends w m f o).1, (az_ends w m f o).2.2.2)) := by
    intro w
    induction w with
    | nil =>
      intro m f o t1 hF hR1 hm hl he ho
      refine hy_aload (i := 0) rfl rfl ?_
      refine hy_cV0e (i := 1) rfl mj_M_waitTop (by decide) rfl (Nat.le_of_ble_eq_true rfl) rfl rfl rfl (c_M_waitTop (by assumption) (by first | assumption | omega) (by assumption)) ?_
      rw [show az_top (([] : List Int)) = -1 from rfl]
      refine hy_const (i := 2) rfl (by decide) ?_
      refine hy_ic_ne (i := 3) (tt := 21) rfl (fun zc1 => ?_) (fun zc1 => ?_)
      · refine hy_return (i := 21) rfl rfl ?_
        exact ⟨rfl, hF, hR1⟩
      · omega
    | cons x w ih =>
      intro m f o t1 hF hR1 hm hl he ho
      obtain ⟨q1, q2, q3, q4, q5, q6⟩ := id hR1
      dsimp only at q2 q4 q6
      simp only [List.length_cons] at hl ho q4
      by_cases hx : x / 1048576 = 10
      · have e : az_ends (x :: w) m f o = az_ends w (m + 1) (su f m 10485760) (o - 1) := by simp only [az_ends]; rw [if_pos hx]
        rw [e]
        simp only [az_cnt] at hm
        rw [if_pos (by omega)] at hm
        have hn := az_R_o (az_R_pop (az_R_note hR1 10485760)) (o - 1)
        refine hy_aload (i := 0) rfl rfl ?_
        refine hy_cV0e (i := 1) rfl mj_M_waitTop (by decide) rfl (Nat.le_of_ble_eq_true rfl) rfl rfl rfl (c_M_waitTop (by assumption) (by first | assumption | omega) (by assumption)) ?_
        rw [show az_top (x :: w) = x / 1048576 from rfl]
        refine hy_const (i := 2) rfl (by decide) ?_
        refine hy_ic_ne (i := 3) (tt := 21) rfl (fun zc1 => ?_) (fun zc1 => ?_)
        · omega
        · refine hy_aload (i := 4) rfl rfl ?_
          refine hy_const (i := 5) rfl (by decide) ?_
          refine hy_const (i := 6) rfl (by decide) ?_
          refine hy_cV2v (i := 7) rfl mj_M_notes (by decide) rfl (Nat.le_of_ble_eq_true rfl) rfl rfl rfl (c_M_notes (by omega) (by decide) (by decide)) ?_
          rw [show (1048576 * 10 + 0 : Int) = 10485760 from rfl]
          refine hy_aload (i := 8) rfl rfl ?_
          refine hy_aload (i := 9) rfl rfl ?_
          refine hy_get (i := 10) (fk := 16) rfl rfl rfl ?_
          refine hy_const (i := 11) rfl (by decide) ?_
          refine hy_isub (i := 12) rfl (by show -2147483648 ≤ t1 59 16 - 1 ∧ t1 59 16 - 1 ≤ 2147483647; omega) ?_
          refine hy_put (i := 13) (fk := 16) rfl rfl rfl rfl ?_
          refine hy_aload (i := 14) rfl rfl ?_
          refine hy_aload (i := 15) rfl rfl ?_
          refine hy_get (i := 16) (fk := 14) rfl rfl rfl ?_
          refine hy_const (i := 17) rfl (by decide) ?_
          refine hy_isub (i := 18) rfl (by show -2147483648 ≤ t1 59 14 - 1 ∧ t1 59 14 - 1 ≤ 2147483647; omega) ?_
          refine hy_put (i := 19) (fk := 14) rfl rfl rfl rfl ?_
          refine hy_goto (i := 20) (tt := 0) rfl ?_
          refine ih (m + 1) _ (o - 1) _ ((((hF.up (r := 66) rfl).up (r := 59) (j := 15) rfl).up (r := 59) (j := 16) rfl).up (r := 59) (j := 14) rfl) ?_ (by omega) (by omega) (fun y hy => he y (List.mem_cons_of_mem _ hy)) (by omega)
          rw [← q6] at hn ⊢
          exact hn
      · have e : az_ends (x :: w) m f o = (x :: w, m, f, o) := by simp only [az_ends]; rw [if_neg hx]
        rw [e]
        refine hy_aload (i := 0) rfl rfl ?_
        refine hy_cV0e (i := 1) rfl mj_M_waitTop (by decide) rfl (Nat.le_of_ble_eq_true rfl) rfl rfl rfl (c_M_waitTop (by assumption) (by first | assumption | omega) (by assumption)) ?_
        rw [show az_top (x :: w) = x / 1048576 from rfl]
        refine hy_const (i := 2) rfl (by decide) ?_
        refine hy_ic_ne (i := 3) (tt := 21) rfl (fun zc1 => ?_) (fun zc1 => ?_)
        · refine hy_return (i := 21) rfl rfl ?_
          exact ⟨rfl, hF, hR1⟩
        · omega
  exact loop _ _ _ _ t hy_F.rf hR hm hl he ho
theorem c_M_lands {s : Zs} {all : Bool} (hR : az_R t s) (hm : s.2.1 < 260) (hl : s.2.2.2.1.length ≤ 250) (he : ∀ x, x ∈ s.2.2.2.1 → az_ent x) (hf : az_rows s.2.2.1) (hps : ∀ x, x ∈ s.2.2.2.1 → (x / 1048576 = 11 ∨ x / 1048576 = 12) → (x % 1048576).toNat < s.2.1) : hy_Ct sc hm_M_lands 1 [.inr (some 59), .inl (hy_b all)] t (fun r t' => r = none ∧ hy_F mrX t t' ∧ az_R t' (s.1, s.2.1, (az_land all s.2.2.2.1 s.2.1 s.2.2.1).2, (az_land all s.2.2.2.1 s.2.1 s.2.2.1).1, s.2.2.2.2)) := by
  refine hy_mk_ct ok_M_lands ck_M_lands (Nat.le_of_ble_eq_true rfl) ?_
  have loop : ∀ (w : List Int) (f : Nat → Int) (t1 : hy_T) (v2 : hy_V), hy_F mrX t t1 → az_R t1 (s.1, s.2.1, f, w, s.2.2.2.2) → w.length ≤ 250 → (∀ x, x ∈ w → az_ent x) → az_rows f → (∀ x, x ∈ w → (x / 1048576 = 11 ∨ x / 1048576 = 12) → (x % 1048576).toNat < s.2.1) → hy_W sc hm_M_lands 1 0 [.inr (some 59), .inl (hy_b all), v2] [] t1 (fun r t' => r = none ∧ hy_F mrX t t' ∧ az_R t' (s.1, s.2.1, (az_land all w s.2.1 f).2, (az_land all w s.2.1 f).1, s.2.2.2.2)) := by
    intro w
    induction w with
    | nil =>
      intro f t1 v2 hF hR1 hl he hf hps
      refine hy_aload (i := 0) rfl rfl ?_
      refine hy_cV0e (i := 1) rfl mj_M_waitTop (by decide) rfl (Nat.le_of_ble_eq_true rfl) rfl rfl rfl (c_M_waitTop (by assumption) (by first | assumption | omega) (by assumption)) ?_
      rw [show az_top (([] : List Int)) = -1 from rfl]
      refine hy_const (i := 2) rfl (by decide) ?_
      refine hy_ic_eq (i := 3) (tt := 10) rfl (fun zc1 => ?_) (fun zc1 => ?_)
      · omega
      · refine hy_iload (i := 4) rfl rfl ?_
        refine hy_ib_eq (i := 5) (tt := 42) rfl (fun zc2 => ?_) (fun zc2 => ?_)
        · refine hy_return (i := 42) rfl rfl ?_
          exact ⟨rfl, hF, hR1⟩
        · refine hy_aload (i := 6) rfl rfl ?_
          refine hy_cV0e (i := 7) rfl mj_M_waitTop (by decide) rfl (Nat.le_of_ble_eq_true rfl) rfl rfl rfl (c_M_waitTop (by assumption) (by first | assumption | omega) (by assumption)) ?_
          rw [show az_top (([] : List Int)) = -1 from rfl]
          refine hy_const (i := 8) rfl (by decide) ?_
          refine hy_ic_ne (i := 9) (tt := 42) rfl (fun zc3 => ?_) (fun zc3 => ?_)
          · refine hy_return (i := 42) rfl rfl ?_
            exact ⟨rfl, hF, hR1⟩
          · omega
    | cons x w ih =>
      intro f t1 v2 hF hR1 hl he hf hps
      obtain ⟨q1, q2, q3, q4, q5, q6⟩ := id hR1
      dsimp only at q2 q3 q4 q6
      have q5a := q5.1
      have hx := he x List.mem_cons_self
      simp only [List.length_cons] at hl q4
      by_cases hc : x / 1048576 = 11 ∨ (all = true ∧ x / 1048576 = 12)
      · have e : az_land all (x :: w) s.2.1 f = az_land all w s.2.1 (su f (x % 1048576).toNat (1048576 * (f (x % 1048576).toNat / 1048576) + s.2.1)) := by simp only [az_land]; rw [if_pos hc]
        rw [e]
        have hrow := hf (x % 1048576).toNat (by omega)
        have hpos := hps x List.mem_cons_self (by omega)
        have e66 : t1 66 (x % 1048576).toNat = f (x % 1048576).toNat := q3 _ hpos
        have hst : ∀ v2, hy_W sc hm_M_lands 1 10 [.inr (some 59), .inl (hy_b all), v2] [] t1 (fun r t' => r = none ∧ hy_F mrX t t' ∧ az_R t' (s.1, s.2.1, (az_land all w s.2.1 (su f (x % 1048576).toNat (1048576 * (f (x % 1048576).toNat / 1048576) + s.2.1))).2, (az_land all w s.2.1 (su f (x % 1048576).toNat (1048576 * (f (x % 1048576).toNat / 1048576) + s.2.1))).1, s.2.2.2.2)) := by
          intro v2
          have hR2 : az_R (hy_up t1 66 (x % 1048576).toNat (1048576 * (f (x % 1048576).toNat / 1048576) + s.2.1)) (s.1, s.2.1, su f (x % 1048576).toNat (1048576 * (f (x % 1048576).toNat / 1048576) + s.2.1), x :: w, s.2.2.2.2) := ⟨q1, q2, fun j hj => by rw [hy_up_row]; simp only [su]; split; rfl; exact q3 j hj, hR1.2.2.2.1, q5, q6⟩
          have hR3 := az_R_pop hR2
          refine hy_aload (i := 10) rfl rfl ?_
          refine hy_getr (i := 11) rfl rfl ?_
          refine hy_aload (i := 12) rfl rfl ?_
          refine hy_get (i := 13) (fk := 16) rfl rfl rfl ?_
          refine hy_const (i := 14) rfl (by decide) ?_
          refine hy_isub (i := 15) rfl (by omega) ?_
          refine hy_iald (i := 16) rfl rfl (by omega) (k := w.length) (by omega) ?_
          rw [q5a]
          refine hy_const (i := 17) rfl (by decide) ?_
          refine hy_irem (i := 18) rfl (by omega) (by omega) ?_
          refine hy_istore (i := 19) rfl ?_
          refine hy_aload (i := 20) rfl rfl ?_
          refine hy_getr (i := 21) rfl rfl ?_
          refine hy_iload (i := 22) rfl rfl ?_
          refine hy_const (i := 23) rfl (by decide) ?_
          refine hy_aload (i := 24) rfl rfl ?_
          refine hy_getr (i := 25) rfl rfl ?_
          refine hy_iload (i := 26) rfl rfl ?_
          refine hy_iald (i := 27) rfl rfl (by omega) rfl ?_
          rw [e66]
          refine hy_const (i := 28) rfl (by decide) ?_
          refine hy_idiv (i := 29) rfl (by omega) (by omega) ?_
          refine hy_imul (i := 30) rfl (by omega) ?_
          refine hy_aload (i := 31) rfl rfl ?_
          refine hy_get (i := 32) (fk := 15) rfl rfl rfl ?_
          refine hy_iadd (i := 33) rfl (by omega) ?_
          refine hy_iast (i := 34) rfl rfl (by omega) rfl ?_
          rw [q2]
          refine hy_aload (i := 35) rfl rfl ?_
          refine hy_aload (i := 36) rfl rfl ?_
          refine hy_get (i := 37) (fk := 16) rfl rfl rfl ?_
          refine hy_const (i := 38) rfl (by decide) ?_
          refine hy_isub (i := 39) rfl (by show -2147483648 ≤ t1 59 16 - 1 ∧ t1 59 16 - 1 ≤ 2147483647; omega) ?_
          refine hy_put (i := 40) (fk := 16) rfl rfl rfl rfl ?_
          refine hy_goto (i := 41) (tt := 0) rfl ?_
          exact ih _ _ _ ((hF.up (r := 66) rfl).up (r := 59) (j := 16) rfl) hR3 (by omega) (fun y hy => he y (List.mem_cons_of_mem _ hy)) (az_row_su hf _ ⟨by omega, by omega⟩) (fun y hy => hps y (List.mem_cons_of_mem _ hy))
        refine hy_aload (i := 0) rfl rfl ?_
        refine hy_cV0e (i := 1) rfl mj_M_waitTop (by decide) rfl (Nat.le_of_ble_eq_true rfl) rfl rfl rfl (c_M_waitTop (by assumption) (by first | assumption | omega) (by assumption)) ?_
        rw [show az_top (x :: w) = x / 1048576 from rfl]
        refine hy_const (i := 2) rfl (by decide) ?_
        refine hy_ic_eq (i := 3) (tt := 10) rfl (fun zc1 => ?_) (fun zc1 => ?_)
        · exact hst _
        · refine hy_iload (i := 4) rfl rfl ?_
          refine hy_ib_eq (i := 5) (tt := 42) rfl (fun zc2 => ?_) (fun zc2 => ?_)
          · exfalso; rcases hc with hc | hc; omega; exact bb_abs hc.1 (by assumption)
          · refine hy_aload (i := 6) rfl rfl ?_
            refine hy_cV0e (i := 7) rfl mj_M_waitTop (by decide) rfl (Nat.le_of_ble_eq_true rfl) rfl rfl rfl (c_M_waitTop (by assumption) (by first | assumption | omega) (by assumption)) ?_
            rw [show az_top (x :: w) = x / 1048576 from rfl]
            refine hy_const (i := 8) rfl (by decide) ?_
            refine hy_ic_ne (i := 9) (tt := 42) rfl (fun zc3 => ?_) (fun zc3 => ?_)
            · omega
            · exact hst _
      · have e : az_land all (x :: w) s.2.1 f = (x :: w, f) := by simp only [az_land]; rw [if_neg hc]
        rw [e]
        refine hy_aload (i := 0) rfl rfl ?_
        refine hy_cV0e (i := 1) rfl mj_M_waitTop (by decide) rfl (Nat.le_of_ble_eq_true rfl) rfl rfl rfl (c_M_waitTop (by assumption) (by first | assumption | omega) (by assumption)) ?_
        rw [show az_top (x :: w) = x / 1048576 from rfl]
        refine hy_const (i := 2) rfl (by decide) ?_
        refine hy_ic_eq (i := 3) (tt := 10) rfl (fun zc1 => ?_) (fun zc1 => ?_)
        · exact absurd (.inl (by assumption)) hc
        · refine hy_iload (i := 4) rfl rfl ?_
          refine hy_ib_eq (i := 5) (tt := 42) rfl (fun zc2 => ?_) (fun zc2 => ?_)
          · refine hy_return (i := 42) rfl rfl ?_
            exact ⟨rfl, hF, hR1⟩
          · refine hy_aload (i := 6) rfl rfl ?_
            refine hy_cV0e (i := 7) rfl mj_M_waitTop (by decide) rfl (Nat.le_of_ble_eq_true rfl) rfl rfl rfl (c_M_waitTop (by assumption) (by first | assumption | omega) (by assumption)) ?_
            rw [show az_top (x :: w) = x / 1048576 from rfl]
            refine hy_const (i := 8) rfl (by decide) ?_
            refine hy_ic_ne (i := 9) (tt := 42) rfl (fun zc3 => ?_) (fun zc3 => ?_)
            · refine hy_return (i := 42) rfl rfl ?_
              exact ⟨rfl, hF, hR1⟩
            · exact absurd (.inr ⟨by assumption, by assumption⟩) hc
  exact loop _ _ t _ hy_F.rf hR hl he hf hps
theorem c_M_jumps {s : Zs} {op : Int} (hR : az_R t s) (hm : s.2.1 < 260) (hl : s.2.2.2.1.length ≤ 250) (hp : 0 ≤ s.1 ∧ s.1 ≤ 240) (ho : 0 ≤ op ∧ op ≤ 12) : hy_Ct sc hm_M_jumps 1 [.inr (some 59), .inl op] t (fun r t' => r = none ∧ hy_F mrX t t' ∧ az_R t' (s.1 + 1, s.2.1 + 1, su s.2.2.1 s.2.1 (1048576 * op), (1048576 * op + s.2.1) :: s.2.2.2.1, s.2.2.2.2)) := by
  refine hy_mk_ct ok_M_jumps ck_M_jumps (Nat.le_of_ble_eq_true rfl) ?_
  obtain ⟨q1, q2, q3, q4, q5, q6⟩ := id hR
  have hR2 := az_R_step (az_R_note (az_R_push hR (1048576 * op + s.2.1)) (1048576 * op))
  refine hy_aload (i := 0) rfl rfl ?_
  refine hy_getr (i := 1) rfl rfl ?_
  refine hy_aload (i := 2) rfl rfl ?_
  refine hy_get (i := 3) (fk := 16) rfl rfl rfl ?_
  refine hy_const (i := 4) rfl (by decide) ?_
  refine hy_iload (i := 5) rfl rfl ?_
  refine hy_imul (i := 6) rfl (by omega) ?_
  refine hy_aload (i := 7) rfl rfl ?_
  refine hy_get (i := 8) (fk := 15) rfl rfl rfl ?_
  refine hy_iadd (i := 9) rfl (by omega) ?_
  rw [q2]
  refine hy_iast (i := 10) rfl rfl (by omega) rfl ?_
  refine hy_aload (i := 11) rfl rfl ?_
  refine hy_aload (i := 12) rfl rfl ?_
  refine hy_get (i := 13) (fk := 16) rfl rfl rfl ?_
  refine hy_const (i := 14) rfl (by decide) ?_
  refine hy_iadd (i := 15) rfl (by show -2147483648 ≤ t 59 16 + 1 ∧ t 59 16 + 1 ≤ 2147483647; omega) ?_
  refine hy_put (i := 16) (fk := 16) rfl rfl rfl rfl ?_
  refine hy_aload (i := 17) rfl rfl ?_
  refine hy_iload (i := 18) rfl rfl ?_
  refine hy_const (i := 19) rfl (by decide) ?_
  refine hy_cV2v (i := 20) rfl mj_M_notes (by decide) rfl (Nat.le_of_ble_eq_true rfl) rfl rfl rfl (c_M_notes (by show 0 ≤ t 59 15 ∧ t 59 15 < 260; omega) ho (by decide)) ?_
  rw [Int.add_zero]
  refine hy_aload (i := 21) rfl rfl ?_
  refine hy_aload (i := 22) rfl rfl ?_
  refine hy_get (i := 23) (fk := 10) rfl rfl rfl ?_
  refine hy_const (i := 24) rfl (by decide) ?_
  refine hy_iadd (i := 25) rfl (by show -2147483648 ≤ t 59 10 + 1 ∧ t 59 10 + 1 ≤ 2147483647; omega) ?_
  refine hy_put (i := 26) (fk := 10) rfl rfl rfl rfl ?_
  refine hy_return (i := 27) rfl rfl ?_
  exact ⟨rfl, ((((hy_F.rf.up (r := 67) rfl).up (r := 59) (j := 16) rfl).up (r := 66) rfl).up (r := 59) (j := 15) rfl).up (r := 59) (j := 10) rfl, hR2⟩
end MU
