/-! the model's law as it is read: sums, what waits -/
theorem az_R_p {t t2 : hy_T} {s : Zs} (h : az_R t s) (hF : hy_F (fun r j => r == 59 && (j == 10 || j == 12 || j == 13)) t t2) {p : Int} (hp : t2 59 10 = p) : az_R t2 (p, s.2.1, s.2.2.1, s.2.2.2.1, s.2.2.2.2) := by
  obtain ⟨h1, h2, h3, h4, h5, h6⟩ := h
  refine ⟨hp, by rw [hF 59 15 rfl]; exact h2, ?_, by rw [hF 59 16 rfl]; exact h4, ?_, by rw [hF 59 14 rfl]; exact h6⟩
  · intro j hj; rw [hF 66 j rfl]; exact h3 j hj
  · rw [show t2 67 = t 67 from funext fun j => hF 67 j rfl]; exact h5
theorem mr_num {t t2 : hy_T} (hF : hy_F (fun r j => r == 59 && (j == 10 || j == 12 || j == 13)) t t2) : hy_F mrX t t2 := hF.w (fun r j q => by revert q; simp [mrX]; omega)
theorem az_of_s {a a0 : Nat} {d0 : Int} {w0 : List Int} {f0 : Nat → Int} {sl : Nat} {s s2 : Zs} (h : az_sI 0 a a0 d0 w0 f0 sl s) (hp : s.1 < 240) (ho : az_open 14 s = .inr s2) : az_sI 0 a a0 d0 w0 f0 sl s2 ∧ s2.2.2.2.2 = s.2.2.2.2 + 1 := by
  obtain ⟨ops, h1, h2, h3, h4, h5, h6, h8, h7⟩ := id h
  obtain ⟨o1, o2⟩ := az_open_s (.inr (.inr rfl)) h6 hp ho
  refine ⟨⟨14680064 :: ops, by rw [o2]; dsimp only; rw [h1]; rfl, fun x hx => by rcases List.mem_cons.mp hx with rfl | hx; exact .inr rfl; exact h2 x hx, by rw [o2]; dsimp only; rw [h3]; simp only [az_bin]; rw [if_neg (by decide)]; omega, by rw [o2]; exact h4, by rw [o2]; exact h5, o1, by rw [o2]; exact h8, by rw [o2]; exact h7⟩, by rw [o2]⟩
theorem az_has_iff (g : Nat → Int) : ∀ (w : List Int) (n : Nat), az_row g w → n ≤ w.length → (az_has n w = true ↔ ∃ k, w.length - n ≤ k ∧ k < w.length ∧ g k / 1048576 = 14)
  | w, 0, _, _ => by
    simp only [az_has]
    constructor
    · intro h; cases h
    · intro ⟨k, h1, h2, _⟩; omega
  | [], n + 1, _, hn => by simp at hn
  | x :: w, n + 1, hr, hn => by
    have ih := az_has_iff g w n hr.2 (by simp only [List.length_cons] at hn; omega)
    have hx := hr.1
    simp only [az_has, Bool.or_eq_true, decide_eq_true_eq, ih, List.length_cons]
    constructor
    · rintro (h | ⟨k, h1, h2, h3⟩)
      · exact ⟨w.length, by omega, by omega, by rw [hx]; exact h⟩
      · exact ⟨k, by omega, by omega, h3⟩
    · rintro ⟨k, h1, h2, h3⟩
      by_cases hk : k = w.length
      · left; rw [← hx, ← hk]; exact h3
      · exact .inr ⟨k, by omega, by omega, h3⟩
theorem az_ent_row (g : Nat → Int) : ∀ (w : List Int), az_row g w → (∀ x, x ∈ w → az_ent x) → ∀ k, k < w.length → az_ent (g k)
  | [], _, _, k, hk => by simp at hk
  | x :: w, hr, he, k, hk => by
    simp only [List.length_cons] at hk
    by_cases h : k = w.length
    · rw [h, hr.1]; exact he x List.mem_cons_self
    · exact az_ent_row g w hr.2 (fun y hy => he y (List.mem_cons_of_mem _ hy)) k (by omega)
section MU
variable {sc : List Int32} {t : hy_T} {B : Int → Int}
theorem c_M_readsFactor {s : Zs} {a a0 : Nat} {d0 : Int} {w0 : List Int} {f0 : Nat → Int} {sl : Nat} (hC : az_C t B) (hR : az_R t s) (hI : az_sI 0 a a0 d0 w0 f0 sl s) : hy_Ct sc hm_M_readsFactor 3 [.inr (some 59)] t (az_P t (az_fac B 8 s)) := by
  refine hy_mk_ct ok_M_readsFactor ck_M_readsFactor (Nat.le_of_ble_eq_true rfl) ?_
  have hB := az_C_by hC
  generalize hG : az_fac B 8 s = G
  have loop : ∀ (n : Nat), ∀ (s1 : Zs) (t1 : hy_T), hy_F mrX t t1 → az_R t1 s1 → az_sI 0 a a0 d0 w0 f0 sl s1 → 8 ≤ n + s1.2.2.2.2 → az_fac B n s1 = G → hy_W sc hm_M_readsFactor 3 0 [.inr (some 59), .inr none] [] t1 (az_P t G) := by
    intro n
    induction n with
    | zero =>
      intro s1 t1 hF hR1 hI1 hn hv
      obtain ⟨ops, i1, i2, i3, i4, i5, ⟨k1, k2, k3, k4, k5, k6⟩, i7⟩ := hI1
      omega
    | succ n ih =>
      intro s1 t1 hF hR1 hI1 hn hv
      obtain ⟨ops, i1, i2, i3, i4, i5, hok, i7⟩ := id hI1
      obtain ⟨k1, k2, k3, k4, k5, k6⟩ := id hok
      obtain ⟨q1, q2, q3, q4, q5, q6⟩ := id hR1
      have hC1 := az_C_F hF rfl (fun _ => rfl) hC
      have hmp := az_mpok hC1 (by omega)
      have hh := az_here hC1
      rw [q1] at hh
      have hb := hB s1.1
      simp only [az_fac] at hv
      by_cases h91 : B s1.1 = 91
      · rw [if_pos h91] at hv
        have hlt : s1.1 < 240 := by
          refine Decidable.byContradiction (fun q => ?_)
          have := hb.2.2 (by omega); omega
        have hop := c_M_opens (sc := sc) (what := 14) (by decide) hR1 hok
        cases ho : az_open 14 s1 with
        | inl e =>
          rw [ho] at hv hop
          refine hy_aload (i := 0) rfl rfl ?_
          refine hy_cV0e (i := 1) rfl mj_M_here (by decide) rfl (Nat.le_of_ble_eq_true rfl) rfl rfl rfl (c_M_here (by assumption)) ?_
          refine hy_const (i := 2) rfl (by decide) ?_
          refine hy_ic_ne (i := 3) (tt := 10) rfl (fun zc1 => ?_) (fun zc1 => ?_)
          · omega
          · refine hy_aload (i := 4) rfl rfl ?_
            refine hy_const (i := 5) rfl (by decide) ?_
            refine hy_cV1 (i := 6) rfl mj_M_opens (by decide) rfl (Nat.le_of_ble_eq_true rfl) rfl rfl rfl (hop) (fun r2_ t2_ h2 => ?_)
            obtain ⟨hF2, rfl, he2⟩ := h2
            dsimp only [hy_st, List.cons_append, List.nil_append]
            refine hy_ib_ne (i := 7) (tt := 0) rfl (fun zc2 => ?_) (fun zc2 => ?_)
            · cases (show false = true by assumption)
            · refine hy_const (i := 8) rfl (by decide) ?_
              refine hy_zreturn (i := 9) rfl rfl (by first | decide | exact hy_b01 _) ?_
              rw [← hv]; exact ⟨hF.tr' (by assumption), rfl, by assumption⟩
        | inr s2 =>
          rw [ho] at hv hop
          obtain ⟨o1, o2⟩ := az_of_s hI1 hlt ho
          refine hy_aload (i := 0) rfl rfl ?_
          refine hy_cV0e (i := 1) rfl mj_M_here (by decide) rfl (Nat.le_of_ble_eq_true rfl) rfl rfl rfl (c_M_here (by assumption)) ?_
          refine hy_const (i := 2) rfl (by decide) ?_
          refine hy_ic_ne (i := 3) (tt := 10) rfl (fun zc1 => ?_) (fun zc1 => ?_)
          · omega
          · refine hy_aload (i := 4) rfl rfl ?_
            refine hy_const (i := 5) rfl (by decide) ?_
            refine hy_cV1 (i := 6) rfl mj_M_opens (by decide) rfl (Nat.le_of_ble_eq_true rfl) rfl rfl rfl (hop) (fun r2_ t2_ h2 => ?_)
            obtain ⟨hF2, rfl, hR2⟩ := h2
            dsimp only [hy_st, List.cons_append, List.nil_append]
            refine hy_ib_ne (i := 7) (tt := 0) rfl (fun zc2 => ?_) (fun zc2 => ?_)
            · exact ih s2 _ (hF.tr' hF2) hR2 o1 (by omega) hv
            · cases (show true = false by assumption)
      · rw [if_neg h91] at hv
        by_cases hd : 48 ≤ B s1.1 ∧ B s1.1 ≤ 57
        · rw [if_pos hd] at hv
          have hnm := c_M_readsNumber (sc := sc) hC1 hR1 k1
          cases hn5 : az_num B 5 s1.1 0 with
          | inl e =>
            rw [hn5] at hv hnm
            refine hy_aload (i := 0) rfl rfl ?_
            refine hy_cV0e (i := 1) rfl mj_M_here (by decide) rfl (Nat.le_of_ble_eq_true rfl) rfl rfl rfl (c_M_here (by assumption)) ?_
            refine hy_const (i := 2) rfl (by decide) ?_
            refine hy_ic_ne (i := 3) (tt := 10) rfl (fun zc1 => ?_) (fun zc1 => ?_)
            · refine hy_aload (i := 10) rfl rfl ?_
              refine hy_cV0e (i := 11) rfl mj_M_isDigit (by decide) rfl (Nat.le_of_ble_eq_true rfl) rfl rfl rfl (c_M_isDigit (by assumption)) ?_
              refine hy_ib_eq (i := 12) (tt := 25) rfl (fun zc2 => ?_) (fun zc2 => ?_)
              · have := mp_dig_n (by assumption); omega
              · refine hy_aload (i := 13) rfl rfl ?_
                refine hy_cV0 (i := 14) rfl mj_M_readsNumber (by decide) rfl (Nat.le_of_ble_eq_true rfl) rfl rfl rfl (hnm) (fun r3_ t3_ h3 => ?_)
                obtain ⟨hF3, rfl, he3⟩ := h3
                dsimp only [hy_st, List.cons_append, List.nil_append]
                refine hy_ib_ne (i := 15) (tt := 18) rfl (fun zc3 => ?_) (fun zc3 => ?_)
                · cases (show false = true by assumption)
                · refine hy_const (i := 16) rfl (by decide) ?_
                  refine hy_zreturn (i := 17) rfl rfl (by first | decide | exact hy_b01 _) ?_
                  rw [← hv]; exact ⟨hF.tr' (mr_num (by assumption)), rfl, by assumption⟩
            · omega
          | inr q =>
            rw [hn5] at hv hnm
            obtain ⟨z1, z2, z3, z4, z5⟩ := az_num_s hB 5 s1.1 0 q 100000 (by decide) (by decide) hn5
            refine hy_aload (i := 0) rfl rfl ?_
            refine hy_cV0e (i := 1) rfl mj_M_here (by decide) rfl (Nat.le_of_ble_eq_true rfl) rfl rfl rfl (c_M_here (by assumption)) ?_
            refine hy_const (i := 2) rfl (by decide) ?_
            refine hy_ic_ne (i := 3) (tt := 10) rfl (fun zc1 => ?_) (fun zc1 => ?_)
            · refine hy_aload (i := 10) rfl rfl ?_
              refine hy_cV0e (i := 11) rfl mj_M_isDigit (by decide) rfl (Nat.le_of_ble_eq_true rfl) rfl rfl rfl (c_M_isDigit (by assumption)) ?_
              refine hy_ib_eq (i := 12) (tt := 25) rfl (fun zc2 => ?_) (fun zc2 => ?_)
              · have := mp_dig_n (by assumption); omega
              · refine hy_aload (i := 13) rfl rfl ?_
                refine hy_cV0 (i := 14) rfl mj_M_readsNumber (by decide) rfl (Nat.le_of_ble_eq_true rfl) rfl rfl rfl (hnm) (fun r3_ t3_ h3 => ?_)
                obtain ⟨hF3, rfl, hp3, hv3⟩ := h3
                dsimp only [hy_st, List.cons_append, List.nil_append]
                refine hy_ib_ne (i := 15) (tt := 18) rfl (fun zc3 => ?_) (fun zc3 => ?_)
                · refine hy_aload (i := 18) rfl rfl ?_
                  refine hy_const (i := 19) rfl (by decide) ?_
                  refine hy_aload (i := 20) rfl rfl ?_
                  refine hy_get (i := 21) (fk := 13) rfl rfl rfl ?_
                  have hR5 := az_R_p hR1 hF3 hp3
                  rw [hv3]
                  have e15 := hR5.2.1
                  refine hy_cV2v (i := 22) rfl mj_M_notes (by decide) rfl (Nat.le_of_ble_eq_true rfl) rfl rfl rfl (c_M_notes (by rw [e15]; dsimp only; omega) (by decide) (by omega)) ?_
                  refine hy_const (i := 23) rfl (by decide) ?_
                  refine hy_zreturn (i := 24) rfl rfl (by first | decide | exact hy_b01 _) ?_
                  rw [← hv]
                  refine ⟨(hF.tr' (mr_num hF3)).tr' ((hy_F.rf.up (r := 66) rfl).up (r := 59) (j := 15) rfl), rfl, ?_⟩
                  have hq := az_R_note hR5 q.2
                  rw [show (1048576 * 0 + q.2 : Int) = q.2 by omega]
                  exact hq
                · cases (show true = false by assumption)
            · omega
        · rw [if_neg hd] at hv
          by_cases hlt : lp_letter (B s1.1) = -1
          · rw [if_pos hlt] at hv
            refine hy_aload (i := 0) rfl rfl ?_
            refine hy_cV0e (i := 1) rfl mj_M_here (by decide) rfl (Nat.le_of_ble_eq_true rfl) rfl rfl rfl (c_M_here (by assumption)) ?_
            refine hy_const (i := 2) rfl (by decide) ?_
            refine hy_ic_ne (i := 3) (tt := 10) rfl (fun zc1 => ?_) (fun zc1 => ?_)
            · refine hy_aload (i := 10) rfl rfl ?_
              refine hy_cV0e (i := 11) rfl mj_M_isDigit (by decide) rfl (Nat.le_of_ble_eq_true rfl) rfl rfl rfl (c_M_isDigit (by assumption)) ?_
              refine hy_ib_eq (i := 12) (tt := 25) rfl (fun zc2 => ?_) (fun zc2 => ?_)
              · refine hy_aload (i := 25) rfl rfl ?_
                refine hy_cV0e (i := 26) rfl mj_M_here (by decide) rfl (Nat.le_of_ble_eq_true rfl) rfl rfl rfl (c_M_here (by assumption)) ?_
                rw [hh]
                refine hy_cS1e (i := 27) rfl (by decide) mj_M_factOf (by decide) rfl (Nat.le_of_ble_eq_true rfl) (c_M_factOf) ?_
                refine hy_istore (i := 28) rfl ?_
                refine hy_iload (i := 29) rfl rfl ?_
                refine hy_const (i := 30) rfl (by decide) ?_
                refine hy_ic_ne (i := 31) (tt := 38) rfl (fun zc3 => ?_) (fun zc3 => ?_)
                · exact absurd hlt (by assumption)
                · refine hy_aload (i := 32) rfl rfl ?_
                  refine hy_const (i := 33) rfl (by decide) ?_
                  refine hy_aload (i := 34) rfl rfl ?_
                  refine hy_get (i := 35) (fk := 10) rfl rfl rfl ?_
                  refine hy_cV2e (i := 36) rfl mj_M_wrongAt (by decide) rfl (Nat.le_of_ble_eq_true rfl) rfl rfl rfl (c_M_wrongAt (by decide) (by omega)) ?_
                  refine hy_zreturn (i := 37) rfl rfl (by first | decide | exact hy_b01 _) ?_
                  rw [← hv]; exact ⟨hF.up rfl, rfl, by show -1000 * 1 - t1 59 10 = _; omega⟩
              · have := mp_dig_h (by assumption); omega
            · omega
          · rw [if_neg hlt] at hv
            have hli := az_letter_in hlt
            have hlt2 : s1.1 < 240 := by
              refine Decidable.byContradiction (fun q => ?_)
              have := hb.2.2 (by omega); omega
            have hq := az_R_step (az_R_note hR1 (1048576 + lp_letter (B s1.1)))
            refine hy_aload (i := 0) rfl rfl ?_
            refine hy_cV0e (i := 1) rfl mj_M_here (by decide) rfl (Nat.le_of_ble_eq_true rfl) rfl rfl rfl (c_M_here (by assumption)) ?_
            refine hy_const (i := 2) rfl (by decide) ?_
            refine hy_ic_ne (i := 3) (tt := 10) rfl (fun zc1 => ?_) (fun zc1 => ?_)
            · refine hy_aload (i := 10) rfl rfl ?_
              refine hy_cV0e (i := 11) rfl mj_M_isDigit (by decide) rfl (Nat.le_of_ble_eq_true rfl) rfl rfl rfl (c_M_isDigit (by assumption)) ?_
              refine hy_ib_eq (i := 12) (tt := 25) rfl (fun zc2 => ?_) (fun zc2 => ?_)
              · refine hy_aload (i := 25) rfl rfl ?_
                refine hy_cV0e (i := 26) rfl mj_M_here (by decide) rfl (Nat.le_of_ble_eq_true rfl) rfl rfl rfl (c_M_here (by assumption)) ?_
                rw [hh]
                refine hy_cS1e (i := 27) rfl (by decide) mj_M_factOf (by decide) rfl (Nat.le_of_ble_eq_true rfl) (c_M_factOf) ?_
                refine hy_istore (i := 28) rfl ?_
                refine hy_iload (i := 29) rfl rfl ?_
                refine hy_const (i := 30) rfl (by decide) ?_
                refine hy_ic_ne (i := 31) (tt := 38) rfl (fun zc3 => ?_) (fun zc3 => ?_)
                · refine hy_aload (i := 38) rfl rfl ?_
                  refine hy_const (i := 39) rfl (by decide) ?_
                  refine hy_iload (i := 40) rfl rfl ?_
                  refine hy_cV2v (i := 41) rfl mj_M_notes (by decide) rfl (Nat.le_of_ble_eq_true rfl) rfl rfl rfl (c_M_notes (by omega) (by decide) (by omega)) ?_
                  rw [show (1048576 * 1 + lp_letter (B s1.1) : Int) = 1048576 + lp_letter (B s1.1) by omega]
                  refine hy_aload (i := 42) rfl rfl ?_
                  refine hy_aload (i := 43) rfl rfl ?_
                  refine hy_get (i := 44) (fk := 10) rfl rfl rfl ?_
                  refine hy_const (i := 45) rfl (by decide) ?_
                  refine hy_iadd (i := 46) rfl (by show -2147483648 ≤ t1 59 10 + 1 ∧ t1 59 10 + 1 ≤ 2147483647; omega) ?_
                  refine hy_put (i := 47) (fk := 10) rfl rfl rfl rfl ?_
                  refine hy_const (i := 48) rfl (by decide) ?_
                  refine hy_zreturn (i := 49) rfl rfl (by first | decide | exact hy_b01 _) ?_
                  rw [← hv]; exact ⟨((hF.up (r := 66) rfl).up (r := 59) (j := 15) rfl).up (r := 59) (j := 10) rfl, rfl, hq⟩
                · exact absurd (by assumption) hlt
              · have := mp_dig_h (by assumption); omega
            · omega
  have hno : 0 ≤ s.2.2.2.2 := by
    obtain ⟨ops, i1, i2, i3, i4, i5, ⟨k1, k2, k3, k4, k5, k6⟩, i7⟩ := hI
    omega
  exact loop 8 s t hy_F.rf hR hI (by omega) hG
theorem c_M_hasOpenSum {s : Zs} {b : Nat} (hR : az_R t s) (hb : b ≤ s.2.2.2.1.length) (hl : s.2.2.2.1.length ≤ 250) (he : ∀ x, x ∈ s.2.2.2.1 → az_ent x) : hy_Ct sc hm_M_hasOpenSum 0 [.inr (some 59), .inl (b : Int)] t (hy_e (some (hy_b (az_has (s.2.2.2.1.length - b) s.2.2.2.1))) t) := by
  refine hy_mk_ct ok_M_hasOpenSum ck_M_hasOpenSum (Nat.le_of_ble_eq_true rfl) ?_
  obtain ⟨h1, h2, h3, h4, h5, h6⟩ := hR
  have hi := az_has_iff (t 67) s.2.2.2.1 (s.2.2.2.1.length - b) h5 (by omega)
  have hen := az_ent_row (t 67) s.2.2.2.1 h5 he
  generalize az_has (s.2.2.2.1.length - b) s.2.2.2.1 = G at hi
  have loop : ∀ (m : Nat), ∀ (k : Nat), m + k = s.2.2.2.1.length → b ≤ k → (∀ j, b ≤ j → j < k → t 67 j / 1048576 ≠ 14) → hy_W sc hm_M_hasOpenSum 0 2 [.inr (some 59), .inl (b : Int), .inl (k : Int)] [] t (hy_e (some (hy_b G)) t) := by
    intro m
    induction m with
    | zero =>
      intro k hm hk hn
      have hg : G = false := by
        cases hG : G
        · rfl
        · obtain ⟨j, j1, j2, j3⟩ := hi.mp hG
          exact absurd j3 (hn j (by omega) (by omega))
      refine hy_iload (i := 2) rfl rfl ?_
      refine hy_aload (i := 3) rfl rfl ?_
      refine hy_get (i := 4) (fk := 16) rfl rfl rfl ?_
      refine hy_ic_ge (i := 5) (tt := 18) rfl (fun zc1 => ?_) (fun zc1 => ?_)
      · refine hy_const (i := 18) rfl (by decide) ?_
        refine hy_zreturn (i := 19) rfl rfl (by first | decide | exact hy_b01 _) ?_
        exact ⟨congrArg some (by rw [hg]; rfl), rfl⟩
      · omega
    | succ m ih =>
      intro k hm hk hn
      have hx := hen k (by omega)
      refine hy_iload (i := 2) rfl rfl ?_
      refine hy_aload (i := 3) rfl rfl ?_
      refine hy_get (i := 4) (fk := 16) rfl rfl rfl ?_
      refine hy_ic_ge (i := 5) (tt := 18) rfl (fun zc1 => ?_) (fun zc1 => ?_)
      · omega
      · refine hy_aload (i := 6) rfl rfl ?_
        refine hy_getr (i := 7) rfl rfl ?_
        refine hy_iload (i := 8) rfl rfl ?_
        refine hy_iald (i := 9) rfl rfl (by omega) (k := k) (by omega) ?_
        refine hy_const (i := 10) rfl (by decide) ?_
        refine hy_idiv (i := 11) rfl (by omega) (by omega) ?_
        refine hy_const (i := 12) rfl (by decide) ?_
        refine hy_ic_ne (i := 13) (tt := 16) rfl (fun zc2 => ?_) (fun zc2 => ?_)
        · refine hy_iinc (i := 16) rfl rfl (by omega) ?_
          refine hy_goto (i := 17) (tt := 2) rfl ?_
          exact ih (k + 1) (by omega) (by omega) (fun j j1 j2 => by rcases Nat.lt_succ_iff_lt_or_eq.mp j2 with h | rfl; exact hn j j1 h; assumption)
        · refine hy_const (i := 14) rfl (by decide) ?_
          refine hy_zreturn (i := 15) rfl rfl (by first | decide | exact hy_b01 _) ?_
          exact ⟨congrArg some (by rw [hi.mpr ⟨k, by omega, by omega, by assumption⟩]; rfl), rfl⟩
  refine hy_iload (i := 0) rfl rfl ?_
  refine hy_istore (i := 1) rfl ?_
  exact loop (s.2.2.2.1.length - b) b (by omega) (Nat.le_refl _) (fun j j1 j2 => absurd j2 (by omega))
theorem c_M_endsPiece {s : Zs} (hR : az_R t s) (hm : s.2.1 + az_cnt s.2.2.2.1 ≤ 250) (hl : s.2.2.2.1.length ≤ 250) (he : ∀ x, x ∈ s.2.2.2.1 → az_ent x) (ho : (s.2.2.2.1.length : Int) - 1000 ≤ s.2.2.2.2 ∧ s.2.2.2.2 ≤ 1000) : hy_Ct sc hm_M_endsPiece 1 [.inr (some 59)] t (fun r t' => r = none ∧ hy_F mrX t t' ∧ az_R t' (s.1, (az_ends s.2.2.2.1 s.2.1 s.2.2.1 s.2.2.2.2).2.1, (az_ends s.2.2.2.1 s.2.1 s.2.2.1 s.2.2.2.2).2.2.1, (az_ends s.2.2.2.1 s.2.1 s.2.2.1 s.2.2.2.2).1, (az_ends s.2.2.2.1 s.2.1 s.2.2.1 s.2.2.2.2).2.2.2)) := by
  refine hy_mk_ct ok_M_endsPiece ck_M_endsPiece (Nat.le_of_ble_eq_true rfl) ?_
  have loop : ∀ (w : List Int) (m : Nat) (f : Nat → Int) (o : Int) (t1 : hy_T), hy_F mrX t t1 → az_R t1 (s.1, m, f, w, o) → m + az_cnt w ≤ 250 → w.length ≤ 250 → (∀ x, x ∈ w → az_ent x) → ((w.length : Int) - 1000 ≤ o ∧ o ≤ 1000) → hy_W sc hm_M_endsPiece 1 0 [.inr (some 59)] [] t1 (fun r t' => r = none ∧ hy_F mrX t t' ∧ az_R t' (s.1, (az_ends w m f o).2.1, (az_ends w m f o).2.2.1, (az_ends w m f o).1, (az_ends w m f o).2.2.2)) := by
    intro w
    induction w with
    | nil =>
      intro m f o t1 hF hR1 hm hl he ho
      refine hy_aload (i := 0) rfl rfl ?_
      refine hy_cV0e (i := 1) rfl mj_M_waitTop (by decide) rfl (Nat.le_of_ble_eq_true rfl) rfl rfl rfl (c_M_waitTop (by assumption) (by first | assumption | omega) (by assumption)) ?_
      rw [show az_top (([] : List Int)) = -1 from rfl]
      refine hy_const (i := 2) rfl (by decide) ?_
      refine hy_ic_ne (i := 3) (tt := 21) rfl (fun zc1 => ?_) (fun zc1 => ?_)
      · refine hy_return (i := 21) rfl rfl ?_
        exact ⟨rfl, hF, hR1⟩
      · omega
    | cons x w ih =>
      intro m f o t1 hF hR1 hm hl he ho
      obtain ⟨q1, q2, q3, q4, q5, q6⟩ := id hR1
      dsimp only at q2 q4 q6
      simp only [List.length_cons] at hl ho q4
      by_cases hx : x / 1048576 = 10
      · have e : az_ends (x :: w) m f o = az_ends w (m + 1) (su f m 10485760) (o - 1) := by simp only [az_ends]; rw [if_pos hx]
        rw [e]
        simp only [az_cnt] at hm
        rw [if_pos (by omega)] at hm
        have hn := az_R_o (az_R_pop (az_R_note hR1 10485760)) (o - 1)
        refine hy_aload (i := 0) rfl rfl ?_
        refine hy_cV0e (i := 1) rfl mj_M_waitTop (by decide) rfl (Nat.le_of_ble_eq_true rfl) rfl rfl rfl (c_M_waitTop (by assumption) (by first | assumption | omega) (by assumption)) ?_
        rw [show az_top (x :: w) = x / 1048576 from rfl]
        refine hy_const (i := 2) rfl (by decide) ?_
        refine hy_ic_ne (i := 3) (tt := 21) rfl (fun zc1 => ?_) (fun zc1 => ?_)
        · omega
        · refine hy_aload (i := 4) rfl rfl ?_
          refine hy_const (i := 5) rfl (by decide) ?_
          refine hy_const (i := 6) rfl (by decide) ?_
          refine hy_cV2v (i := 7) rfl mj_M_notes (by decide) rfl (Nat.le_of_ble_eq_true rfl) rfl rfl rfl (c_M_notes (by omega) (by decide) (by decide)) ?_
          rw [show (1048576 * 10 + 0 : Int) = 10485760 from rfl]
          refine hy_aload (i := 8) rfl rfl ?_
          refine hy_aload (i := 9) rfl rfl ?_
          refine hy_get (i := 10) (fk := 16) rfl rfl rfl ?_
          refine hy_const (i := 11) rfl (by decide) ?_
          refine hy_isub (i := 12) rfl (by show -2147483648 ≤ t1 59 16 - 1 ∧ t1 59 16 - 1 ≤ 2147483647; omega) ?_
          refine hy_put (i := 13) (fk := 16) rfl rfl rfl rfl ?_
          refine hy_aload (i := 14) rfl rfl ?_
          refine hy_aload (i := 15) rfl rfl ?_
          refine hy_get (i := 16) (fk := 14) rfl rfl rfl ?_
          refine hy_const (i := 17) rfl (by decide) ?_
          refine hy_isub (i := 18) rfl (by show -2147483648 ≤ t1 59 14 - 1 ∧ t1 59 14 - 1 ≤ 2147483647; omega) ?_
          refine hy_put (i := 19) (fk := 14) rfl rfl rfl rfl ?_
          refine hy_goto (i := 20) (tt := 0) rfl ?_
          refine ih (m + 1) _ (o - 1) _ ((((hF.up (r := 66) rfl).up (r := 59) (j := 15) rfl).up (r := 59) (j := 16) rfl).up (r := 59) (j := 14) rfl) ?_ (by omega) (by omega) (fun y hy => he y (List.mem_cons_of_mem _ hy)) (by omega)
          rw [← q6] at hn ⊢
          exact hn
      · have e : az_ends (x :: w) m f o = (x :: w, m, f, o) := by simp only [az_ends]; rw [if_neg hx]
        rw [e]
        refine hy_aload (i := 0) rfl rfl ?_
        refine hy_cV0e (i := 1) rfl mj_M_waitTop (by decide) rfl (Nat.le_of_ble_eq_true rfl) rfl rfl rfl (c_M_waitTop (by assumption) (by first | assumption | omega) (by assumption)) ?_
        rw [show az_top (x :: w) = x / 1048576 from rfl]
        refine hy_const (i := 2) rfl (by decide) ?_
        refine hy_ic_ne (i := 3) (tt := 21) rfl (fun zc1 => ?_) (fun zc1 => ?_)
        · refine hy_return (i := 21) rfl rfl ?_
          exact ⟨rfl, hF, hR1⟩
        · omega
  exact loop _ _ _ _ t hy_F.rf hR hm hl he ho
theorem c_M_lands {s : Zs} {all : Bool} (hR : az_R t s) (hm : s.2.1 < 260) (hl : s.2.2.2.1.length ≤ 250) (he : ∀ x, x ∈ s.2.2.2.1 → az_ent x) (hf : az_rows s.2.2.1) (hps : ∀ x, x ∈ s.2.2.2.1 → (x / 1048576 = 11 ∨ x / 1048576 = 12) → (x % 1048576).toNat < s.2.1) : hy_Ct sc hm_M_lands 1 [.inr (some 59), .inl (hy_b all)] t (fun r t' => r = none ∧ hy_F mrX t t' ∧ az_R t' (s.1, s.2.1, (az_land all s.2.2.2.1 s.2.1 s.2.2.1).2, (az_land all s.2.2.2.1 s.2.1 s.2.2.1).1, s.2.2.2.2)) := by
  refine hy_mk_ct ok_M_lands ck_M_lands (Nat.le_of_ble_eq_true rfl) ?_
  have loop : ∀ (w : List Int) (f : Nat → Int) (t1 : hy_T) (v2 : hy_V), hy_F mrX t t1 → az_R t1 (s.1, s.2.1, f, w, s.2.2.2.2) → w.length ≤ 250 → (∀ x, x ∈ w → az_ent x) → az_rows f → (∀ x, x ∈ w → (x / 1048576 = 11 ∨ x / 1048576 = 12) → (x % 1048576).toNat < s.2.1) → hy_W sc hm_M_lands 1 0 [.inr (some 59), .inl (hy_b all), v2] [] t1 (fun r t' => r = none ∧ hy_F mrX t t' ∧ az_R t' (s.1, s.2.1, (az_land all w s.2.1 f).2, (az_land all w s.2.1 f).1, s.2.2.2.2)) := by
    intro w
    induction w with
    | nil =>
      intro f t1 v2 hF hR1 hl he hf hps
      refine hy_aload (i := 0) rfl rfl ?_
      refine hy_cV0e (i := 1) rfl mj_M_waitTop (by decide) rfl (Nat.le_of_ble_eq_true rfl) rfl rfl rfl (c_M_waitTop (by assumption) (by first | assumption | omega) (by assumption)) ?_
      rw [show az_top (([] : List Int)) = -1 from rfl]
      refine hy_const (i := 2) rfl (by decide) ?_
      refine hy_ic_eq (i := 3) (tt := 10) rfl (fun zc1 => ?_) (fun zc1 => ?_)
      · omega
      · refine hy_iload (i := 4) rfl rfl ?_
        refine hy_ib_eq (i := 5) (tt := 42) rfl (fun zc2 => ?_) (fun zc2 => ?_)
        · refine hy_return (i := 42) rfl rfl ?_
          exact ⟨rfl, hF, hR1⟩
        · refine hy_aload (i := 6) rfl rfl ?_
          refine hy_cV0e (i := 7) rfl mj_M_waitTop (by decide) rfl (Nat.le_of_ble_eq_true rfl) rfl rfl rfl (c_M_waitTop (by assumption) (by first | assumption | omega) (by assumption)) ?_
          rw [show az_top (([] : List Int)) = -1 from rfl]
          refine hy_const (i := 8) rfl (by decide) ?_
          refine hy_ic_ne (i := 9) (tt := 42) rfl (fun zc3 => ?_) (fun zc3 => ?_)
          · refine hy_return (i := 42) rfl rfl ?_
            exact ⟨rfl, hF, hR1⟩
          · omega
    | cons x w ih =>
      intro f t1 v2 hF hR1 hl he hf hps
      obtain ⟨q1, q2, q3, q4, q5, q6⟩ := id hR1
      dsimp only at q2 q3 q4 q6
      have q5a := q5.1
      have hx := he x List.mem_cons_self
      simp only [List.length_cons] at hl q4
      by_cases hc : x / 1048576 = 11 ∨ (all = true ∧ x / 1048576 = 12)
      · have e : az_land all (x :: w) s.2.1 f = az_land all w s.2.1 (su f (x % 1048576).toNat (1048576 * (f (x % 1048576).toNat / 1048576) + s.2.1)) := by simp only [az_land]; rw [if_pos hc]
        rw [e]
        have hrow := hf (x % 1048576).toNat (by omega)
        have hpos := hps x List.mem_cons_self (by omega)
        have e66 : t1 66 (x % 1048576).toNat = f (x % 1048576).toNat := q3 _ hpos
        have hst : ∀ v2, hy_W sc hm_M_lands 1 10 [.inr (some 59), .inl (hy_b all), v2] [] t1 (fun r t' => r = none ∧ hy_F mrX t t' ∧ az_R t' (s.1, s.2.1, (az_land all w s.2.1 (su f (x % 1048576).toNat (1048576 * (f (x % 1048576).toNat / 1048576) + s.2.1))).2, (az_land all w s.2.1 (su f (x % 1048576).toNat (1048576 * (f (x % 1048576).toNat / 1048576) + s.2.1))).1, s.2.2.2.2)) := by
          intro v2
          have hR2 : az_R (hy_up t1 66 (x % 1048576).toNat (1048576 * (f (x % 1048576).toNat / 1048576) + s.2.1)) (s.1, s.2.1, su f (x % 1048576).toNat (1048576 * (f (x % 1048576).toNat / 1048576) + s.2.1), x :: w, s.2.2.2.2) := ⟨q1, q2, fun j hj => by rw [hy_up_row]; simp only [su]; split; rfl; exact q3 j hj, hR1.2.2.2.1, q5, q6⟩
          have hR3 := az_R_pop hR2
          refine hy_aload (i := 10) rfl rfl ?_
          refine hy_getr (i := 11) rfl rfl ?_
          refine hy_aload (i := 12) rfl rfl ?_
          refine hy_get (i := 13) (fk := 16) rfl rfl rfl ?_
          refine hy_const (i := 14) rfl (by decide) ?_
          refine hy_isub (i := 15) rfl (by omega) ?_
          refine hy_iald (i := 16) rfl rfl (by omega) (k := w.length) (by omega) ?_
          rw [q5a]
          refine hy_const (i := 17) rfl (by decide) ?_
          refine hy_irem (i := 18) rfl (by omega) (by omega) ?_
          refine hy_istore (i := 19) rfl ?_
          refine hy_aload (i := 20) rfl rfl ?_
          refine hy_getr (i := 21) rfl rfl ?_
          refine hy_iload (i := 22) rfl rfl ?_
          refine hy_const (i := 23) rfl (by decide) ?_
          refine hy_aload (i := 24) rfl rfl ?_
          refine hy_getr (i := 25) rfl rfl ?_
          refine hy_iload (i := 26) rfl rfl ?_
          refine hy_iald (i := 27) rfl rfl (by omega) rfl ?_
          rw [e66]
          refine hy_const (i := 28) rfl (by decide) ?_
          refine hy_idiv (i := 29) rfl (by omega) (by omega) ?_
          refine hy_imul (i := 30) rfl (by omega) ?_
          refine hy_aload (i := 31) rfl rfl ?_
          refine hy_get (i := 32) (fk := 15) rfl rfl rfl ?_
          refine hy_iadd (i := 33) rfl (by omega) ?_
          refine hy_iast (i := 34) rfl rfl (by omega) rfl ?_
          rw [q2]
          refine hy_aload (i := 35) rfl rfl ?_
          refine hy_aload (i := 36) rfl rfl ?_
          refine hy_get (i := 37) (fk := 16) rfl rfl rfl ?_
          refine hy_const (i := 38) rfl (by decide) ?_
          refine hy_isub (i := 39) rfl (by show -2147483648 ≤ t1 59 16 - 1 ∧ t1 59 16 - 1 ≤ 2147483647; omega) ?_
          refine hy_put (i := 40) (fk := 16) rfl rfl rfl rfl ?_
          refine hy_goto (i := 41) (tt := 0) rfl ?_
          exact ih _ _ _ ((hF.up (r := 66) rfl).up (r := 59) (j := 16) rfl) hR3 (by omega) (fun y hy => he y (List.mem_cons_of_mem _ hy)) (az_row_su hf _ ⟨by omega, by omega⟩) (fun y hy => hps y (List.mem_cons_of_mem _ hy))
        refine hy_aload (i := 0) rfl rfl ?_
        refine hy_cV0e (i := 1) rfl mj_M_waitTop (by decide) rfl (Nat.le_of_ble_eq_true rfl) rfl rfl rfl (c_M_waitTop (by assumption) (by first | assumption | omega) (by assumption)) ?_
        rw [show az_top (x :: w) = x / 1048576 from rfl]
        refine hy_const (i := 2) rfl (by decide) ?_
        refine hy_ic_eq (i := 3) (tt := 10) rfl (fun zc1 => ?_) (fun zc1 => ?_)
        · exact hst _
        · refine hy_iload (i := 4) rfl rfl ?_
          refine hy_ib_eq (i := 5) (tt := 42) rfl (fun zc2 => ?_) (fun zc2 => ?_)
          · exfalso; rcases hc with hc | hc; omega; exact bb_abs hc.1 (by assumption)
          · refine hy_aload (i := 6) rfl rfl ?_
            refine hy_cV0e (i := 7) rfl mj_M_waitTop (by decide) rfl (Nat.le_of_ble_eq_true rfl) rfl rfl rfl (c_M_waitTop (by assumption) (by first | assumption | omega) (by assumption)) ?_
            rw [show az_top (x :: w) = x / 1048576 from rfl]
            refine hy_const (i := 8) rfl (by decide) ?_
            refine hy_ic_ne (i := 9) (tt := 42) rfl (fun zc3 => ?_) (fun zc3 => ?_)
            · omega
            · exact hst _
      · have e : az_land all (x :: w) s.2.1 f = (x :: w, f) := by simp only [az_land]; rw [if_neg hc]
        rw [e]
        refine hy_aload (i := 0) rfl rfl ?_
        refine hy_cV0e (i := 1) rfl mj_M_waitTop (by decide) rfl (Nat.le_of_ble_eq_true rfl) rfl rfl rfl (c_M_waitTop (by assumption) (by first | assumption | omega) (by assumption)) ?_
        rw [show az_top (x :: w) = x / 1048576 from rfl]
        refine hy_const (i := 2) rfl (by decide) ?_
        refine hy_ic_eq (i := 3) (tt := 10) rfl (fun zc1 => ?_) (fun zc1 => ?_)
        · exact absurd (.inl (by assumption)) hc
        · refine hy_iload (i := 4) rfl rfl ?_
          refine hy_ib_eq (i := 5) (tt := 42) rfl (fun zc2 => ?_) (fun zc2 => ?_)
          · refine hy_return (i := 42) rfl rfl ?_
            exact ⟨rfl, hF, hR1⟩
          · refine hy_aload (i := 6) rfl rfl ?_
            refine hy_cV0e (i := 7) rfl mj_M_waitTop (by decide) rfl (Nat.le_of_ble_eq_true rfl) rfl rfl rfl (c_M_waitTop (by assumption) (by first | assumption | omega) (by assumption)) ?_
            rw [show az_top (x :: w) = x / 1048576 from rfl]
            refine hy_const (i := 8) rfl (by decide) ?_
            refine hy_ic_ne (i := 9) (tt := 42) rfl (fun zc3 => ?_) (fun zc3 => ?_)
            · refine hy_return (i := 42) rfl rfl ?_
              exact ⟨rfl, hF, hR1⟩
            · exact absurd (.inr ⟨by assumption, by assumption⟩) hc
  exact loop _ _ t _ hy_F.rf hR hl he hf hps
theorem c_M_jumps {s : Zs} {op : Int} (hR : az_R t s) (hm : s.2.1 < 260) (hl : s.2.2.2.1.length ≤ 250) (hp : 0 ≤ s.1 ∧ s.1 ≤ 240) (ho : 0 ≤ op ∧ op ≤ 12) : hy_Ct sc hm_M_jumps 1 [.inr (some 59), .inl op] t (fun r t' => r = none ∧ hy_F mrX t t' ∧ az_R t' (s.1 + 1, s.2.1 + 1, su s.2.2.1 s.2.1 (1048576 * op), (1048576 * op + s.2.1) :: s.2.2.2.1, s.2.2.2.2)) := by
  refine hy_mk_ct ok_M_jumps ck_M_jumps (Nat.le_of_ble_eq_true rfl) ?_
  obtain ⟨q1, q2, q3, q4, q5, q6⟩ := id hR
  have hR2 := az_R_step (az_R_note (az_R_push hR (1048576 * op + s.2.1)) (1048576 * op))
  refine hy_aload (i := 0) rfl rfl ?_
  refine hy_getr (i := 1) rfl rfl ?_
  refine hy_aload (i := 2) rfl rfl ?_
  refine hy_get (i := 3) (fk := 16) rfl rfl rfl ?_
  refine hy_const (i := 4) rfl (by decide) ?_
  refine hy_iload (i := 5) rfl rfl ?_
  refine hy_imul (i := 6) rfl (by omega) ?_
  refine hy_aload (i := 7) rfl rfl ?_
  refine hy_get (i := 8) (fk := 15) rfl rfl rfl ?_
  refine hy_iadd (i := 9) rfl (by omega) ?_
  rw [q2]
  refine hy_iast (i := 10) rfl rfl (by omega) rfl ?_
  refine hy_aload (i := 11) rfl rfl ?_
  refine hy_aload (i := 12) rfl rfl ?_
  refine hy_get (i := 13) (fk := 16) rfl rfl rfl ?_
  refine hy_const (i := 14) rfl (by decide) ?_
  refine hy_iadd (i := 15) rfl (by show -2147483648 ≤ t 59 16 + 1 ∧ t 59 16 + 1 ≤ 2147483647; omega) ?_
  refine hy_put (i := 16) (fk := 16) rfl rfl rfl rfl ?_
  refine hy_aload (i := 17) rfl rfl ?_
  refine hy_iload (i := 18) rfl rfl ?_
  refine hy_const (i := 19) rfl (by decide) ?_
  refine hy_cV2v (i := 20) rfl mj_M_notes (by decide) rfl (Nat.le_of_ble_eq_true rfl) rfl rfl rfl (c_M_notes (by show 0 ≤ t 59 15 ∧ t 59 15 < 260; omega) ho (by decide)) ?_
  rw [Int.add_zero]
  refine hy_aload (i := 21) rfl rfl ?_
  refine hy_aload (i := 22) rfl rfl ?_
  refine hy_get (i := 23) (fk := 10) rfl rfl rfl ?_
  refine hy_const (i := 24) rfl (by decide) ?_
  refine hy_iadd (i := 25) rfl (by show -2147483648 ≤ t 59 10 + 1 ∧ t 59 10 + 1 ≤ 2147483647; omega) ?_
  refine hy_put (i := 26) (fk := 10) rfl rfl rfl rfl ?_
  refine hy_return (i := 27) rfl rfl ?_
  exact ⟨rfl, ((((hy_F.rf.up (r := 67) rfl).up (r := 59) (j := 16) rfl).up (r := 66) rfl).up (r := 59) (j := 15) rfl).up (r := 59) (j := 10) rfl, hR2⟩
end MU
/-! the model's law as it is read: sums, comparisons, conditions -/
section MTT
variable {sc : List Int32} {t : hy_T} {B : Int → Int}
theorem c_M_readsSum {s : Zs} {a a0 : Nat} {d0 : Int} {f0 : Nat → Int} {sl : Nat} (hC : az_C t B) (hR : az_R t s) (hd : 0 ≤ d0) (hh : az_hd s.2.2.2.1) (hdep : az_dep s.2.2.1 a s.2.1 = d0) (hl : az_lc s.2.2.1 a s.2.1 s.2.2.2.1) (ha : a ≤ s.2.1) (hok : az_ok sl s) (h8 : a0 ≤ s.2.1) (h0 : ∀ j, j < a0 → s.2.2.1 j = f0 j) : hy_Ct sc hm_M_readsSum 4 [.inr (some 59)] t (az_P t (az_rs B s)) := by
  refine hy_mk_ct ok_M_readsSum ck_M_readsSum (Nat.le_of_ble_eq_true rfl) ?_
  have hB := az_C_by hC
  have hI : az_sI 0 a a0 d0 s.2.2.2.1 f0 sl s := ⟨[], rfl, (fun x hx => by cases hx), by rw [hdep]; simp [az_bin], hl, ha, hok, h8, h0⟩
  have h16 : t 59 16 = (s.2.2.2.1.length : Int) := hR.2.2.2.1
  generalize hG : az_rs B s = G
  unfold az_rs at hG
  have hfa := c_M_readsFactor (sc := sc) hC hR hI
  have loop : ∀ (n : Nat), ∀ (s1 : Zs) (t1 : hy_T) (v2 : hy_V), hy_F mrX t t1 → az_R t1 s1 → az_sI 1 a a0 d0 s.2.2.2.1 f0 sl s1 → 250 ≤ n + s1.1 → az_sum B s.2.2.2.1.length n s1 = G → hy_W sc hm_M_readsSum 4 8 [.inr (some 59), .inl (s.2.2.2.1.length : Int), v2] [] t1 (az_P t G) := by
    intro n
    induction n with
    | zero =>
      intro s1 t1 v2 hF hR1 hI1 hn hv
      obtain ⟨i1, i2, i3, i4⟩ := az_sI_cl hd hh hI1
      omega
    | succ n ih =>
      intro s1 t1 v2 hF hR1 hI1 hn hv
      obtain ⟨i1, i2, i3, i4⟩ := az_sI_cl hd hh hI1
      obtain ⟨q1, q2, q3, q4, q5, q6⟩ := id hR1
      have hlen : s.2.2.2.1.length ≤ s1.2.2.2.1.length := by
        obtain ⟨ops, j1, -⟩ := hI1
        rw [j1, List.length_append]; omega
      have hC1 := az_C_F hF rfl (fun _ => rfl) hC
      have hmp := az_mpok hC1 (by omega)
      have hhe := az_here hC1
      rw [q1] at hhe
      have hb := hB s1.1
      have hcl := fun all => c_M_closesSums (sc := sc) (all := all) hR1 i1 i2 i4
      have hho := c_M_hasOpenSum (sc := sc) (b := s.2.2.2.1.length) hR1 hlen i2 i4
      simp only [az_sum] at hv
      by_cases hs : az_sgn (B s1.1) ≠ -1
      · rw [if_pos hs] at hv
        have hsg := az_sgn_in hs
        have hlt : s1.1 < 240 := by
          refine Decidable.byContradiction (fun q => ?_)
          have := hb.2.2 (by omega); omega
        have hstep := az_sg_s hB hd hh hI1 hs
        obtain ⟨ops3, j1, j2, j3, j4, j5, j6, j7⟩ := id hstep
        obtain ⟨k1, k2, k3, k4, k5, k6⟩ := id j6
        unfold az_sg at hstep k1 k2 k3
        dsimp only at k1 k2 k3
        simp only [List.length_cons] at k3
        have fac : ∀ t3, hy_F mrX t t3 → az_R t3 (s1.1 + 1, (az_close (decide (az_sgn (B s1.1) < 4)) s1.2.2.2.1 s1.2.1 s1.2.2.1).2.1, (az_close (decide (az_sgn (B s1.1) < 4)) s1.2.2.2.1 s1.2.1 s1.2.2.1).2.2, (1048576 * az_sgn (B s1.1)) :: (az_close (decide (az_sgn (B s1.1) < 4)) s1.2.2.2.1 s1.2.1 s1.2.2.1).1, s1.2.2.2.2) → hy_W sc hm_M_readsSum 4 43 [.inr (some 59), .inl (s.2.2.2.1.length : Int), .inl (az_sgn (B s1.1))] [] t3 (az_P t G) := by
          intro t3 hF3 hR3
          have hC3 := az_C_F hF3 rfl (fun _ => rfl) hC
          have hf3 := c_M_readsFactor (sc := sc) hC3 hR3 hstep
          cases hf : az_fac B 8 (s1.1 + 1, (az_close (decide (az_sgn (B s1.1) < 4)) s1.2.2.2.1 s1.2.1 s1.2.2.1).2.1, (az_close (decide (az_sgn (B s1.1) < 4)) s1.2.2.2.1 s1.2.1 s1.2.2.1).2.2, (1048576 * az_sgn (B s1.1)) :: (az_close (decide (az_sgn (B s1.1) < 4)) s1.2.2.2.1 s1.2.1 s1.2.2.1).1, s1.2.2.2.2) with
          | inl e =>
            rw [hf] at hv hf3
            refine hy_aload (i := 43) rfl rfl ?_
            refine hy_cV0 (i := 44) rfl mj_M_readsFactor (by decide) rfl (Nat.le_of_ble_eq_true rfl) rfl rfl rfl (hf3) (fun r1_ t1_ h1 => ?_)
            obtain ⟨hF1, rfl, he1⟩ := h1
            dsimp only [hy_st, List.cons_append, List.nil_append]
            refine hy_ib_ne (i := 45) (tt := 93) rfl (fun zc1 => ?_) (fun zc1 => ?_)
            · cases (show false = true by assumption)
            · refine hy_const (i := 46) rfl (by decide) ?_
              refine hy_zreturn (i := 47) rfl rfl (by first | decide | exact hy_b01 _) ?_
              rw [← hv]; exact ⟨hF3.tr' (by assumption), rfl, by assumption⟩
          | inr s4 =>
            rw [hf] at hv hf3
            obtain ⟨f1, f2⟩ := az_fac_s hB hd 8 _ _ hstep hf
            dsimp only at f2
            refine hy_aload (i := 43) rfl rfl ?_
            refine hy_cV0 (i := 44) rfl mj_M_readsFactor (by decide) rfl (Nat.le_of_ble_eq_true rfl) rfl rfl rfl (hf3) (fun r1_ t1_ h1 => ?_)
            obtain ⟨hF1, rfl, hR1⟩ := h1
            dsimp only [hy_st, List.cons_append, List.nil_append]
            refine hy_ib_ne (i := 45) (tt := 93) rfl (fun zc1 => ?_) (fun zc1 => ?_)
            · refine hy_goto (i := 93) (tt := 8) rfl ?_
              exact ih s4 _ _ (hF3.tr' (by assumption)) (by assumption) f1 (by omega) hv
            · cases (show true = false by assumption)
        have push : ∀ t2, hy_F mrX t1 t2 → az_R t2 (s1.1, (az_close (decide (az_sgn (B s1.1) < 4)) s1.2.2.2.1 s1.2.1 s1.2.2.1).2.1, (az_close (decide (az_sgn (B s1.1) < 4)) s1.2.2.2.1 s1.2.1 s1.2.2.1).2.2, (az_close (decide (az_sgn (B s1.1) < 4)) s1.2.2.2.1 s1.2.1 s1.2.2.1).1, s1.2.2.2.2) → hy_W sc hm_M_readsSum 4 23 [.inr (some 59), .inl (s.2.2.2.1.length : Int), .inl (az_sgn (B s1.1))] [] t2 (az_P t G) := by
          intro t2 hF2 hR2
          have e10 : t2 59 10 = s1.1 := hR2.1
          have e16 := hR2.2.2.2.1
          dsimp only at e16
          have hR3 := az_R_step (az_R_push hR2 (1048576 * az_sgn (B s1.1)))
          refine hy_aload (i := 23) rfl rfl ?_
          refine hy_getr (i := 24) rfl rfl ?_
          refine hy_aload (i := 25) rfl rfl ?_
          refine hy_get (i := 26) (fk := 16) rfl rfl rfl ?_
          refine hy_const (i := 27) rfl (by decide) ?_
          refine hy_iload (i := 28) rfl rfl ?_
          refine hy_imul (i := 29) rfl (by omega) ?_
          refine hy_iast (i := 30) rfl rfl (by omega) rfl ?_
          refine hy_aload (i := 31) rfl rfl ?_
          refine hy_aload (i := 32) rfl rfl ?_
          refine hy_get (i := 33) (fk := 16) rfl rfl rfl ?_
          refine hy_const (i := 34) rfl (by decide) ?_
          refine hy_iadd (i := 35) rfl (by show -2147483648 ≤ t2 59 16 + 1 ∧ t2 59 16 + 1 ≤ 2147483647; omega) ?_
          refine hy_put (i := 36) (fk := 16) rfl rfl rfl rfl ?_
          refine hy_aload (i := 37) rfl rfl ?_
          refine hy_aload (i := 38) rfl rfl ?_
          refine hy_get (i := 39) (fk := 10) rfl rfl rfl ?_
          refine hy_const (i := 40) rfl (by decide) ?_
          refine hy_iadd (i := 41) rfl (by show -2147483648 ≤ t2 59 10 + 1 ∧ t2 59 10 + 1 ≤ 2147483647; omega) ?_
          refine hy_put (i := 42) (fk := 10) rfl rfl rfl rfl ?_
          exact fac _ ((((hF.tr' hF2).up (r := 67) rfl).up (r := 59) (j := 16) rfl).up (r := 59) (j := 10) rfl) hR3
        refine hy_aload (i := 8) rfl rfl ?_
        refine hy_cV0e (i := 9) rfl mj_M_here (by decide) rfl (Nat.le_of_ble_eq_true rfl) rfl rfl rfl (c_M_here (by assumption)) ?_
        rw [hhe]
        refine hy_cS1e (i := 10) rfl (by decide) mj_M_sumSign (by decide) rfl (Nat.le_of_ble_eq_true rfl) (c_M_sumSign) ?_
        refine hy_istore (i := 11) rfl ?_
        refine hy_iload (i := 12) rfl rfl ?_
        refine hy_const (i := 13) rfl (by decide) ?_
        refine hy_ic_eq (i := 14) (tt := 48) rfl (fun zc1 => ?_) (fun zc1 => ?_)
        · exact absurd (by assumption) hs
        · refine hy_aload (i := 15) rfl rfl ?_
          refine hy_iload (i := 16) rfl rfl ?_
          refine hy_const (i := 17) rfl (by decide) ?_
          refine hy_ic_ge (i := 18) (tt := 21) rfl (fun zc2 => ?_) (fun zc2 => ?_)
          · refine hy_const (i := 21) rfl (by decide) ?_
            first | rw [show (1 : Int) = hy_b (decide (az_sgn (B s1.1) < 4)) by rw [decide_eq_true (by omega)]; rfl] | rw [show (0 : Int) = hy_b (decide (az_sgn (B s1.1) < 4)) by rw [decide_eq_false (by omega)]; rfl]
            refine hy_cV1 (i := 22) rfl mj_M_closesSums (by decide) rfl (Nat.le_of_ble_eq_true rfl) rfl rfl rfl ((hcl (decide (az_sgn (B s1.1) < 4)))) (fun r3_ t3_ h3 => ?_)
            obtain ⟨rfl, hF3, hR3⟩ := h3
            dsimp only [hy_st, List.nil_append]
            exact push _ (by assumption) (by assumption)
          · refine hy_const (i := 19) rfl (by decide) ?_
            refine hy_goto (i := 20) (tt := 22) rfl ?_
            first | rw [show (1 : Int) = hy_b (decide (az_sgn (B s1.1) < 4)) by rw [decide_eq_true (by omega)]; rfl] | rw [show (0 : Int) = hy_b (decide (az_sgn (B s1.1) < 4)) by rw [decide_eq_false (by omega)]; rfl]
            refine hy_cV1 (i := 22) rfl mj_M_closesSums (by decide) rfl (Nat.le_of_ble_eq_true rfl) rfl rfl rfl ((hcl (decide (az_sgn (B s1.1) < 4)))) (fun r3_ t3_ h3 => ?_)
            obtain ⟨rfl, hF3, hR3⟩ := h3
            dsimp only [hy_st, List.nil_append]
            exact push _ (by assumption) (by assumption)
      · rw [if_neg hs] at hv
        by_cases hc : B s1.1 = 93 ∧ az_has (s1.2.2.2.1.length - s.2.2.2.1.length) s1.2.2.2.1 = true
        · rw [if_pos hc] at hv
          have hlt : s1.1 < 240 := by
            refine Decidable.byContradiction (fun q => ?_)
            have := hb.2.2 (by omega); omega
          obtain ⟨hstep, hne⟩ := az_bk_s hB hd hh hI1 hc
          unfold az_bk at hstep
          have back : ∀ t2, hy_F mrX t1 t2 → az_R t2 (s1.1, (az_close true s1.2.2.2.1 s1.2.1 s1.2.2.1).2.1, (az_close true s1.2.2.2.1 s1.2.1 s1.2.2.1).2.2, (az_close true s1.2.2.2.1 s1.2.1 s1.2.2.1).1, s1.2.2.2.2) → hy_W sc hm_M_readsSum 4 59 [.inr (some 59), .inl (s.2.2.2.1.length : Int), .inl (az_sgn (B s1.1))] [] t2 (az_P t G) := by
            intro t2 hF2 hR2
            have e10 : t2 59 10 = s1.1 := hR2.1
            have e14 : t2 59 14 = s1.2.2.2.2 := hR2.2.2.2.2.2
            have e16 := hR2.2.2.2.1
            dsimp only at e16
            obtain ⟨-, -, -, -, -, -, ⟨-, -, k3, k4, -, -⟩, -⟩ := id hstep
            dsimp only at k3 k4
            generalize az_close true s1.2.2.2.1 s1.2.1 s1.2.2.1 = c at hR2 hne hstep hv e16 k3 k4
            cases hcc : c.1 with
            | nil => exact absurd hcc hne
            | cons x r =>
              rw [hcc] at hR2 e16 hv hstep k3 k4
              simp only [List.tail_cons] at hv hstep k3 k4
              simp only [List.length_cons] at e16
              have hR3 := az_R_step (az_R_o (az_R_pop hR2) (s1.2.2.2.2 - 1))
              refine hy_aload (i := 59) rfl rfl ?_
              refine hy_aload (i := 60) rfl rfl ?_
              refine hy_get (i := 61) (fk := 16) rfl rfl rfl ?_
              refine hy_const (i := 62) rfl (by decide) ?_
              refine hy_isub (i := 63) rfl (by show -2147483648 ≤ t2 59 16 - 1 ∧ t2 59 16 - 1 ≤ 2147483647; omega) ?_
              refine hy_put (i := 64) (fk := 16) rfl rfl rfl rfl ?_
              refine hy_aload (i := 65) rfl rfl ?_
              refine hy_aload (i := 66) rfl rfl ?_
              refine hy_get (i := 67) (fk := 14) rfl rfl rfl ?_
              rw [show hy_up t2 59 16 (t2 59 16 - 1) 59 14 = s1.2.2.2.2 from e14]
              refine hy_const (i := 68) rfl (by decide) ?_
              refine hy_isub (i := 69) rfl (by omega) ?_
              refine hy_put (i := 70) (fk := 14) rfl rfl rfl rfl ?_
              refine hy_aload (i := 71) rfl rfl ?_
              refine hy_aload (i := 72) rfl rfl ?_
              refine hy_get (i := 73) (fk := 10) rfl rfl rfl ?_
              refine hy_const (i := 74) rfl (by decide) ?_
              refine hy_iadd (i := 75) rfl (by show -2147483648 ≤ t2 59 10 + 1 ∧ t2 59 10 + 1 ≤ 2147483647; omega) ?_
              refine hy_put (i := 76) (fk := 10) rfl rfl rfl rfl ?_
              refine hy_goto (i := 77) (tt := 93) rfl ?_
              refine hy_goto (i := 93) (tt := 8) rfl ?_
              exact ih _ _ _ ((((hF.tr' hF2).up (r := 59) (j := 16) rfl).up (r := 59) (j := 14) rfl).up (r := 59) (j := 10) rfl) hR3 hstep (by dsimp only; omega) hv
          refine hy_aload (i := 8) rfl rfl ?_
          refine hy_cV0e (i := 9) rfl mj_M_here (by decide) rfl (Nat.le_of_ble_eq_true rfl) rfl rfl rfl (c_M_here (by assumption)) ?_
          rw [hhe]
          refine hy_cS1e (i := 10) rfl (by decide) mj_M_sumSign (by decide) rfl (Nat.le_of_ble_eq_true rfl) (c_M_sumSign) ?_
          refine hy_istore (i := 11) rfl ?_
          refine hy_iload (i := 12) rfl rfl ?_
          refine hy_const (i := 13) rfl (by decide) ?_
          refine hy_ic_eq (i := 14) (tt := 48) rfl (fun zc1 => ?_) (fun zc1 => ?_)
          · refine hy_aload (i := 48) rfl rfl ?_
            refine hy_cV0e (i := 49) rfl mj_M_here (by decide) rfl (Nat.le_of_ble_eq_true rfl) rfl rfl rfl (c_M_here (by assumption)) ?_
            rw [hhe]
            refine hy_const (i := 50) rfl (by decide) ?_
            refine hy_ic_ne (i := 51) (tt := 78) rfl (fun zc2 => ?_) (fun zc2 => ?_)
            · exact absurd hc.1 (by assumption)
            · refine hy_aload (i := 52) rfl rfl ?_
              refine hy_iload (i := 53) rfl rfl ?_
              refine hy_cV1e (i := 54) rfl mj_M_hasOpenSum (by decide) rfl (Nat.le_of_ble_eq_true rfl) rfl rfl rfl (hho) ?_
              refine hy_ib_eq (i := 55) (tt := 78) rfl (fun zc3 => ?_) (fun zc3 => ?_)
              · exact bb_abs hc.2 (by assumption)
              · refine hy_aload (i := 56) rfl rfl ?_
                refine hy_const (i := 57) rfl (by decide) ?_
                refine hy_cV1 (i := 58) rfl mj_M_closesSums (by decide) rfl (Nat.le_of_ble_eq_true rfl) rfl rfl rfl ((hcl true)) (fun r5_ t5_ h5 => ?_)
                obtain ⟨rfl, hF5, hR5⟩ := h5
                dsimp only [hy_st, List.nil_append]
                exact back _ (by assumption) (by assumption)
          · exact absurd (by assumption) hs
        · rw [if_neg hc] at hv
          by_cases hn2 : az_has (s1.2.2.2.1.length - s.2.2.2.1.length) s1.2.2.2.1 = true
          · rw [if_pos hn2] at hv
            refine hy_aload (i := 8) rfl rfl ?_
            refine hy_cV0e (i := 9) rfl mj_M_here (by decide) rfl (Nat.le_of_ble_eq_true rfl) rfl rfl rfl (c_M_here (by assumption)) ?_
            rw [hhe]
            refine hy_cS1e (i := 10) rfl (by decide) mj_M_sumSign (by decide) rfl (Nat.le_of_ble_eq_true rfl) (c_M_sumSign) ?_
            refine hy_istore (i := 11) rfl ?_
            refine hy_iload (i := 12) rfl rfl ?_
            refine hy_const (i := 13) rfl (by decide) ?_
            refine hy_ic_eq (i := 14) (tt := 48) rfl (fun zc1 => ?_) (fun zc1 => ?_)
            · refine hy_aload (i := 48) rfl rfl ?_
              refine hy_cV0e (i := 49) rfl mj_M_here (by decide) rfl (Nat.le_of_ble_eq_true rfl) rfl rfl rfl (c_M_here (by assumption)) ?_
              rw [hhe]
              refine hy_const (i := 50) rfl (by decide) ?_
              refine hy_ic_ne (i := 51) (tt := 78) rfl (fun zc2 => ?_) (fun zc2 => ?_)
              · refine hy_aload (i := 78) rfl rfl ?_
                refine hy_iload (i := 79) rfl rfl ?_
                refine hy_cV1e (i := 80) rfl mj_M_hasOpenSum (by decide) rfl (Nat.le_of_ble_eq_true rfl) rfl rfl rfl (hho) ?_
                refine hy_ib_eq (i := 81) (tt := 88) rfl (fun zc3 => ?_) (fun zc3 => ?_)
                · exact bb_abs hn2 (by assumption)
                · refine hy_aload (i := 82) rfl rfl ?_
                  refine hy_const (i := 83) rfl (by decide) ?_
                  refine hy_aload (i := 84) rfl rfl ?_
                  refine hy_get (i := 85) (fk := 10) rfl rfl rfl ?_
                  refine hy_cV2e (i := 86) rfl mj_M_wrongAt (by decide) rfl (Nat.le_of_ble_eq_true rfl) rfl rfl rfl (c_M_wrongAt (by decide) (by omega)) ?_
                  refine hy_zreturn (i := 87) rfl rfl (by first | decide | exact hy_b01 _) ?_
                  rw [← hv]; exact ⟨hF.up rfl, rfl, by show -1000 * 1 - t1 59 10 = _; omega⟩
              · refine hy_aload (i := 52) rfl rfl ?_
                refine hy_iload (i := 53) rfl rfl ?_
                refine hy_cV1e (i := 54) rfl mj_M_hasOpenSum (by decide) rfl (Nat.le_of_ble_eq_true rfl) rfl rfl rfl (hho) ?_
                refine hy_ib_eq (i := 55) (tt := 78) rfl (fun zc3 => ?_) (fun zc3 => ?_)
                · refine hy_aload (i := 78) rfl rfl ?_
                  refine hy_iload (i := 79) rfl rfl ?_
                  refine hy_cV1e (i := 80) rfl mj_M_hasOpenSum (by decide) rfl (Nat.le_of_ble_eq_true rfl) rfl rfl rfl (hho) ?_
                  refine hy_ib_eq (i := 81) (tt := 88) rfl (fun zc4 => ?_) (fun zc4 => ?_)
                  · exact bb_abs hn2 (by assumption)
                  · refine hy_aload (i := 82) rfl rfl ?_
                    refine hy_const (i := 83) rfl (by decide) ?_
                    refine hy_aload (i := 84) rfl rfl ?_
                    refine hy_get (i := 85) (fk := 10) rfl rfl rfl ?_
                    refine hy_cV2e (i := 86) rfl mj_M_wrongAt (by decide) rfl (Nat.le_of_ble_eq_true rfl) rfl rfl rfl (c_M_wrongAt (by decide) (by omega)) ?_
                    refine hy_zreturn (i := 87) rfl rfl (by first | decide | exact hy_b01 _) ?_
                    rw [← hv]; exact ⟨hF.up rfl, rfl, by show -1000 * 1 - t1 59 10 = _; omega⟩
                · exact absurd ⟨by assumption, by assumption⟩ hc
            · exact absurd (by assumption) hs
          · rw [if_neg hn2] at hv
            refine hy_aload (i := 8) rfl rfl ?_
            refine hy_cV0e (i := 9) rfl mj_M_here (by decide) rfl (Nat.le_of_ble_eq_true rfl) rfl rfl rfl (c_M_here (by assumption)) ?_
            rw [hhe]
            refine hy_cS1e (i := 10) rfl (by decide) mj_M_sumSign (by decide) rfl (Nat.le_of_ble_eq_true rfl) (c_M_sumSign) ?_
            refine hy_istore (i := 11) rfl ?_
            refine hy_iload (i := 12) rfl rfl ?_
            refine hy_const (i := 13) rfl (by decide) ?_
            refine hy_ic_eq (i := 14) (tt := 48) rfl (fun zc1 => ?_) (fun zc1 => ?_)
            · refine hy_aload (i := 48) rfl rfl ?_
              refine hy_cV0e (i := 49) rfl mj_M_here (by decide) rfl (Nat.le_of_ble_eq_true rfl) rfl rfl rfl (c_M_here (by assumption)) ?_
              rw [hhe]
              refine hy_const (i := 50) rfl (by decide) ?_
              refine hy_ic_ne (i := 51) (tt := 78) rfl (fun zc2 => ?_) (fun zc2 => ?_)
              · refine hy_aload (i := 78) rfl rfl ?_
                refine hy_iload (i := 79) rfl rfl ?_
                refine hy_cV1e (i := 80) rfl mj_M_hasOpenSum (by decide) rfl (Nat.le_of_ble_eq_true rfl) rfl rfl rfl (hho) ?_
                refine hy_ib_eq (i := 81) (tt := 88) rfl (fun zc3 => ?_) (fun zc3 => ?_)
                · refine hy_aload (i := 88) rfl rfl ?_
                  refine hy_const (i := 89) rfl (by decide) ?_
                  refine hy_cV1 (i := 90) rfl mj_M_closesSums (by decide) rfl (Nat.le_of_ble_eq_true rfl) rfl rfl rfl ((hcl true)) (fun r5_ t5_ h5 => ?_)
                  obtain ⟨rfl, hF5, hR5⟩ := h5
                  dsimp only [hy_st, List.nil_append]
                  refine hy_const (i := 91) rfl (by decide) ?_
                  refine hy_zreturn (i := 92) rfl rfl (by first | decide | exact hy_b01 _) ?_
                  rw [← hv]; exact ⟨hF.tr' (by assumption), rfl, by assumption⟩
                · exact absurd (by assumption) hn2
              · refine hy_aload (i := 52) rfl rfl ?_
                refine hy_iload (i := 53) rfl rfl ?_
                refine hy_cV1e (i := 54) rfl mj_M_hasOpenSum (by decide) rfl (Nat.le_of_ble_eq_true rfl) rfl rfl rfl (hho) ?_
                refine hy_ib_eq (i := 55) (tt := 78) rfl (fun zc3 => ?_) (fun zc3 => ?_)
                · refine hy_aload (i := 78) rfl rfl ?_
                  refine hy_iload (i := 79) rfl rfl ?_
                  refine hy_cV1e (i := 80) rfl mj_M_hasOpenSum (by decide) rfl (Nat.le_of_ble_eq_true rfl) rfl rfl rfl (hho) ?_
                  refine hy_ib_eq (i := 81) (tt := 88) rfl (fun zc4 => ?_) (fun zc4 => ?_)
                  · refine hy_aload (i := 88) rfl rfl ?_
                    refine hy_const (i := 89) rfl (by decide) ?_
                    refine hy_cV1 (i := 90) rfl mj_M_closesSums (by decide) rfl (Nat.le_of_ble_eq_true rfl) rfl rfl rfl ((hcl true)) (fun r6_ t6_ h6 => ?_)
                    obtain ⟨rfl, hF6, hR6⟩ := h6
                    dsimp only [hy_st, List.nil_append]
                    refine hy_const (i := 91) rfl (by decide) ?_
                    refine hy_zreturn (i := 92) rfl rfl (by first | decide | exact hy_b01 _) ?_
                    rw [← hv]; exact ⟨hF.tr' (by assumption), rfl, by assumption⟩
                  · exact absurd (by assumption) hn2
                · exact absurd (by assumption) hn2
            · exact absurd (by assumption) hs
  have hk1 := hok.1
  cases hf : az_fac B 8 s with
  | inl e =>
    rw [hf] at hG hfa
    refine hy_aload (i := 0) rfl rfl ?_
    refine hy_get (i := 1) (fk := 16) rfl rfl rfl ?_
    rw [h16]
    refine hy_istore (i := 2) rfl ?_
    refine hy_aload (i := 3) rfl rfl ?_
    refine hy_cV0 (i := 4) rfl mj_M_readsFactor (by decide) rfl (Nat.le_of_ble_eq_true rfl) rfl rfl rfl (hfa) (fun r1_ t1_ h1 => ?_)
    obtain ⟨hF1, rfl, he1⟩ := h1
    dsimp only [hy_st, List.cons_append, List.nil_append]
    refine hy_ib_ne (i := 5) (tt := 8) rfl (fun zc1 => ?_) (fun zc1 => ?_)
    · cases (show false = true by assumption)
    · refine hy_const (i := 6) rfl (by decide) ?_
      refine hy_zreturn (i := 7) rfl rfl (by first | decide | exact hy_b01 _) ?_
      rw [← hG]; exact ⟨by assumption, rfl, by assumption⟩
  | inr s4 =>
    rw [hf] at hG hfa
    obtain ⟨f1, f2⟩ := az_fac_s hB hd 8 _ _ hI hf
    refine hy_aload (i := 0) rfl rfl ?_
    refine hy_get (i := 1) (fk := 16) rfl rfl rfl ?_
    rw [h16]
    refine hy_istore (i := 2) rfl ?_
    refine hy_aload (i := 3) rfl rfl ?_
    refine hy_cV0 (i := 4) rfl mj_M_readsFactor (by decide) rfl (Nat.le_of_ble_eq_true rfl) rfl rfl rfl (hfa) (fun r1_ t1_ h1 => ?_)
    obtain ⟨hF1, rfl, hR1⟩ := h1
    dsimp only [hy_st, List.cons_append, List.nil_append]
    refine hy_ib_ne (i := 5) (tt := 8) rfl (fun zc1 => ?_) (fun zc1 => ?_)
    · exact loop 250 s4 _ _ (by assumption) (by assumption) f1 (by omega) hG
    · cases (show true = false by assumption)
theorem c_M_readsCompared {s : Zs} {a : Nat} {f0 : Nat → Int} (hC : az_C t B) (hR : az_R t s) (hI : az_cI 0 a f0 s) : hy_Ct sc hm_M_readsCompared 5 [.inr (some 59)] t (az_P t (az_cmp B s)) := by
  refine hy_mk_ct ok_M_readsCompared ck_M_readsCompared (Nat.le_of_ble_eq_true rfl) ?_
  have hB := az_C_by hC
  obtain ⟨h1, h2, h3, h4, h5, h6, h7, h8⟩ := id hI
  have hs1 := c_M_readsSum (sc := sc) (a0 := s.2.1) (f0 := s.2.2.1) hC hR (Int.le_refl 0) (az_hd_E1 h1) h4 h5 h6 h7 (Nat.le_refl _) (fun _ _ => rfl)
  generalize hG : az_cmp B s = G
  unfold az_cmp at hG
  cases e1 : az_rs B s with
  | inl e =>
    rw [e1] at hG hs1
    refine hy_aload (i := 0) rfl rfl ?_
    refine hy_cV0 (i := 1) rfl mj_M_readsSum (by decide) rfl (Nat.le_of_ble_eq_true rfl) rfl rfl rfl (hs1) (fun r1_ t1_ h1 => ?_)
    obtain ⟨hF1, rfl, he1⟩ := h1
    dsimp only [hy_st, List.cons_append, List.nil_append]
    refine hy_ib_ne (i := 2) (tt := 5) rfl (fun zc1 => ?_) (fun zc1 => ?_)
    · cases (show false = true by assumption)
    · refine hy_const (i := 3) rfl (by decide) ?_
      refine hy_zreturn (i := 4) rfl rfl (by first | decide | exact hy_b01 _) ?_
      rw [← hG]; exact ⟨by assumption, rfl, by assumption⟩
  | inr s2 =>
    rw [e1] at hG hs1
    dsimp only at hG
    obtain ⟨r1, r2, r3, r4, r5, ⟨r6, r7⟩, r8⟩ := az_rs_s hB (Int.le_refl 0) (a0 := s.2.1) (f0 := s.2.2.1) (az_hd_E1 h1) h4 h5 h6 h7 (Nat.le_refl _) (fun _ _ => rfl) e1
    obtain ⟨k1, k2, k3, k4, k5, k6⟩ := id r5
    have two : ∀ t2, hy_F mrX t t2 → az_R t2 s2 → ∀ (x : Int), x = az_how (B s2.1) → hy_W sc hm_M_readsCompared 5 25 [.inr (some 59), .inl x] [] t2 (az_P t G) := by
      intro t2 hFy hR2 x hx
      subst hx
      have e10 : t2 59 10 = s2.1 := hR2.1
      have hC2 := az_C_F hFy rfl (fun _ => rfl) hC
      by_cases hw : az_how (B s2.1) = -1
      · rw [if_pos hw] at hG
        refine hy_iload (i := 25) rfl rfl ?_
        refine hy_const (i := 26) rfl (by decide) ?_
        refine hy_ic_ne (i := 27) (tt := 34) rfl (fun zc1 => ?_) (fun zc1 => ?_)
        · exact absurd hw (by assumption)
        · refine hy_aload (i := 28) rfl rfl ?_
          refine hy_const (i := 29) rfl (by decide) ?_
          refine hy_aload (i := 30) rfl rfl ?_
          refine hy_get (i := 31) (fk := 10) rfl rfl rfl ?_
          refine hy_cV2e (i := 32) rfl mj_M_wrongAt (by decide) rfl (Nat.le_of_ble_eq_true rfl) rfl rfl rfl (c_M_wrongAt (by decide) (by omega)) ?_
          refine hy_zreturn (i := 33) rfl rfl (by first | decide | exact hy_b01 _) ?_
          rw [← hG]; exact ⟨hFy.up rfl, rfl, by show -1000 * 1 - t2 59 10 = _; omega⟩
      · rw [if_neg hw] at hG
        have hh := az_how_in hw
        have hp : s2.1 < 240 := by
          refine Decidable.byContradiction (fun q => ?_)
          have := (hB s2.1).2.2 (by omega); omega
        have hR3 := az_R_step hR2
        have hFx : hy_F mrX t (hy_up t2 59 10 (t2 59 10 + 1)) := hFy.up rfl
        have hC3 := az_C_F hFx rfl (fun _ => rfl) hC
        have a1 : az_hd (s2.1 + 1, s2.2.1, s2.2.2.1, s2.2.2.2.1, s2.2.2.2.2).2.2.2.1 := by dsimp only; rw [r1]; exact az_hd_E1 h1
        have a2 : az_lc s2.2.2.1 a s2.2.1 s2.2.2.2.1 := by rw [r1]; exact r3
        have a3 : az_ok 1 (s2.1 + 1, s2.2.1, s2.2.2.1, s2.2.2.2.1, s2.2.2.2.2) := ⟨⟨by dsimp only; omega, by dsimp only; omega⟩, by dsimp only; omega, by dsimp only; omega, k4, k5, k6⟩
        have hs3 := c_M_readsSum (sc := sc) (d0 := 1) (a0 := s2.2.1) (f0 := s2.2.2.1) (a := a) hC3 hR3 (by decide) a1 (by dsimp only; omega) a2 r4 a3 (Nat.le_refl _) (fun _ _ => rfl)
        cases e2 : az_rs B (s2.1 + 1, s2.2.1, s2.2.2.1, s2.2.2.2.1, s2.2.2.2.2) with
        | inl e =>
          rw [e2] at hG hs3
          refine hy_iload (i := 25) rfl rfl ?_
          refine hy_const (i := 26) rfl (by decide) ?_
          refine hy_ic_ne (i := 27) (tt := 34) rfl (fun zc1 => ?_) (fun zc1 => ?_)
          · refine hy_aload (i := 34) rfl rfl ?_
            refine hy_aload (i := 35) rfl rfl ?_
            refine hy_get (i := 36) (fk := 10) rfl rfl rfl ?_
            refine hy_const (i := 37) rfl (by decide) ?_
            refine hy_iadd (i := 38) rfl (by omega) ?_
            refine hy_put (i := 39) (fk := 10) rfl rfl rfl rfl ?_
            refine hy_aload (i := 40) rfl rfl ?_
            refine hy_cV0 (i := 41) rfl mj_M_readsSum (by decide) rfl (Nat.le_of_ble_eq_true rfl) rfl rfl rfl (hs3) (fun r1_ t1_ h1 => ?_)
            obtain ⟨hF1, rfl, he1⟩ := h1
            dsimp only [hy_st, List.cons_append, List.nil_append]
            refine hy_ib_ne (i := 42) (tt := 45) rfl (fun zc2 => ?_) (fun zc2 => ?_)
            · cases (show false = true by assumption)
            · refine hy_const (i := 43) rfl (by decide) ?_
              refine hy_zreturn (i := 44) rfl rfl (by first | decide | exact hy_b01 _) ?_
              rw [← hG]; exact ⟨hFx.tr' (by assumption), rfl, by assumption⟩
          · exact absurd (by assumption) hw
        | inr s3 =>
          rw [e2] at hG hs3
          obtain ⟨g1, g2, g3, g4, g5, g6, g7⟩ := az_rs_s hB (d0 := 1) (by decide) (a0 := s2.2.1) (f0 := s2.2.2.1) (a := a) a1 (by dsimp only; omega) a2 r4 a3 (Nat.le_refl _) (fun _ _ => rfl) e2
          obtain ⟨m1, m2, m3, m4, m5, m6⟩ := g5
          refine hy_iload (i := 25) rfl rfl ?_
          refine hy_const (i := 26) rfl (by decide) ?_
          refine hy_ic_ne (i := 27) (tt := 34) rfl (fun zc1 => ?_) (fun zc1 => ?_)
          · refine hy_aload (i := 34) rfl rfl ?_
            refine hy_aload (i := 35) rfl rfl ?_
            refine hy_get (i := 36) (fk := 10) rfl rfl rfl ?_
            refine hy_const (i := 37) rfl (by decide) ?_
            refine hy_iadd (i := 38) rfl (by omega) ?_
            refine hy_put (i := 39) (fk := 10) rfl rfl rfl rfl ?_
            refine hy_aload (i := 40) rfl rfl ?_
            refine hy_cV0 (i := 41) rfl mj_M_readsSum (by decide) rfl (Nat.le_of_ble_eq_true rfl) rfl rfl rfl (hs3) (fun r1_ t1_ h1 => ?_)
            obtain ⟨hF1, rfl, hR1⟩ := h1
            dsimp only [hy_st, List.cons_append, List.nil_append]
            have e15 := hR1.2.1
            refine hy_ib_ne (i := 42) (tt := 45) rfl (fun zc2 => ?_) (fun zc2 => ?_)
            · refine hy_aload (i := 45) rfl rfl ?_
              refine hy_iload (i := 46) rfl rfl ?_
              refine hy_const (i := 47) rfl (by decide) ?_
              refine hy_cV2v (i := 48) rfl mj_M_notes (by decide) rfl (Nat.le_of_ble_eq_true rfl) rfl rfl rfl (c_M_notes (by omega) (by omega) (by decide)) ?_
              rw [Int.add_zero]
              refine hy_aload (i := 49) rfl rfl ?_
              refine hy_cV0 (i := 50) rfl mj_M_endsPiece (by decide) rfl (Nat.le_of_ble_eq_true rfl) rfl rfl rfl (c_M_endsPiece (az_R_note (by assumption) (1048576 * az_how (B s2.1))) (by dsimp only; omega) (by dsimp only; omega) m5 (by dsimp only; omega)) (fun r3_ t3_ h3 => ?_)
              obtain ⟨rfl, hF3, hR3⟩ := h3
              dsimp only [hy_st, List.nil_append]
              refine hy_const (i := 51) rfl (by decide) ?_
              refine hy_zreturn (i := 52) rfl rfl (by first | decide | exact hy_b01 _) ?_
              rw [← hG]
              exact ⟨((hFx.tr' hF1).tr' ((hy_F.rf.up (r := 66) rfl).up (r := 59) (j := 15) rfl)).tr' (by assumption), rfl, by assumption⟩
            · cases (show true = false by assumption)
          · exact absurd (by assumption) hw
    refine hy_aload (i := 0) rfl rfl ?_
    refine hy_cV0 (i := 1) rfl mj_M_readsSum (by decide) rfl (Nat.le_of_ble_eq_true rfl) rfl rfl rfl (hs1) (fun r1_ t1_ h1 => ?_)
    obtain ⟨hF1, rfl, hR1⟩ := h1
    dsimp only [hy_st, List.cons_append, List.nil_append]
    have hC1 := az_C_F hF1 rfl (fun _ => rfl) hC
    have hmp := az_mpok hC1 (by rw [hR1.1]; exact k1)
    have hhe := az_here hC1
    rw [hR1.1] at hhe
    refine hy_ib_ne (i := 2) (tt := 5) rfl (fun zc1 => ?_) (fun zc1 => ?_)
    · refine hy_aload (i := 5) rfl rfl ?_
      refine hy_cV0e (i := 6) rfl mj_M_here (by decide) rfl (Nat.le_of_ble_eq_true rfl) rfl rfl rfl (c_M_here (by assumption)) ?_
      refine hy_const (i := 7) rfl (by decide) ?_
      refine hy_ic_ne (i := 8) (tt := 11) rfl (fun zc2 => ?_) (fun zc2 => ?_)
      · refine hy_aload (i := 11) rfl rfl ?_
        refine hy_cV0e (i := 12) rfl mj_M_here (by decide) rfl (Nat.le_of_ble_eq_true rfl) rfl rfl rfl (c_M_here (by assumption)) ?_
        refine hy_const (i := 13) rfl (by decide) ?_
        refine hy_ic_ne (i := 14) (tt := 17) rfl (fun zc3 => ?_) (fun zc3 => ?_)
        · refine hy_aload (i := 17) rfl rfl ?_
          refine hy_cV0e (i := 18) rfl mj_M_here (by decide) rfl (Nat.le_of_ble_eq_true rfl) rfl rfl rfl (c_M_here (by assumption)) ?_
          refine hy_const (i := 19) rfl (by decide) ?_
          refine hy_ic_ne (i := 20) (tt := 23) rfl (fun zc4 => ?_) (fun zc4 => ?_)
          · refine hy_const (i := 23) rfl (by decide) ?_
            refine hy_istore (i := 24) rfl ?_
            refine two _ (by assumption) (by assumption) _ ?_
            unfold az_how
            rw [← hhe]
            (repeat (first | (rw [if_pos (by omega)]; done) | rw [if_neg (by omega)]))
          · refine hy_const (i := 21) rfl (by decide) ?_
            refine hy_goto (i := 22) (tt := 24) rfl ?_
            refine hy_istore (i := 24) rfl ?_
            refine two _ (by assumption) (by assumption) _ ?_
            unfold az_how
            rw [← hhe]
            (repeat (first | (rw [if_pos (by omega)]; done) | rw [if_neg (by omega)]))
        · refine hy_const (i := 15) rfl (by decide) ?_
          refine hy_goto (i := 16) (tt := 24) rfl ?_
          refine hy_istore (i := 24) rfl ?_
          refine two _ (by assumption) (by assumption) _ ?_
          unfold az_how
          rw [← hhe]
          (repeat (first | (rw [if_pos (by omega)]; done) | rw [if_neg (by omega)]))
      · refine hy_const (i := 9) rfl (by decide) ?_
        refine hy_goto (i := 10) (tt := 24) rfl ?_
        refine hy_istore (i := 24) rfl ?_
        refine two _ (by assumption) (by assumption) _ ?_
        unfold az_how
        rw [← hhe]
        (repeat (first | (rw [if_pos (by omega)]; done) | rw [if_neg (by omega)]))
    · cases (show true = false by assumption)
theorem c_M_readsCondition {p : Int} {m : Nat} {f : Nat → Int} (hC : az_C t B) (h10 : t 59 10 = p) (h15 : t 59 15 = (m : Int)) (h66 : ∀ j : Nat, j < m → t 66 j = f j) (hp : 0 ≤ p ∧ p ≤ 240) (hm : (m : Int) ≤ p) (hf : az_rows f) : hy_Ct sc hm_M_readsCondition 6 [.inr (some 59)] t (az_P t (az_rc B p m f)) := by
  refine hy_mk_ct ok_M_readsCondition ck_M_readsCondition (Nat.le_of_ble_eq_true rfl) ?_
  have hB := az_C_by hC
  have hmp := az_mpok hC (by omega)
  have hhe := az_here hC
  rw [h10] at hhe
  generalize hG : az_rc B p m f = G
  unfold az_rc at hG
  have loop : ∀ (n : Nat) (b : Bool) (s1 : Zs) (t1 : hy_T), hy_F mrX t t1 → az_R t1 s1 → az_cI (if b = true then 0 else 1) m f s1 → 600 ≤ n + s1.1 → az_cond B n b s1 = G → hy_W sc hm_M_readsCondition 6 (if b = true then 22 else 47) [.inr (some 59)] [] t1 (az_P t G) := by
    intro n
    induction n with
    | zero =>
      intro b s1 t1 hF hR hI hn hv
      obtain ⟨-, -, -, -, -, -, ⟨k1, -⟩, -⟩ := hI
      omega
    | succ n ih =>
      intro b s1 t1 hF hR hI hn hv
      obtain ⟨i1, i2, i3, i4, i5, i6, hok, i8⟩ := id hI
      obtain ⟨k1, k2, k3, k4, k5, k6⟩ := id hok
      obtain ⟨q1, q2, q3, q4, q5, q6⟩ := id hR
      have hC1 := az_C_F hF rfl (fun _ => rfl) hC
      have hmp1 := az_mpok hC1 (by omega)
      have hh1 := az_here hC1
      rw [q1] at hh1
      have hb := hB s1.1
      cases b with
      | true =>
        have hI0 : az_cI 0 m f s1 := hI
        show hy_W sc hm_M_readsCondition 6 22 _ _ _ _
        simp only [az_cond] at hv
        by_cases hc : B s1.1 = 33 ∨ B s1.1 = 40
        · rw [if_pos hc] at hv
          have opn : ∀ wh : Int, wh = (if B s1.1 = 33 then 10 else 13) → hy_W sc hm_M_readsCondition 6 38 [.inr (some 59)] [.inl wh, .inr (some 59)] t1 (az_P t G) := by
            intro wh hwh
            rw [← hwh] at hv
            have hw2 : wh = 10 ∨ wh = 13 := by rw [hwh]; split; exact .inl rfl; exact .inr rfl
            have hop := c_M_opens (sc := sc) (what := wh) (by omega) hR hok
            cases ho : az_open wh s1 with
            | inl e =>
              rw [ho] at hv hop
              refine hy_cV1 (i := 38) rfl mj_M_opens (by decide) rfl (Nat.le_of_ble_eq_true rfl) rfl rfl rfl (hop) (fun r1_ t1_ h1 => ?_)
              obtain ⟨hF1, rfl, he1⟩ := h1
              dsimp only [hy_st, List.cons_append, List.nil_append]
              refine hy_ib_ne (i := 39) (tt := 22) rfl (fun zc1 => ?_) (fun zc1 => ?_)
              · cases (show false = true by assumption)
              · refine hy_const (i := 40) rfl (by decide) ?_
                refine hy_zreturn (i := 41) rfl rfl (by first | decide | exact hy_b01 _) ?_
                rw [← hv]; exact ⟨hF.tr' (by assumption), rfl, by assumption⟩
            | inr s2 =>
              rw [ho] at hv hop
              have hI2 := az_op_s hB hw2 hI0 hc ho
              have hp2 : s1.1 < 240 := by
                refine Decidable.byContradiction (fun q => ?_)
                have := hb.2.2 (by omega); omega
              have e2 := (az_open_s (by omega) hok hp2 ho).2
              have e2p : s2.1 = s1.1 + 1 := by rw [e2]
              refine hy_cV1 (i := 38) rfl mj_M_opens (by decide) rfl (Nat.le_of_ble_eq_true rfl) rfl rfl rfl (hop) (fun r1_ t1_ h1 => ?_)
              obtain ⟨hF1, rfl, hR1⟩ := h1
              dsimp only [hy_st, List.cons_append, List.nil_append]
              refine hy_ib_ne (i := 39) (tt := 22) rfl (fun zc1 => ?_) (fun zc1 => ?_)
              · exact ih true s2 _ (hF.tr' (by assumption)) (by assumption) hI2 (by omega) hv
              · cases (show true = false by assumption)
          refine hy_aload (i := 22) rfl rfl ?_
          refine hy_cV0e (i := 23) rfl mj_M_here (by decide) rfl (Nat.le_of_ble_eq_true rfl) rfl rfl rfl (c_M_here (by assumption)) ?_
          refine hy_const (i := 24) rfl (by decide) ?_
          refine hy_ic_eq (i := 25) (tt := 30) rfl (fun zc1 => ?_) (fun zc1 => ?_)
          · refine hy_aload (i := 30) rfl rfl ?_
            refine hy_aload (i := 31) rfl rfl ?_
            refine hy_cV0e (i := 32) rfl mj_M_here (by decide) rfl (Nat.le_of_ble_eq_true rfl) rfl rfl rfl (c_M_here (by assumption)) ?_
            refine hy_const (i := 33) rfl (by decide) ?_
            refine hy_ic_ne (i := 34) (tt := 37) rfl (fun zc2 => ?_) (fun zc2 => ?_)
            · refine hy_const (i := 37) rfl (by decide) ?_
              exact opn _ (by first | (rw [if_pos (by omega)]; done) | (rw [if_neg (by omega)]; done))
            · refine hy_const (i := 35) rfl (by decide) ?_
              refine hy_goto (i := 36) (tt := 38) rfl ?_
              exact opn _ (by first | (rw [if_pos (by omega)]; done) | (rw [if_neg (by omega)]; done))
          · refine hy_aload (i := 26) rfl rfl ?_
            refine hy_cV0e (i := 27) rfl mj_M_here (by decide) rfl (Nat.le_of_ble_eq_true rfl) rfl rfl rfl (c_M_here (by assumption)) ?_
            refine hy_const (i := 28) rfl (by decide) ?_
            refine hy_ic_ne (i := 29) (tt := 42) rfl (fun zc2 => ?_) (fun zc2 => ?_)
            · omega
            · refine hy_aload (i := 30) rfl rfl ?_
              refine hy_aload (i := 31) rfl rfl ?_
              refine hy_cV0e (i := 32) rfl mj_M_here (by decide) rfl (Nat.le_of_ble_eq_true rfl) rfl rfl rfl (c_M_here (by assumption)) ?_
              refine hy_const (i := 33) rfl (by decide) ?_
              refine hy_ic_ne (i := 34) (tt := 37) rfl (fun zc3 => ?_) (fun zc3 => ?_)
              · refine hy_const (i := 37) rfl (by decide) ?_
                exact opn _ (by first | (rw [if_pos (by omega)]; done) | (rw [if_neg (by omega)]; done))
              · refine hy_const (i := 35) rfl (by decide) ?_
                refine hy_goto (i := 36) (tt := 38) rfl ?_
                exact opn _ (by first | (rw [if_pos (by omega)]; done) | (rw [if_neg (by omega)]; done))
        · rw [if_neg hc] at hv
          have hcm := c_M_readsCompared (sc := sc) hC1 hR hI0
          cases hx : az_cmp B s1 with
          | inl e =>
            rw [hx] at hv hcm
            refine hy_aload (i := 22) rfl rfl ?_
            refine hy_cV0e (i := 23) rfl mj_M_here (by decide) rfl (Nat.le_of_ble_eq_true rfl) rfl rfl rfl (c_M_here (by assumption)) ?_
            refine hy_const (i := 24) rfl (by decide) ?_
            refine hy_ic_eq (i := 25) (tt := 30) rfl (fun zc1 => ?_) (fun zc1 => ?_)
            · omega
            · refine hy_aload (i := 26) rfl rfl ?_
              refine hy_cV0e (i := 27) rfl mj_M_here (by decide) rfl (Nat.le_of_ble_eq_true rfl) rfl rfl rfl (c_M_here (by assumption)) ?_
              refine hy_const (i := 28) rfl (by decide) ?_
              refine hy_ic_ne (i := 29) (tt := 42) rfl (fun zc2 => ?_) (fun zc2 => ?_)
              · refine hy_aload (i := 42) rfl rfl ?_
                refine hy_cV0 (i := 43) rfl mj_M_readsCompared (by decide) rfl (Nat.le_of_ble_eq_true rfl) rfl rfl rfl (hcm) (fun r3_ t3_ h3 => ?_)
                obtain ⟨hF3, rfl, he3⟩ := h3
                dsimp only [hy_st, List.cons_append, List.nil_append]
                refine hy_ib_ne (i := 44) (tt := 47) rfl (fun zc3 => ?_) (fun zc3 => ?_)
                · cases (show false = true by assumption)
                · refine hy_const (i := 45) rfl (by decide) ?_
                  refine hy_zreturn (i := 46) rfl rfl (by first | decide | exact hy_b01 _) ?_
                  rw [← hv]; exact ⟨hF.tr' (by assumption), rfl, by assumption⟩
              · omega
          | inr s2 =>
            rw [hx] at hv hcm
            obtain ⟨c1, c2⟩ := az_cmp_s hB hI0 hx
            refine hy_aload (i := 22) rfl rfl ?_
            refine hy_cV0e (i := 23) rfl mj_M_here (by decide) rfl (Nat.le_of_ble_eq_true rfl) rfl rfl rfl (c_M_here (by assumption)) ?_
            refine hy_const (i := 24) rfl (by decide) ?_
            refine hy_ic_eq (i := 25) (tt := 30) rfl (fun zc1 => ?_) (fun zc1 => ?_)
            · omega
            · refine hy_aload (i := 26) rfl rfl ?_
              refine hy_cV0e (i := 27) rfl mj_M_here (by decide) rfl (Nat.le_of_ble_eq_true rfl) rfl rfl rfl (c_M_here (by assumption)) ?_
              refine hy_const (i := 28) rfl (by decide) ?_
              refine hy_ic_ne (i := 29) (tt := 42) rfl (fun zc2 => ?_) (fun zc2 => ?_)
              · refine hy_aload (i := 42) rfl rfl ?_
                refine hy_cV0 (i := 43) rfl mj_M_readsCompared (by decide) rfl (Nat.le_of_ble_eq_true rfl) rfl rfl rfl (hcm) (fun r3_ t3_ h3 => ?_)
                obtain ⟨hF3, rfl, hR3⟩ := h3
                dsimp only [hy_st, List.cons_append, List.nil_append]
                refine hy_ib_ne (i := 44) (tt := 47) rfl (fun zc3 => ?_) (fun zc3 => ?_)
                · exact ih false s2 _ (hF.tr' (by assumption)) (by assumption) c1 (by omega) hv
                · cases (show true = false by assumption)
              · omega
      | false =>
        have hI1 : az_cI 1 m f s1 := hI
        show hy_W sc hm_M_readsCondition 6 47 _ _ _ _
        have hla := fun all => c_M_lands (sc := sc) (all := all) hR (by omega) (by omega) k5 k6 (fun x hx ho => (i2 x hx ho).2.1)
        simp only [az_cond] at hv
        by_cases hc : B s1.1 = 41
        · rw [if_pos hc] at hv
          obtain ⟨hne, hnx⟩ := az_sh_s hB hI1 hc
          have hlt : s1.1 < 240 := by
            refine Decidable.byContradiction (fun q => ?_)
            have := hb.2.2 (by omega); omega
          obtain ⟨l1, l2, l3, l4, l5, l6, l7, l8, l9, l10, l11, l12, l13⟩ := az_land_s true (show s1.2.1 < 260 by omega) s1.2.2.2.1 s1.2.2.1 i1 i2 i4 i5 k6 i3 k5
          have hcc : ∃ x r, (az_land true s1.2.2.2.1 s1.2.1 s1.2.2.1).1 = x :: r := by
            cases hq : (az_land true s1.2.2.2.1 s1.2.1 s1.2.2.1).1 with
            | nil => exact absurd hq hne
            | cons x r => exact ⟨x, r, rfl⟩
          obtain ⟨x, r, hxr⟩ := hcc
          have eS : az_shut s1 = (s1.1 + 1, s1.2.1, (az_land true s1.2.2.2.1 s1.2.1 s1.2.2.1).2, r, s1.2.2.2.2 - 1) := by unfold az_shut; rw [hxr]; rfl
          rw [hxr] at l5 l9 l10
          simp only [az_cnt, List.length_cons] at l5 l9
          have shut : ∀ t2, hy_F mrX t t2 → az_R t2 (s1.1, s1.2.1, (az_land true s1.2.2.2.1 s1.2.1 s1.2.2.1).2, x :: r, s1.2.2.2.2) → hy_W sc hm_M_readsCondition 6 54 [.inr (some 59)] [] t2 (az_P t G) := by
            intro t2 hFy hR2
            have e10 : t2 59 10 = s1.1 := hR2.1
            have e14 : t2 59 14 = s1.2.2.2.2 := hR2.2.2.2.2.2
            have e16 := hR2.2.2.2.1
            simp only [List.length_cons] at e16
            have hR3 := az_R_step (az_R_o (az_R_pop hR2) (s1.2.2.2.2 - 1))
            have hFx : hy_F mrX t (hy_up (hy_up (hy_up t2 59 16 (t2 59 16 - 1)) 59 14 (s1.2.2.2.2 - 1)) 59 10 (t2 59 10 + 1)) := ((hFy.up rfl).up rfl).up rfl
            rw [← eS] at hR3
            by_cases hr : (az_shut s1).2.2.2.1 = []
            · rw [if_pos hr] at hv
              have hr0 : r = [] := by rw [eS] at hr; exact hr
              refine hy_aload (i := 54) rfl rfl ?_
              refine hy_aload (i := 55) rfl rfl ?_
              refine hy_get (i := 56) (fk := 16) rfl rfl rfl ?_
              refine hy_const (i := 57) rfl (by decide) ?_
              refine hy_isub (i := 58) rfl (by show -2147483648 ≤ t2 59 16 - 1 ∧ t2 59 16 - 1 ≤ 2147483647; omega) ?_
              refine hy_put (i := 59) (fk := 16) rfl rfl rfl rfl ?_
              refine hy_aload (i := 60) rfl rfl ?_
              refine hy_aload (i := 61) rfl rfl ?_
              refine hy_get (i := 62) (fk := 14) rfl rfl rfl ?_
              rw [show hy_up t2 59 16 (t2 59 16 - 1) 59 14 = s1.2.2.2.2 from e14]
              refine hy_const (i := 63) rfl (by decide) ?_
              refine hy_isub (i := 64) rfl (by omega) ?_
              refine hy_put (i := 65) (fk := 14) rfl rfl rfl rfl ?_
              refine hy_aload (i := 66) rfl rfl ?_
              refine hy_aload (i := 67) rfl rfl ?_
              refine hy_get (i := 68) (fk := 10) rfl rfl rfl ?_
              refine hy_const (i := 69) rfl (by decide) ?_
              refine hy_iadd (i := 70) rfl (by show -2147483648 ≤ t2 59 10 + 1 ∧ t2 59 10 + 1 ≤ 2147483647; omega) ?_
              refine hy_put (i := 71) (fk := 10) rfl rfl rfl rfl ?_
              refine hy_aload (i := 72) rfl rfl ?_
              refine hy_get (i := 73) (fk := 16) rfl rfl rfl ?_
              rw [show ∀ (a b c : Int), hy_up (hy_up (hy_up t2 59 16 a) 59 14 b) 59 10 c 59 16 = a from fun _ _ _ => rfl]
              refine hy_if_ne (i := 74) (tt := 77) rfl (fun zc1 => ?_) (fun zc1 => ?_)
              · rw [hr0] at e16; simp only [List.length_nil] at e16; omega
              · refine hy_const (i := 75) rfl (by decide) ?_
                refine hy_zreturn (i := 76) rfl rfl (by first | decide | exact hy_b01 _) ?_
                rw [← hv]; exact ⟨hFx, rfl, hR3⟩
            · rw [if_neg hr] at hv
              have hr0 : r ≠ [] := by rw [eS] at hr; exact hr
              have hrl : 1 ≤ r.length := by
                cases r with
                | nil => exact absurd rfl hr0
                | cons y r => simp
              have hcnt : az_cnt r ≤ az_cnt s1.2.2.2.1 := by omega
              have hen : ∀ y, y ∈ (az_shut s1).2.2.2.1 → az_ent y := fun y hy => by
                rw [eS] at hy
                exact k5 y (l10 y (List.mem_cons_of_mem _ hy))
              have en := c_M_endsPiece (sc := sc) hR3 (by rw [eS]; dsimp only; omega) (by rw [eS]; dsimp only; omega) hen (by rw [eS]; dsimp only; omega)
              have nx := hnx hr
              have e1p : (az_shut s1).1 = s1.1 + 1 := by rw [eS]
              refine hy_aload (i := 54) rfl rfl ?_
              refine hy_aload (i := 55) rfl rfl ?_
              refine hy_get (i := 56) (fk := 16) rfl rfl rfl ?_
              refine hy_const (i := 57) rfl (by decide) ?_
              refine hy_isub (i := 58) rfl (by show -2147483648 ≤ t2 59 16 - 1 ∧ t2 59 16 - 1 ≤ 2147483647; omega) ?_
              refine hy_put (i := 59) (fk := 16) rfl rfl rfl rfl ?_
              refine hy_aload (i := 60) rfl rfl ?_
              refine hy_aload (i := 61) rfl rfl ?_
              refine hy_get (i := 62) (fk := 14) rfl rfl rfl ?_
              rw [show hy_up t2 59 16 (t2 59 16 - 1) 59 14 = s1.2.2.2.2 from e14]
              refine hy_const (i := 63) rfl (by decide) ?_
              refine hy_isub (i := 64) rfl (by omega) ?_
              refine hy_put (i := 65) (fk := 14) rfl rfl rfl rfl ?_
              refine hy_aload (i := 66) rfl rfl ?_
              refine hy_aload (i := 67) rfl rfl ?_
              refine hy_get (i := 68) (fk := 10) rfl rfl rfl ?_
              refine hy_const (i := 69) rfl (by decide) ?_
              refine hy_iadd (i := 70) rfl (by show -2147483648 ≤ t2 59 10 + 1 ∧ t2 59 10 + 1 ≤ 2147483647; omega) ?_
              refine hy_put (i := 71) (fk := 10) rfl rfl rfl rfl ?_
              refine hy_aload (i := 72) rfl rfl ?_
              refine hy_get (i := 73) (fk := 16) rfl rfl rfl ?_
              rw [show ∀ (a b c : Int), hy_up (hy_up (hy_up t2 59 16 a) 59 14 b) 59 10 c 59 16 = a from fun _ _ _ => rfl]
              refine hy_if_ne (i := 74) (tt := 77) rfl (fun zc1 => ?_) (fun zc1 => ?_)
              · refine hy_aload (i := 77) rfl rfl ?_
                refine hy_cV0 (i := 78) rfl mj_M_endsPiece (by decide) rfl (Nat.le_of_ble_eq_true rfl) rfl rfl rfl (en) (fun r1_ t1_ h1 => ?_)
                obtain ⟨rfl, hF1, hR1⟩ := h1
                dsimp only [hy_st, List.nil_append]
                refine hy_goto (i := 79) (tt := 47) rfl ?_
                exact ih false (az_shut2 (az_shut s1)) _ (hFx.tr' (by assumption)) (by assumption) nx (by show 600 ≤ (n : Int) + (az_shut s1).1; omega) hv
              · omega
          have hl1 := hla true
          rw [hxr] at hl1
          refine hy_aload (i := 47) rfl rfl ?_
          refine hy_cV0e (i := 48) rfl mj_M_here (by decide) rfl (Nat.le_of_ble_eq_true rfl) rfl rfl rfl (c_M_here (by assumption)) ?_
          refine hy_const (i := 49) rfl (by decide) ?_
          refine hy_ic_ne (i := 50) (tt := 80) rfl (fun zc1 => ?_) (fun zc1 => ?_)
          · omega
          · refine hy_aload (i := 51) rfl rfl ?_
            refine hy_const (i := 52) rfl (by decide) ?_
            refine hy_cV1 (i := 53) rfl mj_M_lands (by decide) rfl (Nat.le_of_ble_eq_true rfl) rfl rfl rfl (hl1) (fun r2_ t2_ h2 => ?_)
            obtain ⟨rfl, hF2, hR2⟩ := h2
            dsimp only [hy_st, List.nil_append]
            exact shut _ (hF.tr' (by assumption)) (by assumption)
        · rw [if_neg hc] at hv
          by_cases hc2 : B s1.1 = 38 ∨ B s1.1 = 124
          · rw [if_pos hc2] at hv
            have hlt : s1.1 < 240 := by
              refine Decidable.byContradiction (fun q => ?_)
              have := hb.2.2 (by omega); omega
            have nx := az_jm_s hB hI1 hc2
            obtain ⟨l1, l2, l3, l4, l5, l6, l7, l8, l9, l10, l11, l12, l13⟩ := az_land_s (decide (B s1.1 = 124)) (show s1.2.1 < 260 by omega) s1.2.2.2.1 s1.2.2.1 i1 i2 i4 i5 k6 i3 k5
            have jmp : ∀ t2, hy_F mrX t t2 → az_R t2 (s1.1, s1.2.1, (az_land (decide (B s1.1 = 124)) s1.2.2.2.1 s1.2.1 s1.2.2.1).2, (az_land (decide (B s1.1 = 124)) s1.2.2.2.1 s1.2.1 s1.2.2.1).1, s1.2.2.2.2) → hy_W sc hm_M_readsCondition 6 103 [.inr (some 59)] [] t2 (az_P t G) := by
              intro t2 hFy hR2
              have e10 : t2 59 10 = s1.1 := hR2.1
              have hC2 := az_C_F hFy rfl (fun _ => rfl) hC
              have hmp2 := az_mpok hC2 (by omega)
              have hh2 := az_here hC2
              rw [e10] at hh2
              have hjo := az_jop_in (B s1.1)
              have hj := c_M_jumps (sc := sc) (op := az_jop (B s1.1)) hR2 (by dsimp only; omega) (by dsimp only; omega) (by dsimp only; omega) (by omega)
              refine hy_aload (i := 103) rfl rfl ?_
              refine hy_aload (i := 104) rfl rfl ?_
              refine hy_cV0e (i := 105) rfl mj_M_here (by decide) rfl (Nat.le_of_ble_eq_true rfl) rfl rfl rfl (c_M_here (by assumption)) ?_
              refine hy_const (i := 106) rfl (by decide) ?_
              refine hy_ic_ne (i := 107) (tt := 110) rfl (fun zc1 => ?_) (fun zc1 => ?_)
              · refine hy_const (i := 110) rfl (by decide) ?_
                first | rw [show (11 : Int) = az_jop (B s1.1) by unfold az_jop; rw [if_pos (by omega)]] | rw [show (12 : Int) = az_jop (B s1.1) by unfold az_jop; rw [if_neg (by omega)]]
                refine hy_cV1 (i := 111) rfl mj_M_jumps (by decide) rfl (Nat.le_of_ble_eq_true rfl) rfl rfl rfl (hj) (fun r2_ t2_ h2 => ?_)
                obtain ⟨rfl, hF2, hR2⟩ := h2
                dsimp only [hy_st, List.nil_append]
                refine hy_goto (i := 112) (tt := 22) rfl ?_
                exact ih true (az_jump (B s1.1) s1) _ (hFy.tr' (by assumption)) (by assumption) nx (by show 600 ≤ (n : Int) + (s1.1 + 1); omega) hv
              · refine hy_const (i := 108) rfl (by decide) ?_
                refine hy_goto (i := 109) (tt := 111) rfl ?_
                first | rw [show (11 : Int) = az_jop (B s1.1) by unfold az_jop; rw [if_pos (by omega)]] | rw [show (12 : Int) = az_jop (B s1.1) by unfold az_jop; rw [if_neg (by omega)]]
                refine hy_cV1 (i := 111) rfl mj_M_jumps (by decide) rfl (Nat.le_of_ble_eq_true rfl) rfl rfl rfl (hj) (fun r2_ t2_ h2 => ?_)
                obtain ⟨rfl, hF2, hR2⟩ := h2
                dsimp only [hy_st, List.nil_append]
                refine hy_goto (i := 112) (tt := 22) rfl ?_
                exact ih true (az_jump (B s1.1) s1) _ (hFy.tr' (by assumption)) (by assumption) nx (by show 600 ≤ (n : Int) + (s1.1 + 1); omega) hv
            refine hy_aload (i := 47) rfl rfl ?_
            refine hy_cV0e (i := 48) rfl mj_M_here (by decide) rfl (Nat.le_of_ble_eq_true rfl) rfl rfl rfl (c_M_here (by assumption)) ?_
            refine hy_const (i := 49) rfl (by decide) ?_
            refine hy_ic_ne (i := 50) (tt := 80) rfl (fun zc1 => ?_) (fun zc1 => ?_)
            · refine hy_aload (i := 80) rfl rfl ?_
              refine hy_cV0e (i := 81) rfl mj_M_here (by decide) rfl (Nat.le_of_ble_eq_true rfl) rfl rfl rfl (c_M_here (by assumption)) ?_
              refine hy_const (i := 82) rfl (by decide) ?_
              refine hy_ic_eq (i := 83) (tt := 94) rfl (fun zc2 => ?_) (fun zc2 => ?_)
              · refine hy_aload (i := 94) rfl rfl ?_
                refine hy_aload (i := 95) rfl rfl ?_
                refine hy_cV0e (i := 96) rfl mj_M_here (by decide) rfl (Nat.le_of_ble_eq_true rfl) rfl rfl rfl (c_M_here (by assumption)) ?_
                refine hy_const (i := 97) rfl (by decide) ?_
                refine hy_ic_ne (i := 98) (tt := 101) rfl (fun zc3 => ?_) (fun zc3 => ?_)
                · refine hy_const (i := 101) rfl (by decide) ?_
                  first | rw [show (1 : Int) = hy_b (decide (B s1.1 = 124)) by rw [decide_eq_true (by omega)]; rfl] | rw [show (0 : Int) = hy_b (decide (B s1.1 = 124)) by rw [decide_eq_false (by omega)]; rfl]
                  refine hy_cV1 (i := 102) rfl mj_M_lands (by decide) rfl (Nat.le_of_ble_eq_true rfl) rfl rfl rfl ((hla (decide (B s1.1 = 124)))) (fun r4_ t4_ h4 => ?_)
                  obtain ⟨rfl, hF4, hR4⟩ := h4
                  dsimp only [hy_st, List.nil_append]
                  exact jmp _ (hF.tr' (by assumption)) (by assumption)
                · refine hy_const (i := 99) rfl (by decide) ?_
                  refine hy_goto (i := 100) (tt := 102) rfl ?_
                  first | rw [show (1 : Int) = hy_b (decide (B s1.1 = 124)) by rw [decide_eq_true (by omega)]; rfl] | rw [show (0 : Int) = hy_b (decide (B s1.1 = 124)) by rw [decide_eq_false (by omega)]; rfl]
                  refine hy_cV1 (i := 102) rfl mj_M_lands (by decide) rfl (Nat.le_of_ble_eq_true rfl) rfl rfl rfl ((hla (decide (B s1.1 = 124)))) (fun r4_ t4_ h4 => ?_)
                  obtain ⟨rfl, hF4, hR4⟩ := h4
                  dsimp only [hy_st, List.nil_append]
                  exact jmp _ (hF.tr' (by assumption)) (by assumption)
              · refine hy_aload (i := 84) rfl rfl ?_
                refine hy_cV0e (i := 85) rfl mj_M_here (by decide) rfl (Nat.le_of_ble_eq_true rfl) rfl rfl rfl (c_M_here (by assumption)) ?_
                refine hy_const (i := 86) rfl (by decide) ?_
                refine hy_ic_eq (i := 87) (tt := 94) rfl (fun zc3 => ?_) (fun zc3 => ?_)
                · refine hy_aload (i := 94) rfl rfl ?_
                  refine hy_aload (i := 95) rfl rfl ?_
                  refine hy_cV0e (i := 96) rfl mj_M_here (by decide) rfl (Nat.le_of_ble_eq_true rfl) rfl rfl rfl (c_M_here (by assumption)) ?_
                  refine hy_const (i := 97) rfl (by decide) ?_
                  refine hy_ic_ne (i := 98) (tt := 101) rfl (fun zc4 => ?_) (fun zc4 => ?_)
                  · refine hy_const (i := 101) rfl (by decide) ?_
                    first | rw [show (1 : Int) = hy_b (decide (B s1.1 = 124)) by rw [decide_eq_true (by omega)]; rfl] | rw [show (0 : Int) = hy_b (decide (B s1.1 = 124)) by rw [decide_eq_false (by omega)]; rfl]
                    refine hy_cV1 (i := 102) rfl mj_M_lands (by decide) rfl (Nat.le_of_ble_eq_true rfl) rfl rfl rfl ((hla (decide (B s1.1 = 124)))) (fun r5_ t5_ h5 => ?_)
                    obtain ⟨rfl, hF5, hR5⟩ := h5
                    dsimp only [hy_st, List.nil_append]
                    exact jmp _ (hF.tr' (by assumption)) (by assumption)
                  · refine hy_const (i := 99) rfl (by decide) ?_
                    refine hy_goto (i := 100) (tt := 102) rfl ?_
                    first | rw [show (1 : Int) = hy_b (decide (B s1.1 = 124)) by rw [decide_eq_true (by omega)]; rfl] | rw [show (0 : Int) = hy_b (decide (B s1.1 = 124)) by rw [decide_eq_false (by omega)]; rfl]
                    refine hy_cV1 (i := 102) rfl mj_M_lands (by decide) rfl (Nat.le_of_ble_eq_true rfl) rfl rfl rfl ((hla (decide (B s1.1 = 124)))) (fun r5_ t5_ h5 => ?_)
                    obtain ⟨rfl, hF5, hR5⟩ := h5
                    dsimp only [hy_st, List.nil_append]
                    exact jmp _ (hF.tr' (by assumption)) (by assumption)
                · omega
            · omega
          · rw [if_neg hc2] at hv
            refine hy_aload (i := 47) rfl rfl ?_
            refine hy_cV0e (i := 48) rfl mj_M_here (by decide) rfl (Nat.le_of_ble_eq_true rfl) rfl rfl rfl (c_M_here (by assumption)) ?_
            refine hy_const (i := 49) rfl (by decide) ?_
            refine hy_ic_ne (i := 50) (tt := 80) rfl (fun zc1 => ?_) (fun zc1 => ?_)
            · refine hy_aload (i := 80) rfl rfl ?_
              refine hy_cV0e (i := 81) rfl mj_M_here (by decide) rfl (Nat.le_of_ble_eq_true rfl) rfl rfl rfl (c_M_here (by assumption)) ?_
              refine hy_const (i := 82) rfl (by decide) ?_
              refine hy_ic_eq (i := 83) (tt := 94) rfl (fun zc2 => ?_) (fun zc2 => ?_)
              · omega
              · refine hy_aload (i := 84) rfl rfl ?_
                refine hy_cV0e (i := 85) rfl mj_M_here (by decide) rfl (Nat.le_of_ble_eq_true rfl) rfl rfl rfl (c_M_here (by assumption)) ?_
                refine hy_const (i := 86) rfl (by decide) ?_
                refine hy_ic_eq (i := 87) (tt := 94) rfl (fun zc3 => ?_) (fun zc3 => ?_)
                · omega
                · refine hy_aload (i := 88) rfl rfl ?_
                  refine hy_const (i := 89) rfl (by decide) ?_
                  refine hy_aload (i := 90) rfl rfl ?_
                  refine hy_get (i := 91) (fk := 10) rfl rfl rfl ?_
                  refine hy_cV2e (i := 92) rfl mj_M_wrongAt (by decide) rfl (Nat.le_of_ble_eq_true rfl) rfl rfl rfl (c_M_wrongAt (by decide) (by omega)) ?_
                  refine hy_zreturn (i := 93) rfl rfl (by first | decide | exact hy_b01 _) ?_
                  rw [← hv]; exact ⟨hF.up rfl, rfl, by show -1000 * 1 - t1 59 10 = _; omega⟩
            · omega
  by_cases h40 : B p = 40
  · rw [if_pos h40] at hG
    have hlt : p < 240 := by
      refine Decidable.byContradiction (fun q => ?_)
      have := (hB p).2.2 (by omega); omega
    have hR0 : az_R (hy_up (hy_up t 59 14 0) 59 16 0) (p, m, f, [], 0) := ⟨h10, h15, h66, rfl, trivial, rfl⟩
    have hok0 : az_ok 0 (p, m, f, [], 0) := ⟨hp, by simp [az_cnt]; exact hm, by simp; exact hp.1, ⟨rfl, by dsimp only; omega⟩, (fun x hx => by cases hx), hf⟩
    have hop := c_M_opens (sc := sc) (what := 13) (by decide) hR0 hok0
    have eo : az_open 13 (p, m, f, [], 0) = .inr (p + 1, m, f, [13631488], 1) := rfl
    rw [eo] at hop
    have hI : az_cI 0 m f (p + 1, m, f, [13631488], 1) := by
      refine ⟨fun x hx => ?_, fun x hx ho => ?_, ⟨[], rfl⟩, az_dep_a f m m (Nat.le_refl _), fun k k1 k2 => ?_, Nat.le_refl _, ⟨⟨by dsimp only; omega, by dsimp only; omega⟩, ?_, ?_, ⟨rfl, by dsimp only; omega⟩, fun x hx => ?_, hf⟩, fun _ _ => rfl⟩
      · simp at hx; subst hx; decide
      · simp at hx; subst hx; exact absurd ho (by decide)
      · dsimp only at k2; omega
      · simp [az_cnt]; omega
      · simp; omega
      · simp at hx; subst hx; decide
    refine hy_aload (i := 0) rfl rfl ?_
    refine hy_cV0e (i := 1) rfl mj_M_here (by decide) rfl (Nat.le_of_ble_eq_true rfl) rfl rfl rfl (c_M_here (by assumption)) ?_
    refine hy_const (i := 2) rfl (by decide) ?_
    refine hy_ic_eq (i := 3) (tt := 10) rfl (fun zc1 => ?_) (fun zc1 => ?_)
    · refine hy_aload (i := 10) rfl rfl ?_
      refine hy_const (i := 11) rfl (by decide) ?_
      refine hy_put (i := 12) (fk := 14) rfl rfl rfl rfl ?_
      refine hy_aload (i := 13) rfl rfl ?_
      refine hy_const (i := 14) rfl (by decide) ?_
      refine hy_put (i := 15) (fk := 16) rfl rfl rfl rfl ?_
      refine hy_aload (i := 16) rfl rfl ?_
      refine hy_const (i := 17) rfl (by decide) ?_
      refine hy_cV1 (i := 18) rfl mj_M_opens (by decide) rfl (Nat.le_of_ble_eq_true rfl) rfl rfl rfl (hop) (fun r2_ t2_ h2 => ?_)
      obtain ⟨hF2, rfl, hR2⟩ := h2
      dsimp only [hy_st, List.cons_append, List.nil_append]
      refine hy_ib_ne (i := 19) (tt := 22) rfl (fun zc2 => ?_) (fun zc2 => ?_)
      · exact loop 600 true _ _ (((hy_F.rf.up rfl).up rfl).tr' (show hy_F mrX (hy_up (hy_up t 59 14 0) 59 16 0) _ by assumption)) (by assumption) hI (by dsimp only; omega) hG
      · cases (show true = false by assumption)
    · omega
  · rw [if_neg h40] at hG
    refine hy_aload (i := 0) rfl rfl ?_
    refine hy_cV0e (i := 1) rfl mj_M_here (by decide) rfl (Nat.le_of_ble_eq_true rfl) rfl rfl rfl (c_M_here (by assumption)) ?_
    refine hy_const (i := 2) rfl (by decide) ?_
    refine hy_ic_eq (i := 3) (tt := 10) rfl (fun zc1 => ?_) (fun zc1 => ?_)
    · omega
    · refine hy_aload (i := 4) rfl rfl ?_
      refine hy_const (i := 5) rfl (by decide) ?_
      refine hy_aload (i := 6) rfl rfl ?_
      refine hy_get (i := 7) (fk := 10) rfl rfl rfl ?_
      refine hy_cV2e (i := 8) rfl mj_M_wrongAt (by decide) rfl (Nat.le_of_ble_eq_true rfl) rfl rfl rfl (c_M_wrongAt (by decide) (by omega)) ?_
      refine hy_zreturn (i := 9) rfl rfl (by first | decide | exact hy_b01 _) ?_
      rw [← hG]; exact ⟨hy_F.rf.up rfl, rfl, by show -1000 * 1 - t 59 10 = _; omega⟩
end MTT
/-! the model's law, clause by clause -/
theorem az_cl_wf {f : Nat → Int} {a m : Nat} (hl : az_lc f a m []) (hd : az_dep f a m = 1) (ha : a ≤ m) (hm : m ≤ 240) : mc_wf f a m := by
  obtain ⟨D, hD⟩ : ∃ D : Nat → Nat, ∀ k, D k = (az_dep f a k).toNat := ⟨fun k => (az_dep f a k).toNat, fun _ => rfl⟩
  refine ⟨D, ⟨by omega, by omega, by omega⟩, ?_, ?_, fun k k1 k2 => ?_⟩
  · rw [hD, show ((a : Int)).toNat = a from rfl, az_dep_a f a a (Nat.le_refl _)]
    rfl
  · rw [hD, show ((m : Int)).toNat = m from rfl, hd]
    rfl
  · obtain ⟨c0, c1, c2, c3, c4⟩ := hl k (by omega) (by omega)
    have hs := az_dep_s f a k (by omega)
    have hle := az_dep_le f a k
    have d0 := hD k
    have d1 := hD (k + 1)
    unfold az_eff at hs
    refine ⟨⟨c0.1, by omega, by omega⟩, fun q => ?_, fun q => ?_, fun q => ?_, fun q1 q2 q3 => ?_⟩
    · rw [if_pos q] at hs
      exact ⟨by omega, c1⟩
    · rw [if_neg (by omega), if_pos q] at hs
      exact ⟨by have := c2 q; omega, by omega⟩
    · rw [if_neg (by omega), if_neg (by omega)] at hs
      obtain ⟨e1, e2⟩ := c3 q
      rcases e2 with ⟨x, hx, _⟩ | ⟨e2, e3, e4⟩
      · cases hx
      · exact ⟨by omega, by omega, e2, e3, by rw [hD, e4, d0]⟩
    · rw [if_neg q1, if_neg q2] at hs
      have := c4 (by omega) (by omega)
      exact ⟨by omega, by omega⟩
theorem mc_wf_eq {f g : Nat → Int} {a b : Int} (h : ∀ k : Nat, (k : Int) < b → f k = g k) (hw : mc_wf f a b) : mc_wf g a b := by
  obtain ⟨D, h0, h1, h2, h3⟩ := hw
  refine ⟨D, h0, h1, h2, fun k k1 k2 => ?_⟩
  have := h3 k k1 k2
  unfold mc_at at this ⊢
  rw [← h k k2]
  exact this
abbrev az_isc (c : Int) : Prop := c = 115 ∨ c = 107 ∨ c = 118 ∨ c = 98
abbrev az_amt (c : Int) : Prop := c ≠ 115 ∧ c ≠ 107
def az_ce (B : Int → Int) (p : Int) (m : Nat) (f : Nat → Int) : Int ⊕ Zs := if az_amt (B p) then az_rs B (p + 1, m, f, [], 0) else .inr (p + 1, m, f, [], 0)
/-- a clause: place and codes behind it, and where its condition begins -/
def az_cl (B : Int → Int) (k : Int) (p : Int) (m : Nat) (f : Nat → Int) : Int ⊕ (Int × Nat × (Nat → Int) × Nat) :=
  if ¬ az_isc (B p) then .inl (-1000 - p)
  else if k = 16 then .inl (-4000 - p)
  else match az_ce B p m f with
    | .inl e => .inl e
    | .inr s1 => match az_rc B s1.1 s1.2.1 s1.2.2.1 with
      | .inl e => .inl e
      | .inr s2 => .inr (s2.1, s2.2.1, s2.2.2.1, s1.2.1)
theorem az_ok0 {p : Int} {m : Nat} {f : Nat → Int} (hp : 0 ≤ p ∧ p ≤ 240) (hm : (m : Int) ≤ p) (hf : az_rows f) : az_ok 0 (p, m, f, [], 0) := ⟨hp, by simp [az_cnt]; exact hm, by simp; exact hp.1, ⟨rfl, by dsimp only; omega⟩, (fun x hx => by cases hx), hf⟩
theorem az_lc0 (f : Nat → Int) (m : Nat) (w : List Int) : az_lc f m m w := fun k k1 k2 => absurd k2 (by omega)
theorem az_ce_s {B : Int → Int} (hB : az_by B) {p : Int} {m : Nat} {f : Nat → Int} {s1 : Zs} (hp : 0 ≤ p ∧ p ≤ 240) (hc : az_isc (B p)) (hm : (m : Int) ≤ p) (hf : az_rows f) (he : az_ce B p m f = .inr s1) : m ≤ s1.2.1 ∧ ((s1.2.1 : Int) ≤ s1.1 ∧ p < s1.1 ∧ s1.1 ≤ 240) ∧ az_rows s1.2.2.1 ∧ (∀ j, j < m → s1.2.2.1 j = f j) ∧ (az_amt (B p) → mc_wf s1.2.2.1 m s1.2.1) := by
  have hlt : p < 240 := by
    refine Decidable.byContradiction (fun q => ?_)
    have := (hB p).2.2 (by omega); omega
  unfold az_ce at he
  split at he
  · have hok := az_ok0 (p := p + 1) (m := m) (f := f) ⟨by omega, by omega⟩ (by omega) hf
    obtain ⟨r1, r2, r3, r4, r5, ⟨r6, r7⟩, r8⟩ := az_rs_s hB (Int.le_refl 0) (a := m) (a0 := m) (f0 := f) (s := (p + 1, m, f, [], 0)) (fun x hx => by cases hx) (az_dep_a f m m (Nat.le_refl _)) (az_lc0 f m _) (Nat.le_refl _) hok (Nat.le_refl _) (fun _ _ => rfl) he
    obtain ⟨k1, k2, k3, k4, k5, k6⟩ := r5
    dsimp only at r8 r3
    exact ⟨r4, ⟨by omega, by omega, k1.2⟩, k6, r7, fun _ => az_cl_wf r3 (by omega) r4 (by omega)⟩
  · next ha =>
    cases he
    exact ⟨Nat.le_refl _, ⟨by dsimp only; omega, by dsimp only; omega, by dsimp only; omega⟩, hf, fun _ _ => rfl, fun h => absurd h ha⟩
theorem az_rc_s {B : Int → Int} (hB : az_by B) {p : Int} {m : Nat} {f : Nat → Int} {s1 : Zs} (hp : 0 ≤ p ∧ p ≤ 240) (hm : (m : Int) ≤ p) (hf : az_rows f) (he : az_rc B p m f = .inr s1) : m ≤ s1.2.1 ∧ ((s1.2.1 : Int) ≤ s1.1 ∧ p < s1.1 ∧ s1.1 ≤ 240) ∧ az_rows s1.2.2.1 ∧ (∀ j, j < m → s1.2.2.1 j = f j) ∧ mc_wf s1.2.2.1 m s1.2.1 := by
  unfold az_rc at he
  split at he
  · next h40 =>
    have hlt : p < 240 := by
      refine Decidable.byContradiction (fun q => ?_)
      have := (hB p).2.2 (by omega); omega
    have hI : az_cI (if true = true then 0 else 1) m f (p + 1, m, f, [13631488], 1) := by
      refine ⟨fun x hx => ?_, fun x hx ho => ?_, ⟨[], rfl⟩, az_dep_a f m m (Nat.le_refl _), az_lc0 f m _, Nat.le_refl _, ⟨⟨by dsimp only; omega, by dsimp only; omega⟩, ?_, ?_, ⟨rfl, by dsimp only; omega⟩, fun x hx => ?_, hf⟩, fun _ _ => rfl⟩
      · simp at hx; subst hx; decide
      · simp at hx; subst hx; exact absurd ho (by decide)
      · simp [az_cnt]; omega
      · simp; omega
      · simp at hx; subst hx; decide
    obtain ⟨r1, r2, r3, r4, r5, ⟨r6, r7, r8⟩, r9⟩ := az_cond_s hB 600 true _ s1 hI he
    dsimp only at r9
    exact ⟨r4, ⟨r7, by omega, r6.2⟩, r8, r5, az_cl_wf r3 r2 r4 (by omega)⟩
  · cases he
theorem az_cl_s {B : Int → Int} (hB : az_by B) {k p : Int} {m : Nat} {f : Nat → Int} {q : Int × Nat × (Nat → Int) × Nat} (hp : 0 ≤ p ∧ p ≤ 240) (hm : (m : Int) ≤ p) (hf : az_rows f) (he : az_cl B k p m f = .inr q) : (m ≤ q.2.2.2 ∧ q.2.2.2 ≤ q.2.1) ∧ ((q.2.1 : Int) ≤ q.1 ∧ p < q.1 ∧ q.1 ≤ 240) ∧ az_rows q.2.2.1 ∧ (∀ j, j < m → q.2.2.1 j = f j) ∧ mc_wf q.2.2.1 q.2.2.2 q.2.1 ∧ ((B p = 98 ∨ B p = 118) → mc_wf q.2.2.1 m q.2.2.2) ∧ k ≠ 16 := by
  unfold az_cl at he
  split at he
  · cases he
  · next hc =>
    split at he
    · cases he
    · next hk =>
      cases e1 : az_ce B p m f with
      | inl e => rw [e1] at he; cases he
      | inr s1 =>
        rw [e1] at he
        dsimp only at he
        obtain ⟨a1, ⟨a2, a3, a4⟩, a5, a6, a7⟩ := az_ce_s hB hp (Decidable.not_not.mp hc) hm hf e1
        cases e2 : az_rc B s1.1 s1.2.1 s1.2.2.1 with
        | inl e => rw [e2] at he; cases he
        | inr s2 =>
          rw [e2] at he
          cases he
          obtain ⟨b1, ⟨b2, b3, b4⟩, b5, b6, b7⟩ := az_rc_s hB ⟨by omega, a4⟩ a2 a5 e2
          refine ⟨⟨a1, b1⟩, ⟨b2, by dsimp only; omega, b4⟩, b5, fun j hj => ?_, b7, fun hq => mc_wf_eq (fun j hj => (b6 j (by dsimp only at hj; omega)).symm) (a7 (by omega)), hk⟩
          dsimp only
          rw [b6 j (by omega)]
          exact a6 j hj
abbrev lrX : Nat → Nat → Bool := fun r j => mrX r j || r == 68 || r == 69 || r == 70 || r == 71 || (r == 59 && j == 17)
def az_PC (t0 : hy_T) (B : Int → Int) (res : Int ⊕ (Int × Nat × (Nat → Int) × Nat)) (r : Option Int) (t' : hy_T) : Prop := hy_F lrX t0 t' ∧ match res with
  | .inl e => r = some (hy_b false) ∧ t' 59 12 = e
  | .inr q => r = some (hy_b true) ∧ t' 59 10 = q.1 ∧ t' 59 15 = (q.2.1 : Int) ∧ (∀ j : Nat, j < q.2.1 → t' 66 j = q.2.2.1 j) ∧ t' 59 17 = t0 59 17 + 1 ∧ t' 68 = su (t0 68) (t0 59 17).toNat (B (t0 59 10)) ∧ t' 69 = su (t0 69) (t0 59 17).toNat (t0 59 15) ∧ t' 70 = su (t0 70) (t0 59 17).toNat q.2.2.2 ∧ t' 71 = su (t0 71) (t0 59 17).toNat q.2.1
section LB
variable {sc : List Int32} {t : hy_T} {B : Int → Int}
theorem c_M_isClause {c : Int} : hy_Ct sc hm_M_isClause 0 [.inl c] t (hy_e (some (hy_b (decide (az_isc c)))) t) := by
  refine hy_mk_ct ok_M_isClause ck_M_isClause (Nat.le_of_ble_eq_true rfl) ?_
  refine hy_iload (i := 0) rfl rfl ?_
  refine hy_const (i := 1) rfl (by decide) ?_
  refine hy_ic_eq (i := 2) (tt := 12) rfl (fun zc1 => ?_) (fun zc1 => ?_)
  · refine hy_const (i := 12) rfl (by decide) ?_
    refine hy_goto (i := 13) (tt := 15) rfl ?_
    refine hy_zreturn (i := 15) rfl rfl (by first | decide | exact hy_b01 _) ?_
    exact ⟨congrArg some (by first | (rw [decide_eq_true (by omega)]; rfl) | (rw [decide_eq_false (by omega)]; rfl)), rfl⟩
  · refine hy_iload (i := 3) rfl rfl ?_
    refine hy_const (i := 4) rfl (by decide) ?_
    refine hy_ic_eq (i := 5) (tt := 12) rfl (fun zc2 => ?_) (fun zc2 => ?_)
    · refine hy_const (i := 12) rfl (by decide) ?_
      refine hy_goto (i := 13) (tt := 15) rfl ?_
      refine hy_zreturn (i := 15) rfl rfl (by first | decide | exact hy_b01 _) ?_
      exact ⟨congrArg some (by first | (rw [decide_eq_true (by omega)]; rfl) | (rw [decide_eq_false (by omega)]; rfl)), rfl⟩
    · refine hy_iload (i := 6) rfl rfl ?_
      refine hy_const (i := 7) rfl (by decide) ?_
      refine hy_ic_eq (i := 8) (tt := 12) rfl (fun zc3 => ?_) (fun zc3 => ?_)
      · refine hy_const (i := 12) rfl (by decide) ?_
        refine hy_goto (i := 13) (tt := 15) rfl ?_
        refine hy_zreturn (i := 15) rfl rfl (by first | decide | exact hy_b01 _) ?_
        exact ⟨congrArg some (by first | (rw [decide_eq_true (by omega)]; rfl) | (rw [decide_eq_false (by omega)]; rfl)), rfl⟩
      · refine hy_iload (i := 9) rfl rfl ?_
        refine hy_const (i := 10) rfl (by decide) ?_
        refine hy_ic_ne (i := 11) (tt := 14) rfl (fun zc4 => ?_) (fun zc4 => ?_)
        · refine hy_const (i := 14) rfl (by decide) ?_
          refine hy_zreturn (i := 15) rfl rfl (by first | decide | exact hy_b01 _) ?_
          exact ⟨congrArg some (by first | (rw [decide_eq_true (by omega)]; rfl) | (rw [decide_eq_false (by omega)]; rfl)), rfl⟩
        · refine hy_const (i := 12) rfl (by decide) ?_
          refine hy_goto (i := 13) (tt := 15) rfl ?_
          refine hy_zreturn (i := 15) rfl rfl (by first | decide | exact hy_b01 _) ?_
          exact ⟨congrArg some (by first | (rw [decide_eq_true (by omega)]; rfl) | (rw [decide_eq_false (by omega)]; rfl)), rfl⟩
theorem c_M_readsClause {p : Int} {m : Nat} {f : Nat → Int} (hC : az_C t B) (h10 : t 59 10 = p) (h15 : t 59 15 = (m : Int)) (h66 : ∀ j : Nat, j < m → t 66 j = f j) (hp : 0 ≤ p ∧ p ≤ 240) (hm : (m : Int) ≤ p) (hf : az_rows f) (h17 : 0 ≤ t 59 17 ∧ t 59 17 ≤ 16) : hy_Ct sc hm_M_readsClause 7 [.inr (some 59)] t (az_PC t B (az_cl B (t 59 17) p m f)) := by
  refine hy_mk_ct ok_M_readsClause ck_M_readsClause (Nat.le_of_ble_eq_true rfl) ?_
  have hB := az_C_by hC
  have hmp := az_mpok hC (by omega)
  have hhe := az_here hC
  rw [h10] at hhe
  generalize hG : az_cl B (t 59 17) p m f = G
  unfold az_cl at hG
  by_cases hc : az_isc (B p)
  · rw [if_neg (fun q => q hc)] at hG
    have hlt : p < 240 := by
      refine Decidable.byContradiction (fun q => ?_)
      have := (hB p).2.2 (by omega); omega
    by_cases h16 : t 59 17 = 16
    · rw [if_pos h16] at hG
      refine hy_aload (i := 0) rfl rfl ?_
      refine hy_cV0e (i := 1) rfl mj_M_here (by decide) rfl (Nat.le_of_ble_eq_true rfl) rfl rfl rfl (c_M_here (by assumption)) ?_
      refine hy_istore (i := 2) rfl ?_
      refine hy_iload (i := 3) rfl rfl ?_
      rw [hhe]
      refine hy_cS1e (i := 4) rfl (by decide) mj_M_isClause (by decide) rfl (Nat.le_of_ble_eq_true rfl) (c_M_isClause) ?_
      refine hy_ib_ne (i := 5) (tt := 12) rfl (fun zc1 => ?_) (fun zc1 => ?_)
      · refine hy_aload (i := 12) rfl rfl ?_
        refine hy_get (i := 13) (fk := 17) rfl rfl rfl ?_
        refine hy_const (i := 14) rfl (by decide) ?_
        refine hy_ic_ne (i := 15) (tt := 22) rfl (fun zc2 => ?_) (fun zc2 => ?_)
        · omega
        · refine hy_aload (i := 16) rfl rfl ?_
          refine hy_const (i := 17) rfl (by decide) ?_
          refine hy_aload (i := 18) rfl rfl ?_
          refine hy_get (i := 19) (fk := 10) rfl rfl rfl ?_
          refine hy_cV2e (i := 20) rfl mj_M_wrongAt (by decide) rfl (Nat.le_of_ble_eq_true rfl) rfl rfl rfl (c_M_wrongAt (by decide) (by omega)) ?_
          refine hy_zreturn (i := 21) rfl rfl (by first | decide | exact hy_b01 _) ?_
          rw [← hG]; exact ⟨hy_F.rf.up rfl, rfl, by show -1000 * 4 - t 59 10 = _; omega⟩
      · have := of_decide_eq_false zc1; exact absurd hc this
    · rw [if_neg h16] at hG
      have hkk : (t 59 17).toNat < 16 := by omega
      -- the condition, and the end
      have cond : ∀ (t3 : hy_T) (s1 : Zs) (v1 : hy_V), az_C t3 B → hy_F lrX t t3 → t3 59 10 = s1.1 → t3 59 15 = (s1.2.1 : Int) → (∀ j : Nat, j < s1.2.1 → t3 66 j = s1.2.2.1 j) → (0 ≤ s1.1 ∧ s1.1 ≤ 240) → (s1.2.1 : Int) ≤ s1.1 → az_rows s1.2.2.1 → t3 59 17 = t 59 17 → t3 68 = su (t 68) (t 59 17).toNat (B p) → t3 69 = su (t 69) (t 59 17).toNat (t 59 15) → t3 70 = t 70 → t3 71 = t 71 → (match az_rc B s1.1 s1.2.1 s1.2.2.1 with | .inl e => Sum.inl e | .inr s2 => Sum.inr (s2.1, s2.2.1, s2.2.2.1, s1.2.1)) = G → hy_W sc hm_M_readsClause 7 58 [.inr (some 59), v1] [] t3 (az_PC t B G) := by
        intro t3 s1 v1 hC3 hF3 e10 e15 e66 hp3 hm3 hf3 e17 e68 e69 e70 e71 hv
        have hC4 : az_C (hy_up t3 70 (t 59 17).toNat (s1.2.1 : Int)) B := az_C_F (X := fun r _ => r == 70) (hy_F.rf.up rfl) rfl (fun _ => rfl) hC3
        have hcd := c_M_readsCondition (sc := sc) (t := hy_up t3 70 (t 59 17).toNat (s1.2.1 : Int)) hC4 e10 e15 e66 hp3 hm3 hf3
        have hF4 : hy_F lrX t (hy_up t3 70 (t 59 17).toNat (s1.2.1 : Int)) := hF3.up rfl
        cases e2 : az_rc B s1.1 s1.2.1 s1.2.2.1 with
        | inl e =>
          rw [e2] at hv hcd
          refine hy_aload (i := 58) rfl rfl ?_
          refine hy_getr (i := 59) rfl rfl ?_
          refine hy_aload (i := 60) rfl rfl ?_
          refine hy_get (i := 61) (fk := 17) rfl rfl rfl ?_
          refine hy_aload (i := 62) rfl rfl ?_
          refine hy_get (i := 63) (fk := 15) rfl rfl rfl ?_
          refine hy_iast (i := 64) rfl rfl (by omega) (k := (t 59 17).toNat) (by omega) ?_
          rw [e15]
          refine hy_aload (i := 65) rfl rfl ?_
          refine hy_cV0 (i := 66) rfl mj_M_readsCondition (by decide) rfl (Nat.le_of_ble_eq_true rfl) rfl rfl rfl (hcd) (fun r1_ t1_ h1 => ?_)
          obtain ⟨hF1, rfl, he1⟩ := h1
          dsimp only [hy_st, List.cons_append, List.nil_append]
          refine hy_ib_ne (i := 67) (tt := 70) rfl (fun zc1 => ?_) (fun zc1 => ?_)
          · cases (show false = true by assumption)
          · refine hy_const (i := 68) rfl (by decide) ?_
            refine hy_zreturn (i := 69) rfl rfl (by first | decide | exact hy_b01 _) ?_
            rw [← hv]; exact ⟨hF4.tr' ((show hy_F mrX _ _ by assumption).w (fun r j q => by revert q; simp [lrX, mrX]; omega)), rfl, by assumption⟩
        | inr s2 =>
          rw [e2] at hv hcd
          refine hy_aload (i := 58) rfl rfl ?_
          refine hy_getr (i := 59) rfl rfl ?_
          refine hy_aload (i := 60) rfl rfl ?_
          refine hy_get (i := 61) (fk := 17) rfl rfl rfl ?_
          refine hy_aload (i := 62) rfl rfl ?_
          refine hy_get (i := 63) (fk := 15) rfl rfl rfl ?_
          refine hy_iast (i := 64) rfl rfl (by omega) (k := (t 59 17).toNat) (by omega) ?_
          rw [e15]
          refine hy_aload (i := 65) rfl rfl ?_
          refine hy_cV0 (i := 66) rfl mj_M_readsCondition (by decide) rfl (Nat.le_of_ble_eq_true rfl) rfl rfl rfl (hcd) (fun r1_ t1_ h1 => ?_)
          obtain ⟨hF1, rfl, hR1⟩ := h1
          dsimp only [hy_st, List.cons_append, List.nil_append]
          refine hy_ib_ne (i := 67) (tt := 70) rfl (fun zc1 => ?_) (fun zc1 => ?_)
          · have g17 : t1_ 59 17 = t 59 17 := (hF1 59 17 rfl).trans e17
            obtain ⟨w1, w2, w3, w4, w5, w6⟩ := hR1
            refine hy_aload (i := 70) rfl rfl ?_
            refine hy_getr (i := 71) rfl rfl ?_
            refine hy_aload (i := 72) rfl rfl ?_
            refine hy_get (i := 73) (fk := 17) rfl rfl rfl ?_
            refine hy_aload (i := 74) rfl rfl ?_
            refine hy_get (i := 75) (fk := 15) rfl rfl rfl ?_
            refine hy_iast (i := 76) rfl rfl (by omega) (k := (t 59 17).toNat) (by omega) ?_
            rw [w2]
            refine hy_aload (i := 77) rfl rfl ?_
            refine hy_aload (i := 78) rfl rfl ?_
            refine hy_get (i := 79) (fk := 17) rfl rfl rfl ?_
            refine hy_const (i := 80) rfl (by decide) ?_
            refine hy_iadd (i := 81) rfl (by show -2147483648 ≤ t1_ 59 17 + 1 ∧ t1_ 59 17 + 1 ≤ 2147483647; omega) ?_
            refine hy_put (i := 82) (fk := 17) rfl rfl rfl rfl ?_
            refine hy_const (i := 83) rfl (by decide) ?_
            refine hy_zreturn (i := 84) rfl rfl (by first | decide | exact hy_b01 _) ?_
            rw [← hv]
            refine ⟨((hF4.tr' (hF1.w (fun r j q => by revert q; simp [lrX, mrX]; omega))).up rfl).up rfl, rfl, w1, w2, w3, by show t1_ 59 17 + 1 = _; rw [g17], ?_, ?_, ?_, ?_⟩
            · funext j; rw [hy_up_ne (by decide), hy_up_ne (by decide), hF1 68 j rfl, hy_up_ne (by decide), e68, h10]
            · funext j; rw [hy_up_ne (by decide), hy_up_ne (by decide), hF1 69 j rfl, hy_up_ne (by decide), e69]
            · funext j; rw [hy_up_ne (by decide), hy_up_ne (by decide), hF1 70 j rfl, hy_up_row, e70]
            · funext j; rw [hy_up_ne (by decide), hy_up_row, show t1_ 71 = t 71 from funext fun j => by rw [hF1 71 j rfl, hy_up_ne (by decide), e71]]
          · cases (show true = false by assumption)
      have start : ∀ (t2 : hy_T), t2 = hy_up (hy_up (hy_up (hy_up (hy_up t 68 (t 59 17).toNat (B p)) 59 10 (p + 1)) 69 (t 59 17).toNat (t 59 15)) 59 14 0) 59 16 0 → hy_W sc hm_M_readsClause 7 47 [.inr (some 59), .inl (B p)] [] t2 (az_PC t B G) := by
        intro t2 ht2
        have hF2 : hy_F lrX t t2 := by rw [ht2]; exact ((((hy_F.rf.up rfl).up rfl).up rfl).up rfl).up rfl
        have hC2 : az_C t2 B := az_C_F hF2 rfl (fun _ => rfl) hC
        have e10 : t2 59 10 = p + 1 := by rw [ht2]; rfl
        have e15 : t2 59 15 = (m : Int) := by rw [ht2]; exact h15
        have e66 : ∀ j : Nat, j < m → t2 66 j = f j := fun j hj => by
          rw [ht2, hy_up_ne (by decide), hy_up_ne (by decide), hy_up_ne (by decide), hy_up_ne (by decide), hy_up_ne (by decide)]
          exact h66 j hj
        have e17 : t2 59 17 = t 59 17 := by rw [ht2]; rfl
        have e68 : t2 68 = su (t 68) (t 59 17).toNat (B p) := by
          rw [ht2, ← hy_up_row]
          funext j
          rw [hy_up_ne (by decide), hy_up_ne (by decide), hy_up_ne (by decide), hy_up_ne (by decide)]
        have e69 : t2 69 = su (t 69) (t 59 17).toNat (t 59 15) := by
          rw [ht2]
          funext j
          rw [hy_up_ne (by decide), hy_up_ne (by decide), hy_up_row]
          rfl
        have e70 : t2 70 = t 70 := by rw [ht2]; rfl
        have e71 : t2 71 = t 71 := by rw [ht2]; rfl
        by_cases ha : az_amt (B p)
        · have ece : az_ce B p m f = az_rs B (p + 1, m, f, [], 0) := by unfold az_ce; rw [if_pos ha]
          have hok := az_ok0 (p := p + 1) (m := m) (f := f) ⟨by omega, by omega⟩ (by omega) hf
          have hR2 : az_R t2 (p + 1, m, f, [], 0) := ⟨e10, e15, e66, by rw [ht2]; rfl, trivial, by rw [ht2]; rfl⟩
          have hsm := c_M_readsSum (sc := sc) (a := m) (a0 := m) (f0 := f) hC2 hR2 (Int.le_refl 0) (fun x hx => by cases hx) (az_dep_a f m m (Nat.le_refl _)) (az_lc0 f m _) (Nat.le_refl _) hok (Nat.le_refl _) (fun _ _ => rfl)
          rw [← ece] at hsm
          cases e1 : az_ce B p m f with
          | inl e =>
            rw [e1] at hG hsm
            refine hy_iload (i := 47) rfl rfl ?_
            refine hy_const (i := 48) rfl (by decide) ?_
            refine hy_ic_eq (i := 49) (tt := 58) rfl (fun zc1 => ?_) (fun zc1 => ?_)
            · omega
            · refine hy_iload (i := 50) rfl rfl ?_
              refine hy_const (i := 51) rfl (by decide) ?_
              refine hy_ic_eq (i := 52) (tt := 58) rfl (fun zc2 => ?_) (fun zc2 => ?_)
              · omega
              · refine hy_aload (i := 53) rfl rfl ?_
                refine hy_cV0 (i := 54) rfl mj_M_readsSum (by decide) rfl (Nat.le_of_ble_eq_true rfl) rfl rfl rfl (hsm) (fun r1_ t1_ h1 => ?_)
                obtain ⟨hF1, rfl, he1⟩ := h1
                dsimp only [hy_st, List.cons_append, List.nil_append]
                refine hy_ib_ne (i := 55) (tt := 58) rfl (fun zc3 => ?_) (fun zc3 => ?_)
                · cases (show false = true by assumption)
                · refine hy_const (i := 56) rfl (by decide) ?_
                  refine hy_zreturn (i := 57) rfl rfl (by first | decide | exact hy_b01 _) ?_
                  rw [← hG]; exact ⟨hF2.tr' ((show hy_F mrX _ _ by assumption).w (fun r j q => by revert q; simp [lrX, mrX]; omega)), rfl, by assumption⟩
          | inr s1 =>
            rw [e1] at hG hsm
            dsimp only at hG
            obtain ⟨a1, ⟨a2, a3, a4⟩, a5, a6, a7⟩ := az_ce_s hB hp hc hm hf e1
            refine hy_iload (i := 47) rfl rfl ?_
            refine hy_const (i := 48) rfl (by decide) ?_
            refine hy_ic_eq (i := 49) (tt := 58) rfl (fun zc1 => ?_) (fun zc1 => ?_)
            · omega
            · refine hy_iload (i := 50) rfl rfl ?_
              refine hy_const (i := 51) rfl (by decide) ?_
              refine hy_ic_eq (i := 52) (tt := 58) rfl (fun zc2 => ?_) (fun zc2 => ?_)
              · omega
              · refine hy_aload (i := 53) rfl rfl ?_
                refine hy_cV0 (i := 54) rfl mj_M_readsSum (by decide) rfl (Nat.le_of_ble_eq_true rfl) rfl rfl rfl (hsm) (fun r1_ t1_ h1 => ?_)
                obtain ⟨hF1, rfl, hR1⟩ := h1
                dsimp only [hy_st, List.cons_append, List.nil_append]
                refine hy_ib_ne (i := 55) (tt := 58) rfl (fun zc3 => ?_) (fun zc3 => ?_)
                · have hFz := (show hy_F mrX t2 t1_ by assumption).w (fun r j q => by revert q; simp only [lrX, Bool.or_eq_false_iff]; exact fun q => q.1.1.1.1.1) (Y := lrX)
                  have hR9 : az_R t1_ s1 := by assumption
                  exact cond t1_ s1 _ (az_C_F hFz rfl (fun _ => rfl) hC2) (hF2.tr' hFz) hR9.1 hR9.2.1 hR9.2.2.1 ⟨by omega, a4⟩ a2 a5 ((hF1 59 17 rfl).trans e17) (by rw [← e68]; exact funext fun j => hF1 68 j rfl) (by rw [← e69]; exact funext fun j => hF1 69 j rfl) (by rw [← e70]; exact funext fun j => hF1 70 j rfl) (by rw [← e71]; exact funext fun j => hF1 71 j rfl) hG
                · cases (show true = false by assumption)
        · have ece : az_ce B p m f = .inr (p + 1, m, f, [], 0) := by unfold az_ce; rw [if_neg ha]
          rw [ece] at hG
          dsimp only at hG
          refine hy_iload (i := 47) rfl rfl ?_
          refine hy_const (i := 48) rfl (by decide) ?_
          refine hy_ic_eq (i := 49) (tt := 58) rfl (fun zc1 => ?_) (fun zc1 => ?_)
          · exact cond t2 (p + 1, m, f, [], 0) _ hC2 hF2 e10 e15 e66 ⟨by dsimp only; omega, by dsimp only; omega⟩ (by dsimp only; omega) hf e17 e68 e69 e70 e71 hG
          · refine hy_iload (i := 50) rfl rfl ?_
            refine hy_const (i := 51) rfl (by decide) ?_
            refine hy_ic_eq (i := 52) (tt := 58) rfl (fun zc2 => ?_) (fun zc2 => ?_)
            · exact cond t2 (p + 1, m, f, [], 0) _ hC2 hF2 e10 e15 e66 ⟨by dsimp only; omega, by dsimp only; omega⟩ (by dsimp only; omega) hf e17 e68 e69 e70 e71 hG
            · omega
      refine hy_aload (i := 0) rfl rfl ?_
      refine hy_cV0e (i := 1) rfl mj_M_here (by decide) rfl (Nat.le_of_ble_eq_true rfl) rfl rfl rfl (c_M_here (by assumption)) ?_
      refine hy_istore (i := 2) rfl ?_
      refine hy_iload (i := 3) rfl rfl ?_
      rw [hhe]
      refine hy_cS1e (i := 4) rfl (by decide) mj_M_isClause (by decide) rfl (Nat.le_of_ble_eq_true rfl) (c_M_isClause) ?_
      refine hy_ib_ne (i := 5) (tt := 12) rfl (fun zc1 => ?_) (fun zc1 => ?_)
      · refine hy_aload (i := 12) rfl rfl ?_
        refine hy_get (i := 13) (fk := 17) rfl rfl rfl ?_
        refine hy_const (i := 14) rfl (by decide) ?_
        refine hy_ic_ne (i := 15) (tt := 22) rfl (fun zc2 => ?_) (fun zc2 => ?_)
        · refine hy_aload (i := 22) rfl rfl ?_
          refine hy_getr (i := 23) rfl rfl ?_
          refine hy_aload (i := 24) rfl rfl ?_
          refine hy_get (i := 25) (fk := 17) rfl rfl rfl ?_
          refine hy_iload (i := 26) rfl rfl ?_
          refine hy_iast (i := 27) rfl rfl (by omega) rfl ?_
          refine hy_aload (i := 28) rfl rfl ?_
          refine hy_aload (i := 29) rfl rfl ?_
          refine hy_get (i := 30) (fk := 10) rfl rfl rfl ?_
          refine hy_const (i := 31) rfl (by decide) ?_
          refine hy_iadd (i := 32) rfl (by show -2147483648 ≤ t 59 10 + 1 ∧ t 59 10 + 1 ≤ 2147483647; omega) ?_
          refine hy_put (i := 33) (fk := 10) rfl rfl rfl rfl ?_
          refine hy_aload (i := 34) rfl rfl ?_
          refine hy_getr (i := 35) rfl rfl ?_
          refine hy_aload (i := 36) rfl rfl ?_
          refine hy_get (i := 37) (fk := 17) rfl rfl rfl ?_
          refine hy_aload (i := 38) rfl rfl ?_
          refine hy_get (i := 39) (fk := 15) rfl rfl rfl ?_
          refine hy_iast (i := 40) rfl rfl (by show 0 ≤ t 59 17 ∧ t 59 17 < 16; omega) rfl ?_
          refine hy_aload (i := 41) rfl rfl ?_
          refine hy_const (i := 42) rfl (by decide) ?_
          refine hy_put (i := 43) (fk := 14) rfl rfl rfl rfl ?_
          refine hy_aload (i := 44) rfl rfl ?_
          refine hy_const (i := 45) rfl (by decide) ?_
          refine hy_put (i := 46) (fk := 16) rfl rfl rfl rfl ?_
          refine start _ ?_
          rw [← h10]
          rfl
        · omega
      · have := of_decide_eq_false zc1; exact absurd hc this
  · rw [if_pos hc] at hG
    refine hy_aload (i := 0) rfl rfl ?_
    refine hy_cV0e (i := 1) rfl mj_M_here (by decide) rfl (Nat.le_of_ble_eq_true rfl) rfl rfl rfl (c_M_here (by assumption)) ?_
    refine hy_istore (i := 2) rfl ?_
    refine hy_iload (i := 3) rfl rfl ?_
    rw [hhe]
    refine hy_cS1e (i := 4) rfl (by decide) mj_M_isClause (by decide) rfl (Nat.le_of_ble_eq_true rfl) (c_M_isClause) ?_
    refine hy_ib_ne (i := 5) (tt := 12) rfl (fun zc1 => ?_) (fun zc1 => ?_)
    · exact absurd (of_decide_eq_true zc1) hc
    · refine hy_aload (i := 6) rfl rfl ?_
      refine hy_const (i := 7) rfl (by decide) ?_
      refine hy_aload (i := 8) rfl rfl ?_
      refine hy_get (i := 9) (fk := 10) rfl rfl rfl ?_
      refine hy_cV2e (i := 10) rfl mj_M_wrongAt (by decide) rfl (Nat.le_of_ble_eq_true rfl) rfl rfl rfl (c_M_wrongAt (by decide) (by omega)) ?_
      refine hy_zreturn (i := 11) rfl rfl (by first | decide | exact hy_b01 _) ?_
      rw [← hG]; exact ⟨hy_F.rf.up rfl, rfl, by show -1000 * 1 - t 59 10 = _; omega⟩
end LB
/-! the model's law -/
abbrev Ls : Type := Int × Nat × (Nat → Int) × Nat × (Nat → Nat → Int)
def al_put (R : Nat → Nat → Int) (k : Nat) (c m h e : Int) : Nat → Nat → Int := fun r => if r = 68 then su (R 68) k c else if r = 69 then su (R 69) k m else if r = 70 then su (R 70) k h else if r = 71 then su (R 71) k e else R r
def al_nx (B : Int → Int) (s : Ls) (p : Int) (q : Int × Nat × (Nat → Int) × Nat) : Ls := (q.1, q.2.1, q.2.2.1, s.2.2.2.1 + 1, al_put s.2.2.2.2 s.2.2.2.1 (B p) s.2.1 q.2.2.2 q.2.1)
def al_lawN (B : Int → Int) (len : Int) : Nat → Ls → Int ⊕ Ls
  | 0, _ => .inl 0
  | n + 1, s => if s.1 < len then
      (if B s.1 = 59 then (match az_cl B s.2.2.2.1 (s.1 + 1) s.2.1 s.2.2.1 with
        | .inl e => .inl e
        | .inr q => al_lawN B len n (al_nx B s (s.1 + 1) q))
       else .inl (-1000 - s.1))
    else .inr s
def al_s0 (R : Nat → Nat → Int) : Ls := (0, 0, fun _ => 0, 0, R)
def al_law (B : Int → Int) (len : Int) (R : Nat → Nat → Int) : Int ⊕ Ls := match az_cl B 0 0 0 (fun _ => 0) with
  | .inl e => .inl e
  | .inr q => al_lawN B len 300 (al_nx B (al_s0 R) 0 q)
def al_L (t : hy_T) (s : Ls) : Prop := t 59 10 = s.1 ∧ t 59 15 = (s.2.1 : Int) ∧ (∀ j : Nat, j < s.2.1 → t 66 j = s.2.2.1 j) ∧ t 59 17 = (s.2.2.2.1 : Int) ∧ t 68 = s.2.2.2.2 68 ∧ t 69 = s.2.2.2.2 69 ∧ t 70 = s.2.2.2.2 70 ∧ t 71 = s.2.2.2.2 71
def al_I (s : Ls) : Prop := (0 ≤ s.1 ∧ s.1 ≤ 240) ∧ (s.2.1 : Int) ≤ s.1 ∧ az_rows s.2.2.1 ∧ s.2.2.2.1 ≤ 16 ∧ ∀ q : Nat, q < s.2.2.2.1 → s.2.2.2.2 71 q ≤ s.2.1 ∧ s.2.2.2.2 70 q ≤ s.2.1 ∧ mc_wf s.2.2.1 (s.2.2.2.2 70 q) (s.2.2.2.2 71 q) ∧ ((s.2.2.2.2 68 q = 98 ∨ s.2.2.2.2 68 q = 118) → mc_wf s.2.2.1 (s.2.2.2.2 69 q) (s.2.2.2.2 70 q))
theorem al_nx_s {B : Int → Int} (hB : az_by B) {s : Ls} (h : al_I s) {p : Int} (hp : 0 ≤ p ∧ p ≤ 240) (hm : (s.2.1 : Int) ≤ p) {q : Int × Nat × (Nat → Int) × Nat} (he : az_cl B s.2.2.2.1 p s.2.1 s.2.2.1 = .inr q) : al_I (al_nx B s p q) ∧ p < q.1 := by
  obtain ⟨i1, i2, i3, i4, i5⟩ := h
  obtain ⟨⟨c1, c2⟩, ⟨c3, c4, c5⟩, c6, c7, c8, c9, c10⟩ := az_cl_s hB hp hm i3 he
  refine ⟨⟨⟨by show 0 ≤ q.1; omega, c5⟩, c3, c6, by show s.2.2.2.1 + 1 ≤ 16; omega, fun j hj => ?_⟩, c4⟩
  have e68 : al_put s.2.2.2.2 s.2.2.2.1 (B p) s.2.1 q.2.2.2 q.2.1 68 = su (s.2.2.2.2 68) s.2.2.2.1 (B p) := rfl
  have e69 : al_put s.2.2.2.2 s.2.2.2.1 (B p) s.2.1 q.2.2.2 q.2.1 69 = su (s.2.2.2.2 69) s.2.2.2.1 s.2.1 := rfl
  have e70 : al_put s.2.2.2.2 s.2.2.2.1 (B p) s.2.1 q.2.2.2 q.2.1 70 = su (s.2.2.2.2 70) s.2.2.2.1 q.2.2.2 := rfl
  have e71 : al_put s.2.2.2.2 s.2.2.2.1 (B p) s.2.1 q.2.2.2 q.2.1 71 = su (s.2.2.2.2 71) s.2.2.2.1 q.2.1 := rfl
  unfold al_nx
  dsimp only
  rw [e68, e69, e70, e71]
  simp only [su]
  unfold al_nx at hj
  dsimp only at hj
  by_cases hk : j = s.2.2.2.1
  · simp only [if_pos hk]
    exact ⟨Int.le_refl _, by omega, c8, c9⟩
  · simp only [if_neg hk]
    obtain ⟨d1, d2, d3, d4⟩ := i5 j (by omega)
    exact ⟨by omega, by omega, mc_wf_eq (fun k hk => (c7 k (by omega)).symm) d3, fun hq => mc_wf_eq (fun k hk => (c7 k (by omega)).symm) (d4 hq)⟩
theorem bb_not {p : Bool} (q : (!p) = false) : p = true := by
  cases p
  · cases q
  · rfl
/-- what the law answers and leaves -/
def al_Q (t0 : hy_T) (G : Int ⊕ Ls) (r : Option Int) (t' : hy_T) : Prop := t' 59 9 = 0 ∧ match G with
  | .inl e => r = some e ∧ ∀ r j, mlawX r j = true → t' r j = t0 r j
  | .inr s => r = some (s.2.2.2.1 : Int) ∧ t' 59 18 = (s.2.2.2.1 : Int) ∧ (∀ j : Nat, j < s.2.1 → t' 72 j = s.2.2.1 j) ∧ ∀ q : Nat, q < s.2.2.2.1 → t' 73 q = s.2.2.2.2 68 q ∧ t' 74 q = s.2.2.2.2 69 q ∧ t' 75 q = s.2.2.2.2 70 q ∧ t' 76 q = s.2.2.2.2 71 q
abbrev lwX : Nat → Nat → Bool := fun r j => lrX r j || mlawX r j || (r == 59 && (j == 9 || j == 11))
theorem al_ok_of {t' : hy_T} {s : Ls} (hI : al_I s) (h18 : t' 59 18 = (s.2.2.2.1 : Int)) (h72 : ∀ j : Nat, j < s.2.1 → t' 72 j = s.2.2.1 j) (hr : ∀ q : Nat, q < s.2.2.2.1 → t' 73 q = s.2.2.2.2 68 q ∧ t' 74 q = s.2.2.2.2 69 q ∧ t' 75 q = s.2.2.2.2 70 q ∧ t' 76 q = s.2.2.2.2 71 q) : ml_ok t' := by
  obtain ⟨i1, i2, i3, i4, i5⟩ := hI
  refine ⟨by omega, fun q hq hq2 => ?_⟩
  obtain ⟨d1, d2, d3, d4⟩ := i5 q (by omega)
  obtain ⟨r1, r2, r3, r4⟩ := hr q (by omega)
  rw [r1, r2, r3, r4]
  exact ⟨mc_wf_eq (fun k hk => (h72 k (by omega)).symm) d3, fun ho => mc_wf_eq (fun k hk => (h72 k (by omega)).symm) (d4 ho)⟩
abbrev al_nc (t : hy_T) (n : Int) : Prop := (1 ≤ n ∧ n ≤ 240) ∧ n ≤ t 59 9
def al_B (t : hy_T) (n : Int) : Int → Int := fun p => if p < n then hz_iand (t 65 p.toNat) 255 else -1
section LL
variable {sc : List Int32} {t : hy_T}
theorem c_M_law {n : Int} (hk : ml_ok t) : hy_Ct sc hm_M_law 8 [.inr (some 59), .inl n] t (fun r t' => hy_F lwX t t' ∧ ml_ok t' ∧ (if al_nc t n then al_Q t (al_law (al_B t n) n t) r t' else r = some (-1) ∧ t' = t)) := by
  refine hy_mk_ct ok_M_law ck_M_law (Nat.le_of_ble_eq_true rfl) ?_
  by_cases hq : al_nc t n
  · simp only [if_pos hq]
    generalize hG : al_law (al_B t n) n t = G
    generalize hBB : al_B t n = B at hG
    -- the ends
    have bad : ∀ (t2 : hy_T) (e : Int) (v3 : hy_V), G = .inl e → hy_F lwX t t2 → (∀ r j, mlawX r j = true → t2 r j = t r j) → t2 59 12 = e → hy_W sc hm_M_law 8 45 [.inr (some 59), .inl n, .inl 0, v3] [] t2 (fun r t' => hy_F lwX t t' ∧ ml_ok t' ∧ al_Q t G r t') := by
      intro t2 e v3 hv hF hL he
      refine hy_aload (i := 45) rfl rfl ?_
      refine hy_const (i := 46) rfl (by decide) ?_
      refine hy_put (i := 47) (fk := 9) rfl rfl rfl rfl ?_
      refine hy_iload (i := 48) rfl rfl ?_
      refine hy_if_ne (i := 49) (tt := 53) rfl (fun zc1 => ?_) (fun zc1 => ?_)
      · exact absurd rfl (by assumption)
      · refine hy_aload (i := 50) rfl rfl ?_
        refine hy_get (i := 51) (fk := 12) rfl rfl rfl ?_
        refine hy_ireturn (i := 52) rfl rfl ?_
        refine ⟨hF.up rfl, ml_ok_F (X := fun r j => !mlawX r j) (fun r j q => ?_) (fun r j q => by simp [q]) hk, ?_⟩
        · rw [show hy_up t2 59 9 0 r j = t2 r j by simp only [hy_up]; rw [if_neg (fun c => by rw [c.1, c.2] at q; revert q; decide)]]
          exact hL r j (bb_not q)
        · rw [hv]
          refine ⟨rfl, congrArg some he, fun r j q => ?_⟩
          rw [show hy_up t2 59 9 0 r j = t2 r j by simp only [hy_up]; rw [if_neg (fun c => by rw [c.1, c.2] at q; revert q; decide)]]
          exact hL r j q
    have bad2 : ∀ (t2 : hy_T) (e : Int) (v3 : hy_V), G = .inl e → hy_F lwX t t2 → (∀ r j, mlawX r j = true → t2 r j = t r j) → t2 59 12 = e → hy_W sc hm_M_law 8 26 [.inr (some 59), .inl n, .inl 0, v3] [] t2 (fun r t' => hy_F lwX t t' ∧ ml_ok t' ∧ al_Q t G r t') := by
      intro t2 e v3 hv hF hL he
      refine hy_iload (i := 26) rfl rfl ?_
      refine hy_if_eq (i := 27) (tt := 45) rfl (fun zc1 => ?_) (fun zc1 => ?_)
      · exact bad t2 e _ hv hF hL he
      · exact absurd rfl (by assumption)
    have fin : ∀ (t2 : hy_T) (s : Ls) (v3 : hy_V), G = .inr s → al_I s → al_L t2 s → hy_F lwX t t2 → hy_W sc hm_M_law 8 45 [.inr (some 59), .inl n, .inl 1, v3] [] t2 (fun r t' => hy_F lwX t t' ∧ ml_ok t' ∧ al_Q t G r t') := by
      intro t2 s v3 hv hI hL hF
      obtain ⟨i1, i2, i3, i4, i5⟩ := id hI
      obtain ⟨l1, l2, l3, l4, l5, l6, l7, l8⟩ := hL
      rw [hv]
      have rows : ∀ (m : Nat), ∀ (k : Nat) (t3 : hy_T), m + k = s.2.2.2.1 → hy_F lwX t t3 → t3 59 9 = 0 → t3 59 17 = (s.2.2.2.1 : Int) → t3 59 18 = (s.2.2.2.1 : Int) → (∀ j : Nat, j < s.2.1 → t3 72 j = s.2.2.1 j) → t3 68 = s.2.2.2.2 68 → t3 69 = s.2.2.2.2 69 → t3 70 = s.2.2.2.2 70 → t3 71 = s.2.2.2.2 71 → (∀ q : Nat, q < k → t3 73 q = s.2.2.2.2 68 q ∧ t3 74 q = s.2.2.2.2 69 q ∧ t3 75 q = s.2.2.2.2 70 q ∧ t3 76 q = s.2.2.2.2 71 q) → hy_W sc hm_M_law 8 75 [.inr (some 59), .inl n, .inl 1, .inl (k : Int)] [] t3 (fun r t' => hy_F lwX t t' ∧ ml_ok t' ∧ al_Q t (.inr s) r t') := by
        intro m
        induction m with
        | zero =>
          intro k t3 hm hF3 h9 h17 h18 h72 h68 h69 h70 h71 hr
          obtain rfl : k = s.2.2.2.1 := by omega
          refine hy_iload (i := 75) rfl rfl ?_
          refine hy_aload (i := 76) rfl rfl ?_
          refine hy_get (i := 77) (fk := 17) rfl rfl rfl ?_
          refine hy_ic_ge (i := 78) (tt := 113) rfl (fun zc1 => ?_) (fun zc1 => ?_)
          · refine hy_aload (i := 113) rfl rfl ?_
            refine hy_get (i := 114) (fk := 17) rfl rfl rfl ?_
            refine hy_ireturn (i := 115) rfl rfl ?_
            exact ⟨hF3, al_ok_of hI h18 h72 hr, h9, congrArg some h17, h18, h72, hr⟩
          · omega
        | succ m ih =>
          intro k t3 hm hF3 h9 h17 h18 h72 h68 h69 h70 h71 hr
          refine hy_iload (i := 75) rfl rfl ?_
          refine hy_aload (i := 76) rfl rfl ?_
          refine hy_get (i := 77) (fk := 17) rfl rfl rfl ?_
          refine hy_ic_ge (i := 78) (tt := 113) rfl (fun zc1 => ?_) (fun zc1 => ?_)
          · omega
          · refine hy_aload (i := 79) rfl rfl ?_
            refine hy_getr (i := 80) rfl rfl ?_
            refine hy_iload (i := 81) rfl rfl ?_
            refine hy_aload (i := 82) rfl rfl ?_
            refine hy_getr (i := 83) rfl rfl ?_
            refine hy_iload (i := 84) rfl rfl ?_
            refine hy_iald (i := 85) rfl rfl (by omega) (k := k) (by omega) ?_
            refine hy_iast (i := 86) rfl rfl (by omega) (k := k) (by omega) ?_
            refine hy_aload (i := 87) rfl rfl ?_
            refine hy_getr (i := 88) rfl rfl ?_
            refine hy_iload (i := 89) rfl rfl ?_
            refine hy_aload (i := 90) rfl rfl ?_
            refine hy_getr (i := 91) rfl rfl ?_
            refine hy_iload (i := 92) rfl rfl ?_
            refine hy_iald (i := 93) rfl rfl (by omega) (k := k) (by omega) ?_
            refine hy_iast (i := 94) rfl rfl (by omega) (k := k) (by omega) ?_
            refine hy_aload (i := 95) rfl rfl ?_
            refine hy_getr (i := 96) rfl rfl ?_
            refine hy_iload (i := 97) rfl rfl ?_
            refine hy_aload (i := 98) rfl rfl ?_
            refine hy_getr (i := 99) rfl rfl ?_
            refine hy_iload (i := 100) rfl rfl ?_
            refine hy_iald (i := 101) rfl rfl (by omega) (k := k) (by omega) ?_
            refine hy_iast (i := 102) rfl rfl (by omega) (k := k) (by omega) ?_
            refine hy_aload (i := 103) rfl rfl ?_
            refine hy_getr (i := 104) rfl rfl ?_
            refine hy_iload (i := 105) rfl rfl ?_
            refine hy_aload (i := 106) rfl rfl ?_
            refine hy_getr (i := 107) rfl rfl ?_
            refine hy_iload (i := 108) rfl rfl ?_
            refine hy_iald (i := 109) rfl rfl (by omega) (k := k) (by omega) ?_
            refine hy_iast (i := 110) rfl rfl (by omega) (k := k) (by omega) ?_
            refine hy_iinc (i := 111) rfl rfl (by omega) ?_
            refine hy_goto (i := 112) (tt := 75) rfl ?_
            refine ih (k + 1) _ (by omega) ((((hF3.up rfl).up rfl).up rfl).up rfl) h9 h17 h18 h72 h68 h69 h70 h71 (fun q hq => ?_)
            have e68 : t3 68 k = s.2.2.2.2 68 k := by rw [h68]
            have e69 : t3 69 k = s.2.2.2.2 69 k := by rw [h69]
            have e70 : t3 70 k = s.2.2.2.2 70 k := by rw [h70]
            have e71 : t3 71 k = s.2.2.2.2 71 k := by rw [h71]
            rcases Nat.lt_succ_iff_lt_or_eq.mp hq with h | rfl
            · have hne : q ≠ k := by omega
              have := hr q h
              simp [hy_up, hne]
              exact this
            · simp [hy_up]
              exact ⟨e68, e69, e70, e71⟩
      have codes : ∀ (m : Nat), ∀ (k : Nat) (t3 : hy_T), m + k = s.2.1 → hy_F lwX t t3 → t3 59 9 = 0 → t3 59 15 = (s.2.1 : Int) → (∀ j : Nat, j < s.2.1 → t3 66 j = s.2.2.1 j) → t3 59 17 = (s.2.2.2.1 : Int) → t3 59 18 = (s.2.2.2.1 : Int) → (∀ j : Nat, j < k → t3 72 j = s.2.2.1 j) → t3 68 = s.2.2.2.2 68 → t3 69 = s.2.2.2.2 69 → t3 70 = s.2.2.2.2 70 → t3 71 = s.2.2.2.2 71 → hy_W sc hm_M_law 8 59 [.inr (some 59), .inl n, .inl 1, .inl (k : Int)] [] t3 (fun r t' => hy_F lwX t t' ∧ ml_ok t' ∧ al_Q t (.inr s) r t') := by
        intro m
        induction m with
        | zero =>
          intro k t3 hm hF3 h9 h15 h66 h17 h18 h72 h68 h69 h70 h71
          obtain rfl : k = s.2.1 := by omega
          refine hy_iload (i := 59) rfl rfl ?_
          refine hy_aload (i := 60) rfl rfl ?_
          refine hy_get (i := 61) (fk := 15) rfl rfl rfl ?_
          refine hy_ic_ge (i := 62) (tt := 73) rfl (fun zc1 => ?_) (fun zc1 => ?_)
          · refine hy_const (i := 73) rfl (by decide) ?_
            refine hy_istore (i := 74) rfl ?_
            exact rows s.2.2.2.1 0 t3 rfl hF3 h9 h17 h18 h72 h68 h69 h70 h71 (fun q hq => absurd hq (by omega))
          · omega
        | succ m ih =>
          intro k t3 hm hF3 h9 h15 h66 h17 h18 h72 h68 h69 h70 h71
          refine hy_iload (i := 59) rfl rfl ?_
          refine hy_aload (i := 60) rfl rfl ?_
          refine hy_get (i := 61) (fk := 15) rfl rfl rfl ?_
          refine hy_ic_ge (i := 62) (tt := 73) rfl (fun zc1 => ?_) (fun zc1 => ?_)
          · omega
          · refine hy_aload (i := 63) rfl rfl ?_
            refine hy_getr (i := 64) rfl rfl ?_
            refine hy_iload (i := 65) rfl rfl ?_
            refine hy_aload (i := 66) rfl rfl ?_
            refine hy_getr (i := 67) rfl rfl ?_
            refine hy_iload (i := 68) rfl rfl ?_
            refine hy_iald (i := 69) rfl rfl (by omega) (k := k) (by omega) ?_
            refine hy_iast (i := 70) rfl rfl (by omega) (k := k) (by omega) ?_
            refine hy_iinc (i := 71) rfl rfl (by omega) ?_
            refine hy_goto (i := 72) (tt := 59) rfl ?_
            refine ih (k + 1) _ (by omega) (hF3.up rfl) h9 h15 h66 h17 h18 (fun j hj => ?_) h68 h69 h70 h71
            rcases Nat.lt_succ_iff_lt_or_eq.mp hj with h | rfl
            · rw [show hy_up t3 72 k (t3 66 k) 72 j = t3 72 j by simp only [hy_up]; rw [if_neg (by omega)]]
              exact h72 j h
            · simp only [hy_up, true_and, if_true]
              exact h66 j (by omega)
      refine hy_aload (i := 45) rfl rfl ?_
      refine hy_const (i := 46) rfl (by decide) ?_
      refine hy_put (i := 47) (fk := 9) rfl rfl rfl rfl ?_
      refine hy_iload (i := 48) rfl rfl ?_
      refine hy_if_ne (i := 49) (tt := 53) rfl (fun zc1 => ?_) (fun zc1 => ?_)
      · refine hy_aload (i := 53) rfl rfl ?_
        refine hy_aload (i := 54) rfl rfl ?_
        refine hy_get (i := 55) (fk := 17) rfl rfl rfl ?_
        refine hy_put (i := 56) (fk := 18) rfl rfl rfl rfl ?_
        refine hy_const (i := 57) rfl (by decide) ?_
        refine hy_istore (i := 58) rfl ?_
        exact codes s.2.1 0 _ rfl ((hF.up rfl).up rfl) rfl l2 l3 l4 l4 (fun j hj => absurd hj (by omega)) l5 l6 l7 l8
      · omega
    have nxt : ∀ (t1 t2 : hy_T) (s : Ls) (p : Int) (q : Int × Nat × (Nat → Int) × Nat), t1 59 17 = (s.2.2.2.1 : Int) → t1 59 10 = p → t1 59 15 = (s.2.1 : Int) → t1 68 = s.2.2.2.2 68 → t1 69 = s.2.2.2.2 69 → t1 70 = s.2.2.2.2 70 → t1 71 = s.2.2.2.2 71 → az_PC t1 B (.inr q) (some (hy_b true)) t2 → al_L t2 (al_nx B s p q) := by
      intro t1 t2 s p q e17 e10 e15 e68 e69 e70 e71 h
      obtain ⟨-, -, p1, p2, p3, p4, p5, p6, p7, p8⟩ := h
      rw [e17, show ((s.2.2.2.1 : Nat) : Int).toNat = s.2.2.2.1 from rfl] at p5 p6 p7 p8
      rw [e10, e68] at p5
      rw [e15, e69] at p6
      rw [e70] at p7
      rw [e71] at p8
      exact ⟨p1, p2, p3, by rw [p4, e17]; rfl, p5, p6, p7, p8⟩
    have hlw : ∀ (t1 t2 : hy_T), hy_F lrX t1 t2 → (∀ r j, mlawX r j = true → t1 r j = t r j) → ∀ r j, mlawX r j = true → t2 r j = t r j := fun t1 t2 hF h r j q => by
      rw [hF r j (by revert q; simp [lrX, mrX, mlawX]; omega)]
      exact h r j q
    have loop : ∀ (m : Nat), ∀ (s : Ls) (t1 : hy_T) (v3 : hy_V), al_I s → al_L t1 s → az_C t1 B → t1 59 11 = n → hy_F lwX t t1 → (∀ r j, mlawX r j = true → t1 r j = t r j) → 300 ≤ m + s.1 → al_lawN B n m s = G → hy_W sc hm_M_law 8 26 [.inr (some 59), .inl n, .inl 1, v3] [] t1 (fun r t' => hy_F lwX t t' ∧ ml_ok t' ∧ al_Q t G r t') := by
      intro m
      induction m with
      | zero =>
        intro s t1 v3 hI hL hC h11 hF hlwt hn hv
        have := hI.1
        omega
      | succ m ih =>
        intro s t1 v3 hI hL hC h11 hF hlwt hn hv
        obtain ⟨i1, i2, i3, i4, i5⟩ := id hI
        obtain ⟨l1, l2, l3, l4, l5, l6, l7, l8⟩ := id hL
        have hB := az_C_by hC
        have hmp := az_mpok hC (by omega)
        have hhe := az_here hC
        rw [l1] at hhe
        simp only [al_lawN] at hv
        by_cases hlen : s.1 < n
        · rw [if_pos hlen] at hv
          by_cases h59 : B s.1 = 59
          · rw [if_pos h59] at hv
            have hlt : s.1 < 240 := by
              refine Decidable.byContradiction (fun q => ?_)
              have := (hB s.1).2.2 (by omega); omega
            have et : mp_take t1 59 = (true, mp_st t1) := by unfold mp_take; rw [if_pos (by omega)]
            have hCs : az_C (mp_st t1) B := az_C_F (X := fun r j => r == 59 && j == 10) (hy_F.rf.up rfl) rfl (fun _ => rfl) hC
            have e10s : mp_st t1 59 10 = s.1 + 1 := by show t1 59 10 + 1 = _; omega
            have hcl := c_M_readsClause (sc := sc) (p := s.1 + 1) (m := s.2.1) (f := s.2.2.1) hCs e10s l2 l3 (by omega) (by omega) i3 (by show 0 ≤ t1 59 17 ∧ t1 59 17 ≤ 16; omega)
            rw [show mp_st t1 59 17 = (s.2.2.2.1 : Int) from l4] at hcl
            have hFs : hy_F lwX t (mp_st t1) := hF.up rfl
            have hls : ∀ r j, mlawX r j = true → mp_st t1 r j = t r j := fun r j q => by
              rw [show mp_st t1 r j = t1 r j by unfold mp_st; simp only [hy_up]; rw [if_neg (fun c => by rw [c.1, c.2] at q; revert q; decide)]]
              exact hlwt r j q
            have htk : hy_Ct sc hm_M_takes 1 [.inr (some 59), .inl 59] t1 (hy_e (some (hy_b true)) (mp_st t1)) := by
              have h := c_M_takes (sc := sc) (c := 59) hmp
              rw [et] at h
              exact h
            cases ec : az_cl B s.2.2.2.1 (s.1 + 1) s.2.1 s.2.2.1 with
            | inl e =>
              rw [ec] at hv hcl
              refine hy_iload (i := 26) rfl rfl ?_
              refine hy_if_eq (i := 27) (tt := 45) rfl (fun zc1 => ?_) (fun zc1 => ?_)
              · omega
              · refine hy_aload (i := 28) rfl rfl ?_
                refine hy_get (i := 29) (fk := 10) rfl rfl rfl ?_
                refine hy_aload (i := 30) rfl rfl ?_
                refine hy_get (i := 31) (fk := 11) rfl rfl rfl ?_
                refine hy_ic_ge (i := 32) (tt := 45) rfl (fun zc2 => ?_) (fun zc2 => ?_)
                · omega
                · refine hy_aload (i := 33) rfl rfl ?_
                  refine hy_const (i := 34) rfl (by decide) ?_
                  refine hy_cV1e (i := 35) rfl mj_M_takes (by decide) rfl (Nat.le_of_ble_eq_true rfl) rfl rfl rfl (htk) ?_
                  refine hy_ib_eq (i := 36) (tt := 42) rfl (fun zc3 => ?_) (fun zc3 => ?_)
                  · cases (show true = false by assumption)
                  · refine hy_aload (i := 37) rfl rfl ?_
                    refine hy_cV0 (i := 38) rfl mj_M_readsClause (by decide) rfl (Nat.le_of_ble_eq_true rfl) rfl rfl rfl (hcl) (fun r2_ t2_ h2 => ?_)
                    obtain ⟨hF2, rfl, he2⟩ := h2
                    dsimp only [hy_st, List.cons_append, List.nil_append]
                    refine hy_ib_eq (i := 39) (tt := 42) rfl (fun zc4 => ?_) (fun zc4 => ?_)
                    · refine hy_const (i := 42) rfl (by decide) ?_
                      refine hy_istore (i := 43) rfl ?_
                      refine hy_goto (i := 44) (tt := 26) rfl ?_
                      exact bad2 _ e _ hv.symm (hFs.tr' ((show hy_F lrX _ _ by assumption).w (fun r j q => by revert q; simp only [lwX, Bool.or_eq_false_iff]; exact fun q => q.1.1))) (hlw _ _ (by assumption) hls) (by assumption)
                    · cases (show false = true by assumption)
            | inr q =>
              rw [ec] at hv hcl
              dsimp only at hv
              obtain ⟨n1, n2⟩ := al_nx_s hB hI (p := s.1 + 1) (by omega) (by omega) ec
              refine hy_iload (i := 26) rfl rfl ?_
              refine hy_if_eq (i := 27) (tt := 45) rfl (fun zc1 => ?_) (fun zc1 => ?_)
              · omega
              · refine hy_aload (i := 28) rfl rfl ?_
                refine hy_get (i := 29) (fk := 10) rfl rfl rfl ?_
                refine hy_aload (i := 30) rfl rfl ?_
                refine hy_get (i := 31) (fk := 11) rfl rfl rfl ?_
                refine hy_ic_ge (i := 32) (tt := 45) rfl (fun zc2 => ?_) (fun zc2 => ?_)
                · omega
                · refine hy_aload (i := 33) rfl rfl ?_
                  refine hy_const (i := 34) rfl (by decide) ?_
                  refine hy_cV1e (i := 35) rfl mj_M_takes (by decide) rfl (Nat.le_of_ble_eq_true rfl) rfl rfl rfl (htk) ?_
                  refine hy_ib_eq (i := 36) (tt := 42) rfl (fun zc3 => ?_) (fun zc3 => ?_)
                  · cases (show true = false by assumption)
                  · refine hy_aload (i := 37) rfl rfl ?_
                    refine hy_cV0 (i := 38) rfl mj_M_readsClause (by decide) rfl (Nat.le_of_ble_eq_true rfl) rfl rfl rfl (hcl) (fun r2_ t2_ h2 => ?_)
                    have hPC2 := h2
                    obtain ⟨hF2, rfl, hR2⟩ := h2
                    dsimp only [hy_st, List.cons_append, List.nil_append]
                    refine hy_ib_eq (i := 39) (tt := 42) rfl (fun zc4 => ?_) (fun zc4 => ?_)
                    · cases (show true = false by assumption)
                    · refine hy_const (i := 40) rfl (by decide) ?_
                      refine hy_goto (i := 41) (tt := 43) rfl ?_
                      refine hy_istore (i := 43) rfl ?_
                      refine hy_goto (i := 44) (tt := 26) rfl ?_
                      exact ih (al_nx B s (s.1 + 1) q) _ _ n1 (nxt (mp_st t1) _ s (s.1 + 1) q l4 e10s l2 l5 l6 l7 l8 hPC2) (az_C_F hF2 rfl (fun _ => rfl) hCs) ((hF2 59 11 rfl).trans h11) (hFs.tr' (hF2.w (fun r j q => by revert q; simp only [lwX, Bool.or_eq_false_iff]; exact fun q => q.1.1))) (hlw _ _ hF2 hls) (by show 300 ≤ (m : Int) + q.1; omega) hv
          · rw [if_neg h59] at hv
            have et : mp_take t1 59 = (false, mp_wr t1 1 (t1 59 10)) := by unfold mp_take; rw [if_neg (by omega)]
            have htk : hy_Ct sc hm_M_takes 1 [.inr (some 59), .inl 59] t1 (hy_e (some (hy_b false)) (mp_wr t1 1 (t1 59 10))) := by
              have h := c_M_takes (sc := sc) (c := 59) hmp
              rw [et] at h
              exact h
            refine hy_iload (i := 26) rfl rfl ?_
            refine hy_if_eq (i := 27) (tt := 45) rfl (fun zc1 => ?_) (fun zc1 => ?_)
            · omega
            · refine hy_aload (i := 28) rfl rfl ?_
              refine hy_get (i := 29) (fk := 10) rfl rfl rfl ?_
              refine hy_aload (i := 30) rfl rfl ?_
              refine hy_get (i := 31) (fk := 11) rfl rfl rfl ?_
              refine hy_ic_ge (i := 32) (tt := 45) rfl (fun zc2 => ?_) (fun zc2 => ?_)
              · omega
              · refine hy_aload (i := 33) rfl rfl ?_
                refine hy_const (i := 34) rfl (by decide) ?_
                refine hy_cV1e (i := 35) rfl mj_M_takes (by decide) rfl (Nat.le_of_ble_eq_true rfl) rfl rfl rfl (htk) ?_
                refine hy_ib_eq (i := 36) (tt := 42) rfl (fun zc3 => ?_) (fun zc3 => ?_)
                · refine hy_const (i := 42) rfl (by decide) ?_
                  refine hy_istore (i := 43) rfl ?_
                  refine hy_goto (i := 44) (tt := 26) rfl ?_
                  exact bad2 _ (-1000 - s.1) _ hv.symm (hF.up rfl) (fun r j q => by rw [show mp_wr t1 1 (t1 59 10) r j = t1 r j by unfold mp_wr; simp only [hy_up]; rw [if_neg (fun c => by rw [c.1, c.2] at q; revert q; decide)]]; exact hlwt r j q) (by show -1000 * 1 - t1 59 10 = _; omega)
                · cases (show false = true by assumption)
        · rw [if_neg hlen] at hv
          refine hy_iload (i := 26) rfl rfl ?_
          refine hy_if_eq (i := 27) (tt := 45) rfl (fun zc1 => ?_) (fun zc1 => ?_)
          · omega
          · refine hy_aload (i := 28) rfl rfl ?_
            refine hy_get (i := 29) (fk := 10) rfl rfl rfl ?_
            refine hy_aload (i := 30) rfl rfl ?_
            refine hy_get (i := 31) (fk := 11) rfl rfl rfl ?_
            refine hy_ic_ge (i := 32) (tt := 45) rfl (fun zc2 => ?_) (fun zc2 => ?_)
            · exact fin t1 s _ hv.symm hI hL hF
            · omega
    have start : ∀ (t1 : hy_T), t1 = hy_up (hy_up (hy_up (hy_up t 59 10 0) 59 11 n) 59 15 0) 59 17 0 → hy_W sc hm_M_law 8 23 [.inr (some 59), .inl n, .inr none, .inr none] [] t1 (fun r t' => hy_F lwX t t' ∧ ml_ok t' ∧ al_Q t G r t') := by
      intro t1 ht1
      have hF1 : hy_F lwX t t1 := by rw [ht1]; exact (((hy_F.rf.up rfl).up rfl).up rfl).up rfl
      have h11 : t1 59 11 = n := by rw [ht1]; rfl
      have hC1 : az_C t1 B := by
        refine ⟨?_, by omega⟩
        rw [← hBB]
        funext p
        unfold az_B al_B
        rw [h11, show t1 65 = t 65 from funext fun j => hF1 65 j rfl]
      have hB := az_C_by hC1
      have l1 : t1 59 10 = 0 := by rw [ht1]; rfl
      have l2 : t1 59 15 = ((0 : Nat) : Int) := by rw [ht1]; rfl
      have l4 : t1 59 17 = ((0 : Nat) : Int) := by rw [ht1]; rfl
      have hrow : ∀ r, r ≠ 59 → t1 r = t r := fun r hr => by
        funext j
        rw [ht1, hy_up_ne hr, hy_up_ne hr, hy_up_ne hr, hy_up_ne hr]
      have hls : ∀ r j, mlawX r j = true → t1 r j = t r j := fun r j q => by
        rw [ht1]
        simp only [hy_up]
        rw [if_neg (fun c => by rw [c.1, c.2] at q; revert q; decide), if_neg (fun c => by rw [c.1, c.2] at q; revert q; decide), if_neg (fun c => by rw [c.1, c.2] at q; revert q; decide), if_neg (fun c => by rw [c.1, c.2] at q; revert q; decide)]
      have hI0 : al_I (al_s0 t) := ⟨(by show (0 : Int) ≤ 0 ∧ (0 : Int) ≤ 240; decide), (by show ((0 : Nat) : Int) ≤ 0; decide), (fun j _ => by show (0 : Int) ≤ 0 ∧ (0 : Int) < 13631488; decide), (by show 0 ≤ 16; decide), fun q hq => absurd hq (by show ¬ q < 0; omega)⟩
      have hcl := c_M_readsClause (sc := sc) (p := 0) (m := 0) (f := fun _ => 0) hC1 l1 l2 (fun j hj => absurd hj (by omega)) (by decide) (by decide) (fun j _ => by show (0 : Int) ≤ 0 ∧ (0 : Int) < 13631488; decide) (by omega)
      rw [l4] at hcl
      unfold al_law at hG
      cases ec : az_cl B 0 0 0 (fun _ => 0) with
      | inl e =>
        rw [ec] at hG
        rw [show az_cl B ((0 : Nat) : Int) 0 0 (fun _ => 0) = .inl e from ec] at hcl
        refine hy_aload (i := 23) rfl rfl ?_
        refine hy_cV0 (i := 24) rfl mj_M_readsClause (by decide) rfl (Nat.le_of_ble_eq_true rfl) rfl rfl rfl (hcl) (fun r1_ t1_ h1 => ?_)
        obtain ⟨hFa, rfl, hea⟩ := h1
        dsimp only [hy_st, List.cons_append, List.nil_append]
        refine hy_istore (i := 25) rfl ?_
        exact bad2 _ e _ hG.symm (hF1.tr' (hFa.w (fun r j q => by revert q; simp only [lwX, Bool.or_eq_false_iff]; exact fun q => q.1.1))) (hlw _ _ hFa hls) hea
      | inr q =>
        rw [ec] at hG
        dsimp only at hG
        rw [show az_cl B ((0 : Nat) : Int) 0 0 (fun _ => 0) = .inr q from ec] at hcl
        obtain ⟨n1, n2⟩ := al_nx_s hB hI0 (p := 0) (by decide) (by show ((0 : Nat) : Int) ≤ 0; decide) ec
        refine hy_aload (i := 23) rfl rfl ?_
        refine hy_cV0 (i := 24) rfl mj_M_readsClause (by decide) rfl (Nat.le_of_ble_eq_true rfl) rfl rfl rfl (hcl) (fun r1_ t1_ h1 => ?_)
        have hPC1 := h1
        obtain ⟨hFa, rfl, hR1⟩ := h1
        dsimp only [hy_st, List.cons_append, List.nil_append]
        refine hy_istore (i := 25) rfl ?_
        exact loop 300 (al_nx B (al_s0 t) 0 q) _ _ n1 (nxt t1 _ (al_s0 t) 0 q l4 l1 l2 (hrow 68 (by decide)) (hrow 69 (by decide)) (hrow 70 (by decide)) (hrow 71 (by decide)) hPC1) (az_C_F hFa rfl (fun _ => rfl) hC1) ((hFa 59 11 rfl).trans h11) (hF1.tr' (hFa.w (fun r j q => by revert q; simp only [lwX, Bool.or_eq_false_iff]; exact fun q => q.1.1))) (hlw _ _ hFa hls) (by show 300 ≤ (300 : Int) + q.1; omega) hG
    refine hy_iload (i := 0) rfl rfl ?_
    refine hy_const (i := 1) rfl (by decide) ?_
    refine hy_const (i := 2) rfl (by decide) ?_
    refine hy_cS3e (i := 3) rfl (by decide) mj_M_in (by decide) rfl (Nat.le_of_ble_eq_true rfl) (c_M_in) ?_
    refine hy_ib_eq (i := 4) (tt := 9) rfl (fun zc1 => ?_) (fun zc1 => ?_)
    · simp only [decide_eq_false_iff_not] at zc1; omega
    · refine hy_iload (i := 5) rfl rfl ?_
      refine hy_aload (i := 6) rfl rfl ?_
      refine hy_get (i := 7) (fk := 9) rfl rfl rfl ?_
      refine hy_ic_le (i := 8) (tt := 11) rfl (fun zc2 => ?_) (fun zc2 => ?_)
      · refine hy_aload (i := 11) rfl rfl ?_
        refine hy_const (i := 12) rfl (by decide) ?_
        refine hy_put (i := 13) (fk := 10) rfl rfl rfl rfl ?_
        refine hy_aload (i := 14) rfl rfl ?_
        refine hy_iload (i := 15) rfl rfl ?_
        refine hy_put (i := 16) (fk := 11) rfl rfl rfl rfl ?_
        refine hy_aload (i := 17) rfl rfl ?_
        refine hy_const (i := 18) rfl (by decide) ?_
        refine hy_put (i := 19) (fk := 15) rfl rfl rfl rfl ?_
        refine hy_aload (i := 20) rfl rfl ?_
        refine hy_const (i := 21) rfl (by decide) ?_
        refine hy_put (i := 22) (fk := 17) rfl rfl rfl rfl ?_
        exact start _ rfl
      · omega
  · simp only [if_neg hq]
    refine hy_iload (i := 0) rfl rfl ?_
    refine hy_const (i := 1) rfl (by decide) ?_
    refine hy_const (i := 2) rfl (by decide) ?_
    refine hy_cS3e (i := 3) rfl (by decide) mj_M_in (by decide) rfl (Nat.le_of_ble_eq_true rfl) (c_M_in) ?_
    refine hy_ib_eq (i := 4) (tt := 9) rfl (fun zc1 => ?_) (fun zc1 => ?_)
    · refine hy_const (i := 9) rfl (by decide) ?_
      refine hy_ireturn (i := 10) rfl rfl ?_
      exact ⟨hy_F.rf, hk, rfl, rfl⟩
    · refine hy_iload (i := 5) rfl rfl ?_
      refine hy_aload (i := 6) rfl rfl ?_
      refine hy_get (i := 7) (fk := 9) rfl rfl rfl ?_
      refine hy_ic_le (i := 8) (tt := 11) rfl (fun zc2 => ?_) (fun zc2 => ?_)
      · exfalso; simp only [decide_eq_true_eq] at zc1; exact hq ⟨by omega, by omega⟩
      · refine hy_const (i := 9) rfl (by decide) ?_
        refine hy_ireturn (i := 10) rfl rfl ?_
        exact ⟨hy_F.rf, hk, rfl, rfl⟩
end LL
/-! the class's draft: its arguments are never below 0; lines' ranges; what was wanting of the class -/
def da_ok (t : hy_T) : Prop := ∀ j : Nat, j < 241 → 0 ≤ t 21 j
def da_good (F : hy_T → hy_T) : Prop := ∀ t, lp_ok t → da_ok t → da_ok (F t)
theorem da_F {X : Nat → Nat → Bool} {t t1 : hy_T} (h : hy_F X t t1) (hx : ∀ j, X 21 j = false) (hd : da_ok t) : da_ok t1 := fun j hj => by
  rw [h 21 j (hx j)]
  exact hd j hj
theorem da_tp {t t1 : hy_T} (h : hy_F tpX t t1) (hd : da_ok t) : da_ok t1 := da_F h (fun _ => rfl) hd
theorem da_up {t : hy_T} {r j : Nat} {v : Int} (hr : 21 ≠ r) (hd : da_ok t) : da_ok (hy_up t r j v) := fun i hi => by
  rw [hy_up_ne hr]
  exact hd i hi
theorem da_emit {t : hy_T} (hd : da_ok t) {op arg : Int} (ha : 0 ≤ arg) : da_ok (lp_emit t op arg) := by
  unfold lp_emit
  split
  · refine da_up (by decide) ?_
    intro j hj
    simp only [hy_up]
    split
    · exact ha
    · rw [if_neg (by omega)]; exact hd j hj
  · exact hd
theorem da_lead {t : hy_T} (h : lp_ok t) (hd : da_ok t) (l : Int) : da_ok (lp_lead t l) := by
  unfold lp_lead
  split
  · intro j hj
    simp only [hy_up]
    split
    · exact h.2.1.1
    · exact hd j hj
  · exact hd
theorem da_N : ∀ (n : Nat) {t : hy_T} {c : Int}, da_ok t → da_ok (rn_N n t c).1
  | 0, t, c, h => h
  | n + 1, t, c, h => by
    simp only [rn_N]
    split
    · exact da_N n (da_tp (tp_step_F t) h)
    · exact h
theorem da_num : da_good rn_num := fun t h hd => by
  obtain ⟨a1, a2, a3⟩ := rn_N_s 5 h (Int.le_refl 0)
  have a4 := da_N 5 (c := 0) hd
  unfold rn_num rn_end
  refine da_emit ?_ a3
  split
  · exact da_tp (tp_fail_G _ _ _) a4
  · exact a4
theorem da_loop {p : Int → Bool} (hp : ∀ s, p s = true → 0 ≤ s) {F : hy_T → hy_T} (hF : rx_good F) (hD : da_good F) : ∀ n, da_good (rx_loop p F n)
  | 0 => fun t h hd => hd
  | n + 1 => fun t h hd => by
    simp only [rx_loop]
    split
    · next hc =>
      have h1 := rx_step_ok h (hp _ hc)
      exact da_loop hp hF hD n _ (lp_emit_s (hF _ h1).1 _ _).1 (da_emit (hD _ h1 (da_tp (tp_step_F t) hd)) (Int.le_refl 0))
    · exact hd
theorem da_product {F : hy_T → hy_T} (hF : rx_good F) (hD : da_good F) : da_good (rx_product F) := fun t h hd =>
  da_loop (fun s => lp_times_p) hF hD 240 _ (hF t h).1 (hD t h hd)
theorem da_sum {F : hy_T → hy_T} (hF : rx_good F) (hD : da_good F) : da_good (rx_sum F) := fun t h hd =>
  da_loop (fun s => rx_pm_p) hF hD 240 _ (hF t h).1 (hD t h hd)
theorem da_factor {S : Option (hy_T → hy_T)} (hS : ∀ F, S = some F → da_good F) : da_good (rx_factor S) := fun t h hd => by
  unfold rx_factor
  split
  · exact da_num t h hd
  · split
    · split
      · exact da_tp (tp_fail_G _ _ _) hd
      · next _ F => exact da_tp (tp_take_F _ _) (hS F rfl _ (rx_step_ok h (by omega)) (da_tp (tp_step_F t) hd))
    · split
      · exact da_tp (tp_fail_G _ _ _) hd
      · exact da_emit (da_tp (tp_step_F t) hd) (by omega)
theorem da_sumL : ∀ n, da_good (rx_sumL n)
  | 0 => da_sum (rx_product_s (rx_factor_s (fun F h => by cases h))) (da_product (rx_factor_s (fun F h => by cases h)) (da_factor (fun F h => by cases h)))
  | n + 1 => da_sum (rx_product_s (rx_factor_s (fun F h => by cases h; exact rx_sumL_s n))) (da_product (rx_factor_s (fun F h => by cases h; exact rx_sumL_s n)) (da_factor (fun F h => by cases h; exact da_sumL n)))
theorem da_bloop {sg : Int} (hs : 0 ≤ sg) {F : hy_T → hy_T} (hF : rx_good F) (hD : da_good F) : ∀ (n : Nat) (l : Int), da_good (fun t => rb_loop sg F n t l)
  | 0, l => fun t h hd => da_lead h hd l
  | n + 1, l => fun t h hd => by
    simp only [rb_loop]
    split
    · have h1 := rx_step_ok h (show 0 ≤ tp_next t by omega)
      have h2 := (lp_emit_s (lp_lead_s h1 l).1 sg 0).1
      exact da_bloop hs hF hD n _ _ (hF _ h2).1 (hD _ h2 (da_emit (da_lead h1 (da_tp (tp_step_F t) hd) l) (Int.le_refl 0)))
    · exact da_lead h hd l
theorem da_both {sg : Int} (hs : 0 ≤ sg) {F : hy_T → hy_T} (hF : rx_good F) (hD : da_good F) : da_good (rb_both sg F) := fun t h hd =>
  da_bloop hs hF hD 240 (-1) _ (hF t h).1 (hD t h hd)
theorem da_piece {S : hy_T → hy_T} (hS : rx_good S) (hDS : da_good S) {N : Option ((hy_T → hy_T) × (hy_T → hy_T))} (hN : ∀ P E, N = some (P, E) → da_good P ∧ da_good E) : da_good (rp_piece S N) := fun t h hd => by
  unfold rp_piece
  split
  · split
    · exact da_tp (tp_fail_G _ _ _) hd
    · next _ P E =>
      have h2 := rx_step_ok h (show 0 ≤ tp_next t by omega)
      have d2 := da_tp (tp_step_F t) hd
      split
      · exact da_emit ((hN P E rfl).1 _ h2 d2) (Int.le_refl 0)
      · exact da_tp (tp_take_F _ _) ((hN P E rfl).2 _ h2 d2)
  · split
    · exact da_emit (hDS _ (rx_step_ok (hS _ h).1 (show 0 ≤ tp_next (S t) by omega)) (da_tp (tp_step_F _) (hDS _ h hd))) (Int.le_refl 0)
    · exact da_tp (tp_fail_G _ _ _) (hDS _ h hd)
theorem da_lev : ∀ n, da_good (rp_lev n)
  | 0 => da_piece (rx_sumL_s 0) (da_sumL 0) (fun P E h => by cases h)
  | n + 1 => da_piece (rx_sumL_s (n + 1)) (da_sumL (n + 1)) (fun P E h => by cases h; exact ⟨da_lev n, da_both (by decide) (rb_both_s (by decide) (rp_lev_s n)) (da_both (by decide) (rp_lev_s n) (da_lev n))⟩)
theorem da_either (n : Nat) : da_good (rp_either n) := da_both (by decide) (rb_both_s (by decide) (rp_lev_s n)) (da_both (by decide) (rp_lev_s n) (da_lev n))
theorem da_amt (k : Int) : da_good (rk_amt k) := fun t h hd => by
  unfold rk_amt
  split
  · exact da_emit (da_sumL 6 t h hd) (Int.le_refl 0)
  · exact hd
theorem da_body : da_good rk_body := fun t h hd =>
  da_emit (da_tp (tp_take_F _ _) (da_either 5 _ (lp_take_s (rk_pre_s h) (s := 40) (by decide)).1 (da_tp (tp_take_F _ _) (da_up (by decide) hd)))) (Int.le_refl 0)
theorem da_clause : da_good rk_clause := fun t h hd => by
  unfold rk_clause
  split
  · next hk =>
    split
    · exact da_tp (tp_fail_G _ _ _) hd
    · have h1 := rx_step_ok h (show 0 ≤ tp_next t by omega)
      have h2 := (rk_head_s h1 (tp_next t)).1
      exact da_up (by decide) (da_body _ (rk_amt_s h2 (tp_next t)).1 (da_amt _ _ h2 (da_up (by decide) (da_up (by decide) (da_tp (tp_step_F t) hd)))))
  · exact da_tp (tp_fail_G _ _ _) hd
theorem da_cloop : ∀ n, da_good (rk_loop n)
  | 0 => fun t h hd => hd
  | n + 1 => fun t h hd => by
    simp only [rk_loop]
    split
    · have h1 := rx_step_ok h (show 0 ≤ tp_next t by omega)
      exact da_cloop n _ (rk_clause_s h1).1 (da_clause _ h1 (da_tp (tp_step_F t) hd))
    · exact hd
theorem rk_read_all {t : hy_T} (h : tp_ok t) (hd : da_ok t) (n : Int) : lp_ok (rk_read t n) ∧ hy_F lkX t (rk_read t n) ∧ da_ok (rk_read t n) := by
  have h1 := rk_init_s h n
  have d1 : da_ok (rk_init t n) := by
    unfold rk_init tp_start
    exact da_up (by decide) (da_up (by decide) (da_up (by decide) (da_up (by decide) (da_up (by decide) hd))))
  have f1 : hy_F lkX t (rk_init t n) := by
    unfold rk_init tp_start
    exact ((((hy_F.rf.up rfl).up rfl).up rfl).up rfl).up rfl
  obtain ⟨a1, a2⟩ := rk_clause_s h1
  obtain ⟨b1, b2⟩ := rk_loop_s 16 a1
  have f := tp_finish_F (rk_loop 16 (rk_clause (rk_init t n)))
  exact ⟨lp_ok_tp f b1 (tp_finish_ok b1.1), ((f1.tr' a2).tr' b2).tr' (lkX_lp (lpX_tp f)), da_tp f (da_cloop 16 _ a1 (da_clause _ h1 d1))⟩
abbrev lwcX : Nat → Nat → Bool := fun r j => lkX r j || (r == 3 && j == 1) || lawX r j
theorem lp_lawcp_F (t : hy_T) : hy_F lawX t (lp_lawcp t) := by
  intro r j q
  simp only [lawX, Bool.or_eq_false_iff, Bool.and_eq_false_iff, beq_eq_false_iff_ne] at q
  simp only [lp_lawcp, hy_up, hy_cp]
  rw [if_neg (by omega), if_neg (by omega), if_neg (by omega), if_neg (by omega), if_neg (by omega), if_neg (by omega), if_neg (by omega)]
theorem lp_lawcp_ok {t : hy_T} (h : lp_ok t) (hd : da_ok t) : lc_ok (lp_lawcp t) := by
  refine ⟨?_, ?_, fun j hj => ?_⟩
  · simp only [lp_lawcp, hy_up]
    exact h.2.1.2
  · simp only [lp_lawcp, hy_up]
    exact h.2.2
  · have e : lp_lawcp t 13 j = t 21 j := by
      simp only [lp_lawcp, hy_up, hy_cp]
      simp [hj]
    rw [e]
    exact hd j hj
theorem hz_0260 : (0 : Int) ≤ 0 ∧ (0 : Int) ≤ 260 := by decide
theorem wf_law_s {t : hy_T} (h : tp_ok t) (hd : da_ok t) (hk : lc_ok t) (n : Int) : hy_F lwcX t (wf_law t n).2 ∧ tp_ok (wf_law t n).2 ∧ da_ok (wf_law t n).2 ∧ lc_ok (wf_law t n).2 := by
  obtain ⟨a1, a2, a3⟩ := rk_read_all h hd n
  have f1 : hy_F (fun r j => lkX r j || (r == 3 && j == 1)) t (hy_up (rk_read t n) 3 1 0) := (a2.w (fun r j q => (Bool.or_eq_false_iff.mp q).1)).up rfl
  have f0 : hy_F lwcX t (hy_up (rk_read t n) 3 1 0) := f1.w (fun r j q => (Bool.or_eq_false_iff.mp q).1)
  have t1 : tp_ok (hy_up (rk_read t n) 3 1 0) := ⟨a1.1.b, hz_0260, a1.1.e, a1.1.p⟩
  have d1 : da_ok (hy_up (rk_read t n) 3 1 0) := da_up (by decide) a3
  have hl : lp_ok (hy_up (rk_read t n) 3 1 0) := ⟨t1, a1.2⟩
  have f2 := lp_lawcp_F (hy_up (rk_read t n) 3 1 0)
  unfold wf_law
  split
  · split
    · exact ⟨f0.tr' (f2.w (fun r j q => (Bool.or_eq_false_iff.mp q).2)), tp_ok_F f2 (fun _ => rfl) (fun _ => rfl) t1, da_F f2 (fun _ => rfl) d1, lp_lawcp_ok hl d1⟩
    · exact ⟨f0, t1, d1, lc_ok_same (lc_same_of f1 (fun r j q => by revert q; simp only [lawX, lkX, lpX, Bool.or_eq_true, Bool.and_eq_true, beq_iff_eq, Bool.or_eq_false_iff, Bool.and_eq_false_iff, beq_eq_false_iff_ne]; omega)) hk⟩
  · exact ⟨hy_F.rf, h, hd, hk⟩
/-- lines' ranges -/
theorem rd_colour_v (t : hy_T) : rg (rd_colour t).2 := by
  have h : ∀ t c, 0 ≤ c → (c ≤ 9 → 0 ≤ (rd_colourN 1 t c).2 ∧ (rd_colourN 1 t c).2 ≤ 99) := by
    intro t c h0 h9
    simp only [rd_colourN]
    split
    · dsimp only; omega
    · dsimp only; omega
  unfold rd_colour
  show rg (rd_colourN 2 t 0).2
  rw [show rd_colourN 2 t 0 = if 48 ≤ tp_next t ∧ tp_next t ≤ 57 then rd_colourN 1 (tp_step t) (10 * 0 + tp_next t - 48) else (t, 0) from rfl]
  split
  · have := h (tp_step t) (10 * 0 + tp_next t - 48) (by omega) (by omega)
    exact ⟨by omega, by omega⟩
  · show rg 0
    decide
theorem rd_quartersE_v (t : hy_T) (b : Int) : (rd_quartersE t b).2 = b := rfl
theorem rd_quartersN_v : ∀ (n : Nat) {t : hy_T} {b : Int}, (0 ≤ b ∧ b ≤ 15) → 0 ≤ (rd_quartersN n t b).2 ∧ (rd_quartersN n t b).2 ≤ 15
  | 0, t, b, h => h
  | n + 1, t, b, h => by
    simp only [rd_quartersN]
    split
    · next hq =>
      split
      · have := ml_bits h (q := tp_next t - 48) hq
        exact rd_quartersN_v n ⟨by omega, this.2⟩
      · exact h
    · exact h
theorem rd_quarters_v (t : hy_T) : rg (rd_quarters t).2 := by
  have := rd_quartersN_v 5 (t := t) (b := 0) (by decide)
  unfold rd_quarters
  exact ⟨by omega, by omega⟩
theorem rd_empire_v {t : hy_T} (h : tp_ok t) (a : Int) : rg (rd_empire t a).2 := by
  have := tp_next_in h
  show rg (tp_next t - 48)
  exact ⟨by omega, by omega⟩
theorem ln_ok_u {t : hy_T} {r j : Nat} {v : Int} (hv : rg v) (h : ln_ok t) : ln_ok (hy_up t r j v) := fun i hi => by
  obtain ⟨a, b, c, d⟩ := h i hi
  refine ⟨?_, ?_, ?_, ?_⟩ <;> (simp only [hy_up]; split <;> assumption)
theorem ln_tp {t t1 : hy_T} (h : hy_F tpX t t1) (hn : ln_ok t) : ln_ok t1 := ln_ok_F h (fun _ => rfl) (fun _ => rfl) (fun _ => rfl) (fun _ => rfl) hn
theorem ln_o {t : hy_T} {r j : Nat} {v : Int} (h1 : 28 ≠ r) (h2 : 29 ≠ r) (h3 : 31 ≠ r) (h4 : 32 ≠ r) (h : ln_ok t) : ln_ok (hy_up t r j v) := fun i hi => by
  rw [hy_up_ne h1, hy_up_ne h2, hy_up_ne h3, hy_up_ne h4]
  exact h i hi
theorem rd_line_n {t : hy_T} (h : tp_ok t) (hn : ln_ok t) : ln_ok (rd_line t) := by
  unfold rd_line
  split
  · split
    · obtain ⟨a1, a2, a3⟩ := rd_g2_s h
      obtain ⟨b1, b2, b3⟩ := rd_g3_s a1
      obtain ⟨c1, c2, c3⟩ := rd_g4_s b1
      obtain ⟨d1, d2, d3⟩ := rd_g5_s c1
      have n2 : ln_ok (rd_g2 t) := ln_tp (tp_take_F _ _) (ln_ok_u (rd_colour_v t) (ln_tp (rd_colour_s h).2 hn))
      have n3 : ln_ok (rd_g3 (rd_g2 t)) := ln_ok_u (rd_quarters_v _) (ln_tp (rd_quartersN_s 5 (b := 0) a1).2 n2)
      have n4 : ln_ok (rd_g4 (rd_g3 (rd_g2 t))) := ln_o (by decide) (by decide) (by decide) (by decide) (ln_tp (rd_sign_s b1).2 n3)
      have n5 : ln_ok (rd_g5 (rd_g4 (rd_g3 (rd_g2 t)))) := ln_ok_u (rd_empire_v c1 _) (ln_tp (rd_empire_s c1 (-1)).2 n4)
      exact ln_o (by decide) (by decide) (by decide) (by decide) (ln_ok_u (rd_empire_v d1 _) (ln_tp (rd_empire_s d1 _).2 n5))
    · exact ln_tp (tp_fail_G _ _ _) hn
  · exact ln_tp (tp_fail_G _ _ _) hn
theorem rd_linesN_n : ∀ (n : Nat) {t : hy_T}, tp_ok t → (0 ≤ t 27 6 ∧ t 27 6 ≤ 8) → ln_ok t → ln_ok (rd_linesN n t)
  | 0, t, h, hl, hn => hn
  | n + 1, t, h, hl, hn => by
    simp only [rd_linesN]
    split
    · have h1 := tp_step_ok h (show 0 ≤ tp_next t by omega)
      have hl1 : 0 ≤ tp_step t 27 6 ∧ tp_step t 27 6 ≤ 8 := hl
      obtain ⟨a1, a2, a3⟩ := rd_line_s h1 hl1
      exact rd_linesN_n n a1 a3 (rd_line_n h1 (ln_tp (tp_step_F t) hn))
    · exact hn
theorem rd_lines_n {t : hy_T} (h : tp_ok t) (hn : ln_ok t) (n : Int) : ln_ok (rd_lines t n) := by
  have h1 : tp_ok (hy_up (tp_start t n) 27 6 0) := tp_ok_up (tp_start_ok h n) rfl
  have n1 : ln_ok (hy_up (tp_start t n) 27 6 0) := by
    unfold tp_start
    exact ln_o (by decide) (by decide) (by decide) (by decide) (ln_o (by decide) (by decide) (by decide) (by decide) (ln_o (by decide) (by decide) (by decide) (by decide) (ln_o (by decide) (by decide) (by decide) (by decide) hn)))
  obtain ⟨a1, a2, a3⟩ := rd_line_s (t := hy_up (tp_start t n) 27 6 0) h1 hz_08
  exact ln_tp (tp_finish_F _) (rd_linesN_n 8 a1 a3 (rd_line_n h1 n1))
/-! what was wanting of the class: battle, treaties, judged -/
abbrev tyX (b : Nat) : Nat → Nat → Bool := fun r j => lnX r j || (r == 3 && j == 1) || mkX b r j
section CT
variable {sc : List Int32} {t : hy_T}
theorem c_W_battle {a b q w : Int} (hk : lc_ok t) : hy_Ct sc hm_W_battle 6 [.inr (some 2), .inl a, .inl b, .inl q, .inl w] t (fun r t' => (∃ x : Int, r = some x) ∧ hy_F fX t t') := by
  refine hy_mk_ct ok_W_battle ck_W_battle (Nat.le_of_ble_eq_true rfl) ?_
  refine hy_iload (i := 0) rfl rfl ?_
  refine hy_cS1e (i := 1) rfl (by decide) mj_W_isEmpire (by decide) rfl (Nat.le_of_ble_eq_true rfl) (c_W_isEmpire) ?_
  refine hy_ib_eq (i := 2) (tt := 16) rfl (fun zc1 => ?_) (fun zc1 => ?_)
  · refine hy_const (i := 16) rfl (by decide) ?_
    refine hy_ireturn (i := 17) rfl rfl ?_
    first | exact ⟨⟨_, rfl⟩, hy_F.rf⟩ | exact ⟨⟨_, rfl⟩, by assumption⟩
  · refine hy_iload (i := 3) rfl rfl ?_
    refine hy_cS1e (i := 4) rfl (by decide) mj_W_isEmpire (by decide) rfl (Nat.le_of_ble_eq_true rfl) (c_W_isEmpire) ?_
    refine hy_ib_eq (i := 5) (tt := 16) rfl (fun zc2 => ?_) (fun zc2 => ?_)
    · refine hy_const (i := 16) rfl (by decide) ?_
      refine hy_ireturn (i := 17) rfl rfl ?_
      first | exact ⟨⟨_, rfl⟩, hy_F.rf⟩ | exact ⟨⟨_, rfl⟩, by assumption⟩
    · refine hy_iload (i := 6) rfl rfl ?_
      refine hy_iload (i := 7) rfl rfl ?_
      refine hy_ic_eq (i := 8) (tt := 16) rfl (fun zc3 => ?_) (fun zc3 => ?_)
      · refine hy_const (i := 16) rfl (by decide) ?_
        refine hy_ireturn (i := 17) rfl rfl ?_
        first | exact ⟨⟨_, rfl⟩, hy_F.rf⟩ | exact ⟨⟨_, rfl⟩, by assumption⟩
      · refine hy_iload (i := 9) rfl rfl ?_
        refine hy_cS1e (i := 10) rfl (by decide) mj_W_isQuarter (by decide) rfl (Nat.le_of_ble_eq_true rfl) (c_W_isQuarter) ?_
        refine hy_ib_eq (i := 11) (tt := 16) rfl (fun zc4 => ?_) (fun zc4 => ?_)
        · refine hy_const (i := 16) rfl (by decide) ?_
          refine hy_ireturn (i := 17) rfl rfl ?_
          first | exact ⟨⟨_, rfl⟩, hy_F.rf⟩ | exact ⟨⟨_, rfl⟩, by assumption⟩
        · refine hy_iload (i := 12) rfl rfl ?_
          refine hy_const (i := 13) rfl (by decide) ?_
          refine hy_cS2e (i := 14) rfl (by decide) mj_W_isAmong (by decide) rfl (Nat.le_of_ble_eq_true rfl) (c_W_isAmong) ?_
          refine hy_ib_ne (i := 15) (tt := 18) rfl (fun zc5 => ?_) (fun zc5 => ?_)
          · refine hy_aload (i := 18) rfl rfl ?_
            refine hy_getr (i := 19) rfl rfl ?_
            refine hy_iload (i := 20) rfl rfl ?_
            refine hy_iload (i := 21) rfl rfl ?_
            refine hy_iload (i := 22) rfl rfl ?_
            refine hy_cV3 (i := 23) rfl mj_D_fight (by decide) rfl (Nat.le_of_ble_eq_true rfl) rfl rfl rfl (c_D_fight hk) (fun r5_ t5_ h5 => ?_)
            obtain ⟨rfl, hF5, -⟩ := h5
            dsimp only [hy_st, List.nil_append]
            refine hy_iload (i := 24) rfl rfl ?_
            by_cases zq6 : w = 0
            · refine hy_lsw (i := 25) (tt := 26) rfl (by rw [zq6]; rfl) ?_
              refine hy_aload (i := 26) rfl rfl ?_
              refine hy_getr (i := 27) rfl rfl ?_
              refine hy_cV0e (i := 28) rfl mj_D_twos (by decide) rfl (Nat.le_of_ble_eq_true rfl) rfl rfl rfl (c_D_twos) ?_
              refine hy_ireturn (i := 29) rfl rfl ?_
              first | exact ⟨⟨_, rfl⟩, hy_F.rf⟩ | exact ⟨⟨_, rfl⟩, by assumption⟩
            · skip
              by_cases zq6 : w = 1
              · refine hy_lsw (i := 25) (tt := 30) rfl (by rw [zq6]; rfl) ?_
                refine hy_aload (i := 30) rfl rfl ?_
                refine hy_getr (i := 31) rfl rfl ?_
                refine hy_cV0e (i := 32) rfl mj_D_firstOfA (by decide) rfl (Nat.le_of_ble_eq_true rfl) rfl rfl rfl (c_D_firstOfA) ?_
                refine hy_ireturn (i := 33) rfl rfl ?_
                first | exact ⟨⟨_, rfl⟩, hy_F.rf⟩ | exact ⟨⟨_, rfl⟩, by assumption⟩
              · skip
                refine hy_lsw (i := 25) (tt := 34) rfl (by simp [hx_look]; omega) ?_
                refine hy_aload (i := 34) rfl rfl ?_
                refine hy_getr (i := 35) rfl rfl ?_
                refine hy_cV0e (i := 36) rfl mj_D_firstOfB (by decide) rfl (Nat.le_of_ble_eq_true rfl) rfl rfl rfl (c_D_firstOfB) ?_
                refine hy_ireturn (i := 37) rfl rfl ?_
                first | exact ⟨⟨_, rfl⟩, hy_F.rf⟩ | exact ⟨⟨_, rfl⟩, by assumption⟩
          · refine hy_const (i := 16) rfl (by decide) ?_
            refine hy_ireturn (i := 17) rfl rfl ?_
            first | exact ⟨⟨_, rfl⟩, hy_F.rf⟩ | exact ⟨⟨_, rfl⟩, by assumption⟩
theorem c_W_treaties {n : Int} (h : tp_ok t) (hn : ln_ok t) (hs : st_ok 33 t) : hy_Ct sc hm_W_treaties 5 [.inr (some 2), .inl n] t (fun r t' => (∃ x : Int, r = some x) ∧ hy_F (tyX 33) t t' ∧ st_ok 33 t' ∧ ln_ok t' ∧ tp_ok t' ∧ t' 3 1 = if 1 ≤ n ∧ n ≤ 120 ∧ n ≤ t 3 1 then 0 else t 3 1) := by
  refine hy_mk_ct ok_W_treaties ck_W_treaties (Nat.le_of_ble_eq_true rfl) ?_
  obtain ⟨a1, a2, a3, a4⟩ := rd_lines_s h n
  have a5 := rd_lines_n h hn n
  by_cases hq : 1 ≤ n ∧ n ≤ 120 ∧ n ≤ t 3 1
  · simp only [if_pos hq]
    have loop : ∀ (m : Nat), ∀ (k : Nat) (c : Int) (t1 : hy_T) (v2 : hy_V), (m : Int) + k = t1 27 6 → (0 ≤ c ∧ c ≤ k) → hy_F (tyX 33) t t1 → st_ok 33 t1 → ln_ok t1 → tp_ok t1 → t1 27 6 ≤ 8 → t1 3 1 = 0 → hy_W sc hm_W_treaties 5 23 [.inr (some 2), .inl n, v2, .inl c, .inl (k : Int)] [] t1 (fun r t' => (∃ x : Int, r = some x) ∧ hy_F (tyX 33) t t' ∧ st_ok 33 t' ∧ ln_ok t' ∧ tp_ok t' ∧ t' 3 1 = 0) := by
      intro m
      induction m with
      | zero =>
        intro k c t1 v2 hm hc hF hs1 hn1 ht1 h8 h3
        refine hy_iload (i := 23) rfl rfl ?_
        refine hy_aload (i := 24) rfl rfl ?_
        refine hy_getr (i := 25) rfl rfl ?_
        refine hy_cV0e (i := 26) rfl mj_N_length (by decide) rfl (Nat.le_of_ble_eq_true rfl) rfl rfl rfl (c_N_length) ?_
        refine hy_ic_ge (i := 27) (tt := 37) rfl (fun zc1 => ?_) (fun zc1 => ?_)
        · refine hy_iload (i := 37) rfl rfl ?_
          refine hy_ireturn (i := 38) rfl rfl ?_
          exact ⟨⟨_, rfl⟩, hF, hs1, hn1, ht1, h3⟩
        · omega
      | succ m ih =>
        intro k c t1 v2 hm hc hF hs1 hn1 ht1 h8 h3
        obtain ⟨s2, f2⟩ := wf_make_s hs1 hn1 h8 (k : Int)
        have e27 : wf_make 33 t1 k 27 6 = t1 27 6 := f2 27 6 rfl
        have g2 := hF.tr' (f2.w (fun r j q => (Bool.or_eq_false_iff.mp q).2))
        have n2 := ln_ok_F f2 (fun _ => rfl) (fun _ => rfl) (fun _ => rfl) (fun _ => rfl) hn1
        have p2 := tp_ok_F f2 (fun _ => rfl) (fun _ => rfl) ht1
        have z2 : wf_make 33 t1 k 3 1 = 0 := (f2 3 1 rfl).trans h3
        refine hy_iload (i := 23) rfl rfl ?_
        refine hy_aload (i := 24) rfl rfl ?_
        refine hy_getr (i := 25) rfl rfl ?_
        refine hy_cV0e (i := 26) rfl mj_N_length (by decide) rfl (Nat.le_of_ble_eq_true rfl) rfl rfl rfl (c_N_length) ?_
        refine hy_ic_ge (i := 27) (tt := 37) rfl (fun zc1 => ?_) (fun zc1 => ?_)
        · omega
        · refine hy_aload (i := 28) rfl rfl ?_
          refine hy_aload (i := 29) rfl rfl ?_
          refine hy_getr (i := 30) rfl rfl ?_
          refine hy_iload (i := 31) rfl rfl ?_
          refine hy_cV2e (i := 32) rfl mj_W_isMade (by decide) rfl (Nat.le_of_ble_eq_true rfl) rfl rfl rfl (c_W_isMade_33 h8 hs1.c) ?_
          refine hy_ib_eq (i := 33) (tt := 35) rfl (fun zc2 => ?_) (fun zc2 => ?_)
          · refine hy_iinc (i := 35) rfl rfl (by omega) ?_
            refine hy_goto (i := 36) (tt := 23) rfl ?_
            exact ih (k + 1) _ _ _ (by omega) (by omega) g2 s2 n2 p2 (by omega) z2
          · refine hy_iinc (i := 34) rfl rfl (by omega) ?_
            refine hy_iinc (i := 35) rfl rfl (by omega) ?_
            refine hy_goto (i := 36) (tt := 23) rfl ?_
            exact ih (k + 1) _ _ _ (by omega) (by omega) g2 s2 n2 p2 (by omega) z2
    have ps : ∀ (t1 : hy_T), t1 = hy_up (rd_lines t n) 3 1 0 → hy_F (tyX 33) t t1 ∧ st_ok 33 t1 ∧ ln_ok t1 ∧ tp_ok t1 ∧ (0 ≤ t1 27 6 ∧ t1 27 6 ≤ 8) ∧ t1 3 1 = 0 := by
      intro t1 ht1
      have f1 : hy_F (fun r j => lnX r j || (r == 3 && j == 1)) t t1 := by rw [ht1]; exact (a2.w (fun r j q => (Bool.or_eq_false_iff.mp q).1)).up rfl
      refine ⟨f1.w (fun r j q => (Bool.or_eq_false_iff.mp q).1), ?_, ?_, ?_, ?_, by rw [ht1]; rfl⟩
      · exact ⟨by rw [f1 33 3 rfl]; exact hs.c, by rw [f1 33 4 rfl]; exact hs.d, by rw [f1 33 5 rfl]; exact hs.w, fun j hj => by rw [f1 (33 + 3) j rfl]; exact hs.t j hj⟩
      · rw [ht1]; exact ln_o (by decide) (by decide) (by decide) (by decide) a5
      · rw [ht1]; exact ⟨a1.b, hz_0260, a1.e, a1.p⟩
      · rw [ht1]; exact ⟨a3, a4⟩
    by_cases hf : rd_lines t n 3 4 = 0
    · obtain ⟨g1, g2, g3, g4, g5, g6⟩ := ps _ rfl
      refine hy_aload (i := 0) rfl rfl ?_
      refine hy_iload (i := 1) rfl rfl ?_
      refine hy_const (i := 2) rfl (by decide) ?_
      refine hy_cV2e (i := 3) rfl mj_W_isOnTape (by decide) rfl (Nat.le_of_ble_eq_true rfl) rfl rfl rfl (c_W_isOnTape) ?_
      refine hy_ib_ne (i := 4) (tt := 7) rfl (fun zc1 => ?_) (fun zc1 => ?_)
      · refine hy_aload (i := 7) rfl rfl ?_
        refine hy_getr (i := 8) rfl rfl ?_
        refine hy_iload (i := 9) rfl rfl ?_
        refine hy_cV1e (i := 10) rfl mj_N_read (by decide) rfl (Nat.le_of_ble_eq_true rfl) rfl rfl rfl (c_N_read (by assumption)) ?_
        refine hy_istore (i := 11) rfl ?_
        refine hy_aload (i := 12) rfl rfl ?_
        refine hy_getr (i := 13) rfl rfl ?_
        refine hy_cV0v (i := 14) rfl mj_T_clear (by decide) rfl (Nat.le_of_ble_eq_true rfl) rfl rfl rfl (c_T_clear) ?_
        refine hy_iload (i := 15) rfl rfl ?_
        refine hy_if_eq (i := 16) (tt := 19) rfl (fun zc2 => ?_) (fun zc2 => ?_)
        · refine hy_const (i := 19) rfl (by decide) ?_
          refine hy_istore (i := 20) rfl ?_
          refine hy_const (i := 21) rfl (by decide) ?_
          refine hy_istore (i := 22) rfl ?_
          exact loop (hy_up (rd_lines t n) 3 1 0 27 6).toNat 0 0 _ _ (by omega) (by decide) g1 g2 g3 g4 g5.2 g6
        · omega
      · simp at zc1; omega
    · obtain ⟨g1, g2, g3, g4, g5, g6⟩ := ps _ rfl
      refine hy_aload (i := 0) rfl rfl ?_
      refine hy_iload (i := 1) rfl rfl ?_
      refine hy_const (i := 2) rfl (by decide) ?_
      refine hy_cV2e (i := 3) rfl mj_W_isOnTape (by decide) rfl (Nat.le_of_ble_eq_true rfl) rfl rfl rfl (c_W_isOnTape) ?_
      refine hy_ib_ne (i := 4) (tt := 7) rfl (fun zc1 => ?_) (fun zc1 => ?_)
      · refine hy_aload (i := 7) rfl rfl ?_
        refine hy_getr (i := 8) rfl rfl ?_
        refine hy_iload (i := 9) rfl rfl ?_
        refine hy_cV1e (i := 10) rfl mj_N_read (by decide) rfl (Nat.le_of_ble_eq_true rfl) rfl rfl rfl (c_N_read (by assumption)) ?_
        refine hy_istore (i := 11) rfl ?_
        refine hy_aload (i := 12) rfl rfl ?_
        refine hy_getr (i := 13) rfl rfl ?_
        refine hy_cV0v (i := 14) rfl mj_T_clear (by decide) rfl (Nat.le_of_ble_eq_true rfl) rfl rfl rfl (c_T_clear) ?_
        refine hy_iload (i := 15) rfl rfl ?_
        refine hy_if_eq (i := 16) (tt := 19) rfl (fun zc2 => ?_) (fun zc2 => ?_)
        · omega
        · refine hy_iload (i := 17) rfl rfl ?_
          refine hy_ireturn (i := 18) rfl rfl ?_
          exact ⟨⟨_, rfl⟩, g1, g2, g3, g4, g6⟩
      · simp at zc1; omega
  · simp only [if_neg hq]
    refine hy_aload (i := 0) rfl rfl ?_
    refine hy_iload (i := 1) rfl rfl ?_
    refine hy_const (i := 2) rfl (by decide) ?_
    refine hy_cV2e (i := 3) rfl mj_W_isOnTape (by decide) rfl (Nat.le_of_ble_eq_true rfl) rfl rfl rfl (c_W_isOnTape) ?_
    refine hy_ib_ne (i := 4) (tt := 7) rfl (fun zc1 => ?_) (fun zc1 => ?_)
    · simp at zc1; omega
    · refine hy_const (i := 5) rfl (by decide) ?_
      refine hy_ireturn (i := 6) rfl rfl ?_
      exact ⟨⟨_, rfl⟩, hy_F.rf, hs, hn, h, rfl⟩
abbrev jyX : Nat → Nat → Bool := fun r j => lnX r j || (r == 3 && j == 1) || trX r j
theorem c_W_judged {n : Int} (h : tp_ok t) (hn : ln_ok t) (hs : st_ok 33 t) : hy_Ct sc hm_W_judged 5 [.inr (some 2), .inl n] t (fun r t' => (∃ x : Int, r = some x) ∧ hy_F jyX t t' ∧ ln_ok t' ∧ tp_ok t' ∧ t' 3 1 = if 1 ≤ n ∧ n ≤ 120 ∧ n ≤ t 3 1 then 0 else t 3 1) := by
  refine hy_mk_ct ok_W_judged ck_W_judged (Nat.le_of_ble_eq_true rfl) ?_
  obtain ⟨a1, a2, a3, a4⟩ := rd_lines_s h n
  have a5 := rd_lines_n h hn n
  by_cases hq : 1 ≤ n ∧ n ≤ 120 ∧ n ≤ t 3 1
  · simp only [if_pos hq]
    have loop : ∀ (m : Nat), ∀ (k : Nat) (t1 : hy_T) (v2 : hy_V), (m : Int) + k = t1 27 6 → hy_F jyX t t1 → st_ok 41 t1 → ln_ok t1 → tp_ok t1 → t1 27 6 ≤ 8 → t1 3 1 = 0 → hy_W sc hm_W_judged 5 26 [.inr (some 2), .inl n, v2, .inl (k : Int)] [] t1 (fun r t' => (∃ x : Int, r = some x) ∧ hy_F jyX t t' ∧ ln_ok t' ∧ tp_ok t' ∧ t' 3 1 = 0) := by
      intro m
      induction m with
      | zero =>
        intro k t1 v2 hm hF hs1 hn1 ht1 h8 h3
        refine hy_iload (i := 26) rfl rfl ?_
        refine hy_aload (i := 27) rfl rfl ?_
        refine hy_getr (i := 28) rfl rfl ?_
        refine hy_cV0e (i := 29) rfl mj_N_length (by decide) rfl (Nat.le_of_ble_eq_true rfl) rfl rfl rfl (c_N_length) ?_
        refine hy_ic_ge (i := 30) (tt := 39) rfl (fun zc1 => ?_) (fun zc1 => ?_)
        · refine hy_iload (i := 39) rfl rfl ?_
          refine hy_ireturn (i := 40) rfl rfl ?_
          exact ⟨⟨_, rfl⟩, hF, hn1, ht1, h3⟩
        · omega
      | succ m ih =>
        intro k t1 v2 hm hF hs1 hn1 ht1 h8 h3
        obtain ⟨s2, f2⟩ := wf_make_s hs1 hn1 h8 (k : Int)
        have e27 : wf_make 41 t1 k 27 6 = t1 27 6 := f2 27 6 rfl
        have g2 := hF.tr' (f2.w (fun r j q => by revert q; simp only [jyX, lnX, trX, mkX, Bool.or_eq_false_iff, Bool.and_eq_false_iff, beq_eq_false_iff_ne]; omega))
        have n2 := ln_ok_F f2 (fun _ => rfl) (fun _ => rfl) (fun _ => rfl) (fun _ => rfl) hn1
        have p2 := tp_ok_F f2 (fun _ => rfl) (fun _ => rfl) ht1
        have z2 : wf_make 41 t1 k 3 1 = 0 := (f2 3 1 rfl).trans h3
        refine hy_iload (i := 26) rfl rfl ?_
        refine hy_aload (i := 27) rfl rfl ?_
        refine hy_getr (i := 28) rfl rfl ?_
        refine hy_cV0e (i := 29) rfl mj_N_length (by decide) rfl (Nat.le_of_ble_eq_true rfl) rfl rfl rfl (c_N_length) ?_
        refine hy_ic_ge (i := 30) (tt := 39) rfl (fun zc1 => ?_) (fun zc1 => ?_)
        · omega
        · refine hy_aload (i := 31) rfl rfl ?_
          refine hy_aload (i := 32) rfl rfl ?_
          refine hy_getr (i := 33) rfl rfl ?_
          refine hy_iload (i := 34) rfl rfl ?_
          refine hy_cV2e (i := 35) rfl mj_W_isMade (by decide) rfl (Nat.le_of_ble_eq_true rfl) rfl rfl rfl (c_W_isMade_41 h8 hs1.c) ?_
          refine hy_ib_eq (i := 36) (tt := 39) rfl (fun zc2 => ?_) (fun zc2 => ?_)
          · refine hy_iload (i := 39) rfl rfl ?_
            refine hy_ireturn (i := 40) rfl rfl ?_
            exact ⟨⟨_, rfl⟩, g2, n2, p2, z2⟩
          · refine hy_iinc (i := 37) rfl rfl (by omega) ?_
            refine hy_goto (i := 38) (tt := 26) rfl ?_
            exact ih (k + 1) _ _ (by omega) g2 s2 n2 p2 (by omega) z2
    have ps : ∀ (t1 : hy_T), t1 = hy_up (rd_lines t n) 3 1 0 → hy_F jyX t t1 ∧ st_ok 33 t1 ∧ ln_ok t1 ∧ tp_ok t1 ∧ (0 ≤ t1 27 6 ∧ t1 27 6 ≤ 8) ∧ t1 3 1 = 0 := by
      intro t1 ht1
      have f1 : hy_F (fun r j => lnX r j || (r == 3 && j == 1)) t t1 := by rw [ht1]; exact (a2.w (fun r j q => (Bool.or_eq_false_iff.mp q).1)).up rfl
      refine ⟨f1.w (fun r j q => (Bool.or_eq_false_iff.mp q).1), ?_, ?_, ?_, ?_, by rw [ht1]; rfl⟩
      · exact ⟨by rw [f1 33 3 rfl]; exact hs.c, by rw [f1 33 4 rfl]; exact hs.d, by rw [f1 33 5 rfl]; exact hs.w, fun j hj => by rw [f1 (33 + 3) j rfl]; exact hs.t j hj⟩
      · rw [ht1]; exact ln_o (by decide) (by decide) (by decide) (by decide) a5
      · rw [ht1]; exact ⟨a1.b, hz_0260, a1.e, a1.p⟩
      · rw [ht1]; exact ⟨a3, a4⟩
    obtain ⟨g1, g2, g3, g4, g5, g6⟩ := ps _ rfl
    by_cases hf : rd_lines t n 3 4 = 0
    · have fc := sp_scopy41_F (hy_up (rd_lines t n) 3 1 0)
      have e27 : sp_scopy (hy_up (rd_lines t n) 3 1 0) 33 41 27 6 = hy_up (rd_lines t n) 3 1 0 27 6 := fc 27 6 rfl
      refine hy_aload (i := 0) rfl rfl ?_
      refine hy_iload (i := 1) rfl rfl ?_
      refine hy_const (i := 2) rfl (by decide) ?_
      refine hy_cV2e (i := 3) rfl mj_W_isOnTape (by decide) rfl (Nat.le_of_ble_eq_true rfl) rfl rfl rfl (c_W_isOnTape) ?_
      refine hy_ib_ne (i := 4) (tt := 7) rfl (fun zc1 => ?_) (fun zc1 => ?_)
      · refine hy_aload (i := 7) rfl rfl ?_
        refine hy_getr (i := 8) rfl rfl ?_
        refine hy_iload (i := 9) rfl rfl ?_
        refine hy_cV1e (i := 10) rfl mj_N_read (by decide) rfl (Nat.le_of_ble_eq_true rfl) rfl rfl rfl (c_N_read (by assumption)) ?_
        refine hy_istore (i := 11) rfl ?_
        refine hy_aload (i := 12) rfl rfl ?_
        refine hy_getr (i := 13) rfl rfl ?_
        refine hy_cV0v (i := 14) rfl mj_T_clear (by decide) rfl (Nat.le_of_ble_eq_true rfl) rfl rfl rfl (c_T_clear) ?_
        refine hy_iload (i := 15) rfl rfl ?_
        refine hy_if_eq (i := 16) (tt := 19) rfl (fun zc2 => ?_) (fun zc2 => ?_)
        · refine hy_aload (i := 19) rfl rfl ?_
          refine hy_getr (i := 20) rfl rfl ?_
          refine hy_aload (i := 21) rfl rfl ?_
          refine hy_getr (i := 22) rfl rfl ?_
          refine hy_cV1v (i := 23) rfl mj_S_copyFrom (by decide) rfl (Nat.le_of_ble_eq_true rfl) rfl rfl rfl (c_S_copyFrom_33_41) ?_
          refine hy_const (i := 24) rfl (by decide) ?_
          refine hy_istore (i := 25) rfl ?_
          exact loop (hy_up (rd_lines t n) 3 1 0 27 6).toNat 0 _ _ (by omega) (g1.tr' (fc.w (fun r j q => (Bool.or_eq_false_iff.mp q).2))) (sp_scopy41_ok g2) (ln_ok_F fc (fun _ => rfl) (fun _ => rfl) (fun _ => rfl) (fun _ => rfl) g3) (tp_ok_F fc (fun _ => rfl) (fun _ => rfl) g4) (by omega) ((fc 3 1 rfl).trans g6)
        · omega
      · simp at zc1; omega
    · skip
      refine hy_aload (i := 0) rfl rfl ?_
      refine hy_iload (i := 1) rfl rfl ?_
      refine hy_const (i := 2) rfl (by decide) ?_
      refine hy_cV2e (i := 3) rfl mj_W_isOnTape (by decide) rfl (Nat.le_of_ble_eq_true rfl) rfl rfl rfl (c_W_isOnTape) ?_
      refine hy_ib_ne (i := 4) (tt := 7) rfl (fun zc1 => ?_) (fun zc1 => ?_)
      · refine hy_aload (i := 7) rfl rfl ?_
        refine hy_getr (i := 8) rfl rfl ?_
        refine hy_iload (i := 9) rfl rfl ?_
        refine hy_cV1e (i := 10) rfl mj_N_read (by decide) rfl (Nat.le_of_ble_eq_true rfl) rfl rfl rfl (c_N_read (by assumption)) ?_
        refine hy_istore (i := 11) rfl ?_
        refine hy_aload (i := 12) rfl rfl ?_
        refine hy_getr (i := 13) rfl rfl ?_
        refine hy_cV0v (i := 14) rfl mj_T_clear (by decide) rfl (Nat.le_of_ble_eq_true rfl) rfl rfl rfl (c_T_clear) ?_
        refine hy_iload (i := 15) rfl rfl ?_
        refine hy_if_eq (i := 16) (tt := 19) rfl (fun zc2 => ?_) (fun zc2 => ?_)
        · omega
        · refine hy_iload (i := 17) rfl rfl ?_
          refine hy_ireturn (i := 18) rfl rfl ?_
          exact ⟨⟨_, rfl⟩, g1, g3, g4, g6⟩
      · simp at zc1; omega
  · simp only [if_neg hq]
    refine hy_aload (i := 0) rfl rfl ?_
    refine hy_iload (i := 1) rfl rfl ?_
    refine hy_const (i := 2) rfl (by decide) ?_
    refine hy_cV2e (i := 3) rfl mj_W_isOnTape (by decide) rfl (Nat.le_of_ble_eq_true rfl) rfl rfl rfl (c_W_isOnTape) ?_
    refine hy_ib_ne (i := 4) (tt := 7) rfl (fun zc1 => ?_) (fun zc1 => ?_)
    · simp at zc1; omega
    · refine hy_const (i := 5) rfl (by decide) ?_
      refine hy_ireturn (i := 6) rfl rfl ?_
      exact ⟨⟨_, rfl⟩, hy_F.rf, hn, h, rfl⟩
end CT
