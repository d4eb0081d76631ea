/-! the law over a script of one call -/
section LOOP
variable {sc : List Int32} {d : Nat} {t : hy_T} {Q : Option Int → hy_T → Prop}
theorem law_end {v3 : hy_V} (hQ : Q (some 1) t) : hy_W sc hm_law d 984 [.inr (some 0), .inr (some 2), .inr (some 59), v3] [] t Q := by
  refine hy_const (i := 984) (n := 1) (by decide +kernel) (by decide) ?_
  exact hy_zreturn (i := 985) (by decide +kernel) rfl (.inr rfl) hQ
theorem law_head (i : Nat) (hl : sc.length ≤ 90000 ∧ i ≤ 90000) (h1 : sc.length < i + 7 → hy_W sc hm_law d 984 [.inr (some 0), .inr (some 2), .inr (some 59), .inl (i : Int)] [] t Q) (h2 : i + 7 ≤ sc.length → hy_W sc hm_law d 16 [.inr (some 0), .inr (some 2), .inr (some 59), .inl (i : Int)] [] t Q) : hy_W sc hm_law d 10 [.inr (some 0), .inr (some 2), .inr (some 59), .inl (i : Int)] [] t Q := by
  refine hy_iload (i := 10) (k := 3) (by decide +kernel) rfl ?_
  refine hy_aload (i := 11) (k := 0) (by decide +kernel) rfl ?_
  refine hy_alen_s (p := 12) (by decide +kernel) (by omega) ?_
  refine hy_const (i := 13) (n := 7) (by decide +kernel) (by decide) ?_
  refine hy_isub (i := 14) (by decide +kernel) ⟨by omega, by omega⟩ ?_
  exact hy_ic_gt (i := 15) (tt := 984) (by decide +kernel) (fun q => h1 (by omega)) (fun q => h2 (by omega))
theorem law_next (i : Nat) (hl : i ≤ 90000) (h : hy_W sc hm_law d 10 [.inr (some 0), .inr (some 2), .inr (some 59), .inl ((i + 7 : Nat) : Int)] [] t Q) : hy_W sc hm_law d 982 [.inr (some 0), .inr (some 2), .inr (some 59), .inl (i : Int)] [] t Q := by
  refine hy_iinc (i := 982) (k := 3) (n := 7) (by decide +kernel) rfl ⟨by omega, by omega⟩ ?_
  exact hy_goto (i := 983) (tt := 10) (by decide +kernel) h
theorem law_sw (i : Nat) (hi : i + 7 ≤ sc.length ∧ sc.length ≤ 90000) (h : ∀ (x : Int) (tt : Nat), x = hz_iand (sv sc i) 31 → (if x < 0 ∨ 29 < x then tt = 982 else [22, 59, 96, 133, 190, 207, 224, 241, 258, 275, 302, 329, 366, 403, 450, 507, 574, 601, 638, 695, 752, 779, 826, 853, 880, 917, 934, 941, 948, 965][x.toNat]? = some tt) → hy_W sc hm_law d tt [.inr (some 0), .inr (some 2), .inr (some 59), .inl (i : Int)] [] t Q) : hy_W sc hm_law d 16 [.inr (some 0), .inr (some 2), .inr (some 59), .inl (i : Int)] [] t Q := by
  refine hy_aload (i := 16) (k := 0) (by decide +kernel) rfl ?_
  refine hy_iload (i := 17) (k := 3) (by decide +kernel) rfl ?_
  refine hy_iald_s (p := 18) (by decide +kernel) ⟨by omega, by omega⟩ ?_
  refine hy_const (i := 19) (n := 31) (by decide +kernel) (by decide) ?_
  refine hy_iand (i := 20) (by decide +kernel) ?_
  rw [show (i : Int).toNat = i from rfl]
  have hx : 0 ≤ hz_iand (sv sc i) 31 ∧ hz_iand (sv sc i) 31 ≤ 31 := hz_iand_le (by decide)
  have hop : (hx_ops hm_law)[21]? = some (.tableswitch 982 0 29 #[22, 59, 96, 133, 190, 207, 224, 241, 258, 275, 302, 329, 366, 403, 450, 507, 574, 601, 638, 695, 752, 779, 826, 853, 880, 917, 934, 941, 948, 965]) := by decide +kernel
  generalize hz_iand (sv sc i) 31 = x at hx h ⊢
  by_cases hb : 29 < x
  · refine hy_tsw (i := 21) (tt := 982) hop (by rw [if_pos (.inr hb)]; rfl) (h x 982 rfl (by rw [if_pos (.inr hb)]))
  · have hn : ¬ (x < 0 ∨ 29 < x) := by omega
    have key : ∀ n : Nat, n < 30 → ∃ tt : Nat, [22, 59, 96, 133, 190, 207, 224, 241, 258, 275, 302, 329, 366, 403, 450, 507, 574, 601, 638, 695, 752, 779, 826, 853, 880, 917, 934, 941, 948, 965][n]? = some tt ∧ (#[22, 59, 96, 133, 190, 207, 224, 241, 258, 275, 302, 329, 366, 403, 450, 507, 574, 601, 638, 695, 752, 779, 826, 853, 880, 917, 934, 941, 948, 965] : Array Int).toList[n]? = some (tt : Int) := by decide +kernel
    obtain ⟨tt, e1, e2⟩ := key x.toNat (by omega)
    exact hy_tsw (i := 21) (tt := tt) hop (by rw [if_neg hn, Int.sub_zero]; exact e2) (h x tt rfl (by rw [if_neg hn]; exact e1))
end LOOP
theorem law_p1 {sc : List Int32} (hl : sc.length ≤ 7) : hy_W sc hm_law 300 10 [.inr (some 0), .inr (some 2), .inr (some 59), .inl 0] [] t0 (fun r _ => r = some 1) := by
  refine law_head 0 ⟨by omega, by omega⟩ (fun _ => law_end rfl) (fun h7 => ?_)
  have hi : 0 + 7 ≤ sc.length ∧ sc.length ≤ 90000 := ⟨h7, by omega⟩
  have fin : ∀ t2 : hy_T, True → hy_W sc hm_law 300 982 [.inr (some 0), .inr (some 2), .inr (some 59), .inl ((0 : Nat) : Int)] [] t2 (fun r _ => r = some 1) := fun t2 _ =>
    law_next 0 (by decide) (law_head 7 ⟨by omega, by omega⟩ (fun _ => law_end rfl) (fun h => by omega))
  refine law_sw 0 hi (fun x tt hx htt => ?_)
  have hxr : 0 ≤ x ∧ x ≤ 31 := by rw [hx]; exact hz_iand_le (by decide)
  clear hx
  have cs : x = 0 ∨ x = 1 ∨ x = 2 ∨ x = 3 ∨ x = 4 ∨ x = 5 ∨ x = 6 ∨ x = 7 ∨ x = 8 ∨ x = 9 ∨ x = 10 ∨ x = 11 ∨ x = 12 ∨ x = 13 ∨ x = 14 ∨ x = 15 ∨ x = 16 ∨ x = 17 ∨ x = 18 ∨ x = 19 ∨ x = 20 ∨ x = 21 ∨ x = 22 ∨ x = 23 ∨ x = 24 ∨ x = 25 ∨ x = 26 ∨ x = 27 ∨ x = 28 ∨ x = 29 ∨ 29 < x := by omega
  rcases cs with rfl | rfl | rfl | rfl | rfl | rfl | rfl | rfl | rfl | rfl | rfl | rfl | rfl | rfl | rfl | rfl | rfl | rfl | rfl | rfl | rfl | rfl | rfl | rfl | rfl | rfl | rfl | rfl | rfl | rfl | hb
  · obtain rfl : tt = 22 := by simpa using htt.symm
    obtain ⟨V, h1, h2⟩ := g0 (sc := sc) (a := sv sc (0 + 1)) (b := sv sc (0 + 2)) (c := sv sc (0 + 3))
    obtain ⟨a, b⟩ := law_go h1 h2
    exact law_c0 (by decide) (by decide) hi a b fin
  · obtain rfl : tt = 59 := by simpa using htt.symm
    obtain ⟨V, h1, h2⟩ := g1 (sc := sc) (a := sv sc (0 + 1)) (b := sv sc (0 + 2)) (c := sv sc (0 + 3))
    obtain ⟨a, b⟩ := law_go h1 h2
    exact law_c1 (by decide) (by decide) hi a b fin
  · obtain rfl : tt = 96 := by simpa using htt.symm
    obtain ⟨V, h1, h2⟩ := g2 (sc := sc) (a := sv sc (0 + 1)) (b := sv sc (0 + 2)) (c := sv sc (0 + 3))
    obtain ⟨a, b⟩ := law_go h1 h2
    exact law_c2 (by decide) (by decide) hi a b fin
  · obtain rfl : tt = 133 := by simpa using htt.symm
    obtain ⟨V, h1, h2⟩ := g3 (sc := sc) (a := sv sc (0 + 1)) (b := sv sc (0 + 2)) (c := sv sc (0 + 3)) (d := sv sc (0 + 4)) (e := sv sc (0 + 5))
    obtain ⟨a, b⟩ := law_go h1 h2
    exact law_c3 (by decide) (by decide) hi a b fin
  · obtain rfl : tt = 190 := by simpa using htt.symm
    obtain ⟨V, h1, h2⟩ := g4 (sc := sc) (n := sv sc (0 + 1))
    obtain ⟨a, b⟩ := law_go h1 h2
    exact law_c4 (by decide) (by decide) hi a b fin
  · obtain rfl : tt = 207 := by simpa using htt.symm
    obtain ⟨V, h1, h2⟩ := g5 (sc := sc) (n := sv sc (0 + 1))
    obtain ⟨a, b⟩ := law_go h1 h2
    exact law_c5 (by decide) (by decide) hi a b fin
  · obtain rfl : tt = 224 := by simpa using htt.symm
    obtain ⟨V, h1, h2⟩ := g6 (sc := sc) (n := sv sc (0 + 1))
    obtain ⟨a, b⟩ := law_go h1 h2
    exact law_c6 (by decide) (by decide) hi a b fin
  · obtain rfl : tt = 241 := by simpa using htt.symm
    obtain ⟨V, h1, h2⟩ := g7 (sc := sc) (n := sv sc (0 + 1))
    obtain ⟨a, b⟩ := law_go h1 h2
    exact law_c7 (by decide) (by decide) hi a b fin
  · obtain rfl : tt = 258 := by simpa using htt.symm
    obtain ⟨V, h1, h2⟩ := g8 (sc := sc) (n := sv sc (0 + 1))
    obtain ⟨a, b⟩ := law_go h1 h2
    exact law_c8 (by decide) (by decide) hi a b fin
  · obtain rfl : tt = 275 := by simpa using htt.symm
    obtain ⟨V, h1, h2⟩ := g9 (sc := sc) (n := sv sc (0 + 1)) (w := sv sc (0 + 2))
    obtain ⟨a, b⟩ := law_go h1 h2
    exact law_c9 (by decide) (by decide) hi a b fin
  · obtain rfl : tt = 302 := by simpa using htt.symm
    obtain ⟨V, h1, h2⟩ := g10 (sc := sc) (n := sv sc (0 + 1)) (w := sv sc (0 + 2))
    obtain ⟨a, b⟩ := law_go h1 h2
    exact law_c10 (by decide) (by decide) hi a b fin
  · obtain rfl : tt = 329 := by simpa using htt.symm
    obtain ⟨V, h1, h2⟩ := g11 (sc := sc) (a := sv sc (0 + 1)) (b := sv sc (0 + 2)) (c := sv sc (0 + 3))
    obtain ⟨a, b⟩ := law_go h1 h2
    exact law_c11 (by decide) (by decide) hi a b fin
  · obtain rfl : tt = 366 := by simpa using htt.symm
    obtain ⟨V, h1, h2⟩ := g12 (sc := sc) (a := sv sc (0 + 1)) (b := sv sc (0 + 2)) (c := sv sc (0 + 3))
    obtain ⟨a, b⟩ := law_go h1 h2
    exact law_c12 (by decide) (by decide) hi a b fin
  · obtain rfl : tt = 403 := by simpa using htt.symm
    obtain ⟨V, h1, h2⟩ := g13 (sc := sc) (a := sv sc (0 + 1)) (b := sv sc (0 + 2)) (c := sv sc (0 + 3)) (d := sv sc (0 + 4))
    obtain ⟨a, b⟩ := law_go h1 h2
    exact law_c13 (by decide) (by decide) hi a b fin
  · obtain rfl : tt = 450 := by simpa using htt.symm
    obtain ⟨V, h1, h2⟩ := g14 (sc := sc) (a := sv sc (0 + 1)) (b := sv sc (0 + 2)) (c := sv sc (0 + 3)) (d := sv sc (0 + 4)) (e := sv sc (0 + 5))
    obtain ⟨a, b⟩ := law_go h1 h2
    exact law_c14 (by decide) (by decide) hi a b fin
  · obtain rfl : tt = 507 := by simpa using htt.symm
    obtain ⟨V, h1, h2⟩ := g15 (sc := sc) (a := sv sc (0 + 1)) (b := sv sc (0 + 2)) (c := sv sc (0 + 3)) (d := sv sc (0 + 4)) (e := sv sc (0 + 5)) (f := sv sc (0 + 6))
    obtain ⟨a, b⟩ := law_go h1 h2
    exact law_c15 (by decide) (by decide) hi a b fin
  · obtain rfl : tt = 574 := by simpa using htt.symm
    obtain ⟨V, h1, h2⟩ := g16 (sc := sc) (a := sv sc (0 + 1)) (b := sv sc (0 + 2))
    obtain ⟨a, b⟩ := law_go h1 h2
    exact law_c16 (by decide) (by decide) hi a b fin
  · obtain rfl : tt = 601 := by simpa using htt.symm
    obtain ⟨V, h1, h2⟩ := g17 (sc := sc) (a := sv sc (0 + 1)) (b := sv sc (0 + 2)) (c := sv sc (0 + 3))
    obtain ⟨a, b⟩ := law_go h1 h2
    exact law_c17 (by decide) (by decide) hi a b fin
  · obtain rfl : tt = 638 := by simpa using htt.symm
    obtain ⟨V, h1, h2⟩ := g18 (sc := sc) (a := sv sc (0 + 1)) (b := sv sc (0 + 2)) (c := sv sc (0 + 3)) (d := sv sc (0 + 4)) (e := sv sc (0 + 5)) (hy_Ri _)
    obtain ⟨a, b⟩ := law_go h1 h2
    exact law_c18 (by decide) (by decide) hi a b fin
  · obtain rfl : tt = 695 := by simpa using htt.symm
    obtain ⟨V, h1, h2⟩ := g19 (sc := sc) (a := sv sc (0 + 1)) (b := sv sc (0 + 2)) (c := sv sc (0 + 3)) (d := sv sc (0 + 4)) (e := sv sc (0 + 5))
    obtain ⟨a, b⟩ := law_go h1 h2
    exact law_c19 (by decide) (by decide) hi a b fin
  · obtain rfl : tt = 752 := by simpa using htt.symm
    obtain ⟨V, h1, h2⟩ := g20 (sc := sc) (a := sv sc (0 + 1)) (b := sv sc (0 + 2))
    obtain ⟨a, b⟩ := law_go h1 h2
    exact law_c20 (by decide) (by decide) hi a b fin
  · obtain rfl : tt = 779 := by simpa using htt.symm
    obtain ⟨V, h1, h2⟩ := g21 (sc := sc) (a := sv sc (0 + 1)) (b := sv sc (0 + 2)) (c := sv sc (0 + 3)) (d := sv sc (0 + 4))
    obtain ⟨a, b⟩ := law_go h1 h2
    exact law_c21 (by decide) (by decide) hi a b fin
  · obtain rfl : tt = 826 := by simpa using htt.symm
    obtain ⟨V, h1, h2⟩ := g22 (sc := sc) (a := sv sc (0 + 1)) (b := sv sc (0 + 2))
    obtain ⟨a, b⟩ := law_go h1 h2
    exact law_c22 (by decide) (by decide) hi a b fin
  · obtain rfl : tt = 853 := by simpa using htt.symm
    obtain ⟨V, h1, h2⟩ := g23 (sc := sc) (a := sv sc (0 + 1)) (b := sv sc (0 + 2)) (hy_Ri _)
    obtain ⟨a, b⟩ := law_go h1 h2
    exact law_c23 (by decide) (by decide) hi a b fin
  · obtain rfl : tt = 880 := by simpa using htt.symm
    obtain ⟨V, h1, h2⟩ := g24 (sc := sc) (a := sv sc (0 + 1)) (b := sv sc (0 + 2)) (c := sv sc (0 + 3))
    obtain ⟨a, b⟩ := law_go h1 h2
    exact law_c24 (by decide) (by decide) hi a b fin
  · obtain rfl : tt = 917 := by simpa using htt.symm
    obtain ⟨V, h1, h2⟩ := g25 (sc := sc) (a := sv sc (0 + 1))
    obtain ⟨a, b⟩ := law_go h1 h2
    exact law_c25 (by decide) (by decide) hi a b fin
  · obtain rfl : tt = 934 := by simpa using htt.symm
    obtain ⟨V, h1, h2⟩ := g26 (sc := sc)
    obtain ⟨a, b⟩ := law_go h1 h2
    exact law_c26 (by decide) (by decide) hi a b fin
  · obtain rfl : tt = 941 := by simpa using htt.symm
    obtain ⟨V, h1, h2⟩ := g27 (sc := sc)
    obtain ⟨a, b⟩ := law_go h1 h2
    exact law_c27 (by decide) (by decide) hi a b fin
  · obtain rfl : tt = 948 := by simpa using htt.symm
    obtain ⟨V, h1, h2⟩ := g28 (sc := sc) (n := sv sc (0 + 1))
    obtain ⟨a, b⟩ := law_go h1 h2
    exact law_c28 (by decide) (by decide) hi a b fin
  · obtain rfl : tt = 965 := by simpa using htt.symm
    obtain ⟨V, h1, h2⟩ := g29 (sc := sc) (w := sv sc (0 + 1)) (hy_Ri _)
    obtain ⟨a, b⟩ := law_go h1 h2
    exact law_c29 (by decide) (by decide) hi a b fin
  · obtain rfl : tt = 982 := by rw [if_pos (.inr hb)] at htt; exact htt
    exact fin _ trivial
