/-! the relation of p27: none -/
abbrev p27_Y : Nat → Nat → Bool := fun _ _ => false
def p27_rel (_ : hy_T) : Prop := True
theorem p27_relF (t t1 : hy_T) (_ : p27_rel t) (_ : ∀ r j, p27_Y r j = true → t1 r j = t r j) : p27_rel t1 := trivial
theorem k25e {sc : List Int32} {t : hy_T} {a : Int} (k : cK t) : hy_Ct sc hm_W_seed 1 [.inr (some 2), .inl a] t (fun r t' => cQ (fun r j => r == 33 && j == 5) t r t' ∧ r = some (hy_b (wf_seed a))) := c_W_seed.mono (fun r t' q => by
  obtain ⟨rfl, rfl⟩ := q
  have F : hy_F (fun r j => r == 33 && j == 5) t (if wf_seed a = true then hy_up t 33 5 a else t) := by
    split
    · exact hy_F.rf.up rfl
    · exact hy_F.rf
  have s1 : st_ok 33 (if wf_seed a = true then hy_up t 33 5 a else t) := by
    split
    · next h => exact ⟨k.s1.c, k.s1.d, of_decide_eq_true h, k.s1.t⟩
    · exact k.s1
  exact ⟨⟨⟨_, rfl⟩, cK_st1 F (fun r j q => by revert q; simp only [ckT, lawX, ckN, ckS, ckP, Bool.or_eq_true, Bool.and_eq_true, beq_iff_eq, Bool.and_eq_false_iff, beq_eq_false_iff_ne]; omega) s1 k, F⟩, rfl⟩)
theorem m25e {sc : List Int32} {t : hy_T} {a : Int} (k : mK t) : hy_Ct sc hm_M_seed 1 [.inr (some 59), .inl a] t (fun r t' => mQ (fun r j => r == 59 && j == 1) t r t' ∧ r = some (hy_b (wf_seed a))) := c_M_seed.mono (fun r t' q => by
  obtain ⟨rfl, rfl⟩ := q
  refine ⟨⟨⟨_, rfl⟩, ?_⟩, rfl⟩
  have F : hy_F (fun r j => r == 59 && j == 1) t (hy_up t 59 1 a) := hy_F.rf.up rfl
  split
  · next h =>
    have tr : tr_ok (hy_up t 59 1 a) := ⟨k.tr.1, k.tr.2.1, of_decide_eq_true h, fun i hi => k.tr.2.2.2 i hi⟩
    exact ⟨⟨⟨ml_ok_F F (fun r j q => by revert q; simp only [mlawX, Bool.or_eq_true, Bool.and_eq_true, beq_iff_eq, Bool.and_eq_false_iff, beq_eq_false_iff_ne]; omega) k.ml, mk_p2 F (fun r j q => by revert q; simp only [mrP, Bool.or_eq_true, beq_iff_eq, Bool.and_eq_false_iff, beq_eq_false_iff_ne]; omega) k.p2⟩, ⟨mk_mg F (fun _ => rfl) k.mg, mk_nl F (fun _ => rfl) k.nl⟩, ⟨tr, mk_kp F (fun r j q => by revert q; simp only [mrK, Bool.or_eq_true, Bool.and_eq_true, beq_iff_eq, Bool.and_eq_false_iff, beq_eq_false_iff_ne]; omega) k.kp⟩, k.mt⟩, F⟩
  · exact ⟨k, hy_F.rf⟩)

theorem p27_0 : ci_I p27_rel t0 := ⟨cK_0, mK_0, trivial⟩
set_option maxHeartbeats 1000000 in
theorem law_p27 {sc : List Int32} (hl : sc.length ≤ 3584) : hy_W sc hm_law 300 10 [.inr (some 0), .inr (some 2), .inr (some 59), .inl 0] [] t0 (fun r _ => r = some 1) := by
  have main : ∀ (n i : Nat) (t : hy_T), sc.length ≤ n + i → i ≤ 90000 → ci_I p27_rel t → hy_W sc hm_law 300 10 [.inr (some 0), .inr (some 2), .inr (some 59), .inl (i : Int)] [] t (fun r _ => r = some 1) := by
    intro n
    induction n with
    | zero =>
      intro i t hn hi h
      exact law_head i ⟨by omega, hi⟩ (fun _ => law_end rfl) (fun h7 => by omega)
    | succ n ih =>
      intro i t hn hi0 h
      refine law_head i ⟨by omega, hi0⟩ (fun _ => law_end rfl) (fun h7 => ?_)
      have hi : i + 7 ≤ sc.length ∧ sc.length ≤ 90000 := ⟨h7, by omega⟩
      have fin : ∀ t2 : hy_T, ci_I p27_rel t2 → hy_W sc hm_law 300 982 [.inr (some 0), .inr (some 2), .inr (some 59), .inl (i : Int)] [] t2 (fun r _ => r = some 1) := fun t2 h2 =>
        law_next i hi0 (ih (i + 7) t2 (by omega) (by omega) h2)
      refine law_sw i hi (fun x tt hx htt => ?_)
      have hxr : 0 ≤ x ∧ x ≤ 31 := by rw [hx]; exact hz_iand_le (by decide)
      clear hx
      have cs : x = 0 ∨ x = 1 ∨ x = 2 ∨ x = 3 ∨ x = 4 ∨ x = 5 ∨ x = 6 ∨ x = 7 ∨ x = 8 ∨ x = 9 ∨ x = 10 ∨ x = 11 ∨ x = 12 ∨ x = 13 ∨ x = 14 ∨ x = 15 ∨ x = 16 ∨ x = 17 ∨ x = 18 ∨ x = 19 ∨ x = 20 ∨ x = 21 ∨ x = 22 ∨ x = 23 ∨ x = 24 ∨ x = 25 ∨ x = 26 ∨ x = 27 ∨ x = 28 ∨ x = 29 ∨ 29 < x := by omega
      rcases cs with rfl | rfl | rfl | rfl | rfl | rfl | rfl | rfl | rfl | rfl | rfl | rfl | rfl | rfl | rfl | rfl | rfl | rfl | rfl | rfl | rfl | rfl | rfl | rfl | rfl | rfl | rfl | rfl | rfl | rfl | hb
      · obtain rfl : tt = 22 := by simpa using htt.symm
        obtain ⟨a, b⟩ := pop p27_relF h (k0 (sc := sc) (a := sv sc (i + 1)) (b := sv sc (i + 2)) (c := sv sc (i + 3)) h.1) (fun t1 K => (m0 (sc := sc) (a := sv sc (i + 1)) (b := sv sc (i + 2)) (c := sv sc (i + 3)) K)) sw0 sm0 (fun _ _ q => Bool.noConfusion (show false = true from q)) (fun _ _ q => Bool.noConfusion (show false = true from q))
        exact law_c0 (by decide) (by decide) hi a b fin
      · obtain rfl : tt = 59 := by simpa using htt.symm
        obtain ⟨a, b⟩ := pop p27_relF h (k1 (sc := sc) (a := sv sc (i + 1)) (b := sv sc (i + 2)) (c := sv sc (i + 3)) h.1) (fun t1 K => (m1 (sc := sc) (a := sv sc (i + 1)) (b := sv sc (i + 2)) (c := sv sc (i + 3)) K)) sw1 sm1 (fun _ _ q => Bool.noConfusion (show false = true from q)) (fun _ _ q => Bool.noConfusion (show false = true from q))
        exact law_c1 (by decide) (by decide) hi a b fin
      · obtain rfl : tt = 96 := by simpa using htt.symm
        obtain ⟨a, b⟩ := pop p27_relF h (k2 (sc := sc) (a := sv sc (i + 1)) (b := sv sc (i + 2)) (c := sv sc (i + 3)) h.1) (fun t1 K => (m2 (sc := sc) (a := sv sc (i + 1)) (b := sv sc (i + 2)) (c := sv sc (i + 3)) K)) sw2 sm2 (fun _ _ q => Bool.noConfusion (show false = true from q)) (fun _ _ q => Bool.noConfusion (show false = true from q))
        exact law_c2 (by decide) (by decide) hi a b fin
      · obtain rfl : tt = 133 := by simpa using htt.symm
        obtain ⟨a, b⟩ := pop p27_relF h ((k3 (sc := sc) (a := sv sc (i + 1)) (b := sv sc (i + 2)) (c := sv sc (i + 3)) (d := sv sc (i + 4)) (e := sv sc (i + 5)) h.1).mono (fun _ _ q => q.1)) (fun t1 K => ((m3 (sc := sc) (a := sv sc (i + 1)) (b := sv sc (i + 2)) (c := sv sc (i + 3)) (d := sv sc (i + 4)) (e := sv sc (i + 5)) K).mono (fun _ _ q => q.1))) sw3 sm3 (fun _ _ q => Bool.noConfusion (show false = true from q)) (fun _ _ q => Bool.noConfusion (show false = true from q))
        exact law_c3 (by decide) (by decide) hi a b fin
      · obtain rfl : tt = 190 := by simpa using htt.symm
        obtain ⟨a, b⟩ := pop p27_relF h ((k4 (sc := sc) (n := sv sc (i + 1)) h.1).mono (fun _ _ q => q.1)) (fun t1 K => ((m4 (sc := sc) (n := sv sc (i + 1)) K).mono (fun _ _ q => q.1))) sw4 sm4 (fun _ _ q => Bool.noConfusion (show false = true from q)) (fun _ _ q => Bool.noConfusion (show false = true from q))
        exact law_c4 (by decide) (by decide) hi a b fin
      · obtain rfl : tt = 207 := by simpa using htt.symm
        obtain ⟨a, b⟩ := pop p27_relF h ((k5 (sc := sc) (n := sv sc (i + 1)) h.1).mono (fun _ _ q => q.1)) (fun t1 K => ((m5 (sc := sc) (n := sv sc (i + 1)) K).mono (fun _ _ q => q.1))) sw5 sm5 (fun _ _ q => Bool.noConfusion (show false = true from q)) (fun _ _ q => Bool.noConfusion (show false = true from q))
        exact law_c5 (by decide) (by decide) hi a b fin
      · obtain rfl : tt = 224 := by simpa using htt.symm
        obtain ⟨a, b⟩ := pop p27_relF h ((k6 (sc := sc) (n := sv sc (i + 1)) h.1).mono (fun _ _ q => q.1)) (fun t1 K => ((m6 (sc := sc) (n := sv sc (i + 1)) K).mono (fun _ _ q => q.1))) sw6 sm6 (fun _ _ q => Bool.noConfusion (show false = true from q)) (fun _ _ q => Bool.noConfusion (show false = true from q))
        exact law_c6 (by decide) (by decide) hi a b fin
      · obtain rfl : tt = 241 := by simpa using htt.symm
        obtain ⟨a, b⟩ := pop p27_relF h ((k7 (sc := sc) (n := sv sc (i + 1)) h.1).mono (fun _ _ q => q.1)) (fun t1 K => ((m7 (sc := sc) (n := sv sc (i + 1)) K).mono (fun _ _ q => q.1))) sw7 sm7 (fun _ _ q => Bool.noConfusion (show false = true from q)) (fun _ _ q => Bool.noConfusion (show false = true from q))
        exact law_c7 (by decide) (by decide) hi a b fin
      · obtain rfl : tt = 258 := by simpa using htt.symm
        obtain ⟨a, b⟩ := pop p27_relF h (k8 (sc := sc) (n := sv sc (i + 1)) h.1) (fun t1 K => (m8 (sc := sc) (n := sv sc (i + 1)) K)) sw8 sm8 (fun _ _ q => Bool.noConfusion (show false = true from q)) (fun _ _ q => Bool.noConfusion (show false = true from q))
        exact law_c8 (by decide) (by decide) hi a b fin
      · obtain rfl : tt = 275 := by simpa using htt.symm
        obtain ⟨a, b⟩ := pop p27_relF h (k9 (sc := sc) (n := sv sc (i + 1)) (w := sv sc (i + 2)) h.1) (fun t1 K => (m9 (sc := sc) (n := sv sc (i + 1)) (w := sv sc (i + 2)) K)) sw9 sm9 (fun _ _ q => Bool.noConfusion (show false = true from q)) (fun _ _ q => Bool.noConfusion (show false = true from q))
        exact law_c9 (by decide) (by decide) hi a b fin
      · obtain rfl : tt = 302 := by simpa using htt.symm
        obtain ⟨a, b⟩ := pop p27_relF h (k10 (sc := sc) (n := sv sc (i + 1)) (w := sv sc (i + 2)) h.1) (fun t1 K => (m10 (sc := sc) (n := sv sc (i + 1)) (w := sv sc (i + 2)) K)) sw10 sm10 (fun _ _ _ => rfl) (fun _ _ _ => rfl)
        exact law_c10 (by decide) (by decide) hi a b fin
      · obtain rfl : tt = 329 := by simpa using htt.symm
        obtain ⟨a, b⟩ := pop p27_relF h (k11 (sc := sc) (a := sv sc (i + 1)) (b := sv sc (i + 2)) (c := sv sc (i + 3)) h.1) (fun t1 K => (m11 (sc := sc) (a := sv sc (i + 1)) (b := sv sc (i + 2)) (c := sv sc (i + 3)) K)) sw11 sm11 (fun _ _ q => Bool.noConfusion (show false = true from q)) (fun _ _ q => Bool.noConfusion (show false = true from q))
        exact law_c11 (by decide) (by decide) hi a b fin
      · obtain rfl : tt = 366 := by simpa using htt.symm
        obtain ⟨a, b⟩ := pop p27_relF h (k12 (sc := sc) (a := sv sc (i + 1)) (b := sv sc (i + 2)) (c := sv sc (i + 3)) h.1) (fun t1 K => (m12 (sc := sc) (a := sv sc (i + 1)) (b := sv sc (i + 2)) (c := sv sc (i + 3)) K)) sw12 sm12 (fun _ _ q => Bool.noConfusion (show false = true from q)) (fun _ _ q => Bool.noConfusion (show false = true from q))
        exact law_c12 (by decide) (by decide) hi a b fin
      · obtain rfl : tt = 403 := by simpa using htt.symm
        obtain ⟨a, b⟩ := pop p27_relF h (k13 (sc := sc) (a := sv sc (i + 1)) (b := sv sc (i + 2)) (c := sv sc (i + 3)) (d := sv sc (i + 4)) h.1) (fun t1 K => (m13 (sc := sc) (a := sv sc (i + 1)) (b := sv sc (i + 2)) (c := sv sc (i + 3)) (d := sv sc (i + 4)) K)) sw13 sm13 (fun _ _ q => Bool.noConfusion (show false = true from q)) (fun _ _ q => Bool.noConfusion (show false = true from q))
        exact law_c13 (by decide) (by decide) hi a b fin
      · obtain rfl : tt = 450 := by simpa using htt.symm
        obtain ⟨a, b⟩ := pop p27_relF h (k14 (sc := sc) (a := sv sc (i + 1)) (b := sv sc (i + 2)) (c := sv sc (i + 3)) (d := sv sc (i + 4)) (e := sv sc (i + 5)) h.1) (fun t1 K => (m14 (sc := sc) (a := sv sc (i + 1)) (b := sv sc (i + 2)) (c := sv sc (i + 3)) (d := sv sc (i + 4)) (e := sv sc (i + 5)) K)) sw14 sm14 (fun _ _ q => Bool.noConfusion (show false = true from q)) (fun _ _ q => Bool.noConfusion (show false = true from q))
        exact law_c14 (by decide) (by decide) hi a b fin
      · obtain rfl : tt = 507 := by simpa using htt.symm
        obtain ⟨a, b⟩ := pop p27_relF h (k15 (sc := sc) (a := sv sc (i + 1)) (b := sv sc (i + 2)) (c := sv sc (i + 3)) (d := sv sc (i + 4)) (e := sv sc (i + 5)) (f := sv sc (i + 6)) h.1) (fun t1 K => (m15 (sc := sc) (a := sv sc (i + 1)) (b := sv sc (i + 2)) (c := sv sc (i + 3)) (d := sv sc (i + 4)) (e := sv sc (i + 5)) (f := sv sc (i + 6)) K)) sw15 sm15 (fun _ _ q => Bool.noConfusion (show false = true from q)) (fun _ _ q => Bool.noConfusion (show false = true from q))
        exact law_c15 (by decide) (by decide) hi a b fin
      · obtain rfl : tt = 574 := by simpa using htt.symm
        obtain ⟨a, b⟩ := pop p27_relF h (k16 (sc := sc) (a := sv sc (i + 1)) (b := sv sc (i + 2)) h.1) (fun t1 K => (m16 (sc := sc) (a := sv sc (i + 1)) (b := sv sc (i + 2)) K)) sw16 sm16 (fun _ _ q => Bool.noConfusion (show false = true from q)) (fun _ _ q => Bool.noConfusion (show false = true from q))
        exact law_c16 (by decide) (by decide) hi a b fin
      · obtain rfl : tt = 601 := by simpa using htt.symm
        obtain ⟨a, b⟩ := pop p27_relF h (k17 (sc := sc) (a := sv sc (i + 1)) (b := sv sc (i + 2)) (c := sv sc (i + 3)) h.1) (fun t1 K => (m17 (sc := sc) (a := sv sc (i + 1)) (b := sv sc (i + 2)) (c := sv sc (i + 3)) K)) sw17 sm17 (fun _ _ q => Bool.noConfusion (show false = true from q)) (fun _ _ q => Bool.noConfusion (show false = true from q))
        exact law_c17 (by decide) (by decide) hi a b fin
      · obtain rfl : tt = 638 := by simpa using htt.symm
        obtain ⟨a, b⟩ := pop p27_relF h (k18 (sc := sc) (a := sv sc (i + 1)) (b := sv sc (i + 2)) (c := sv sc (i + 3)) (d := sv sc (i + 4)) (e := sv sc (i + 5)) h.1) (fun t1 K => (m18 (sc := sc) (a := sv sc (i + 1)) (b := sv sc (i + 2)) (c := sv sc (i + 3)) (d := sv sc (i + 4)) (e := sv sc (i + 5)) K)) sw18 sm18 (fun _ _ q => Bool.noConfusion (show false = true from q)) (fun _ _ q => Bool.noConfusion (show false = true from q))
        exact law_c18 (by decide) (by decide) hi a b fin
      · obtain rfl : tt = 695 := by simpa using htt.symm
        obtain ⟨a, b⟩ := pop p27_relF h (k19 (sc := sc) (a := sv sc (i + 1)) (b := sv sc (i + 2)) (c := sv sc (i + 3)) (d := sv sc (i + 4)) (e := sv sc (i + 5)) h.1) (fun t1 K => (m19 (sc := sc) (a := sv sc (i + 1)) (b := sv sc (i + 2)) (c := sv sc (i + 3)) (d := sv sc (i + 4)) (e := sv sc (i + 5)) K)) sw19 sm19 (fun _ _ q => Bool.noConfusion (show false = true from q)) (fun _ _ q => Bool.noConfusion (show false = true from q))
        exact law_c19 (by decide) (by decide) hi a b fin
      · obtain rfl : tt = 752 := by simpa using htt.symm
        obtain ⟨a, b⟩ := pop p27_relF h ((k20 (sc := sc) (m := sv sc (i + 1)) (w := sv sc (i + 2)) h.1).mono (fun _ _ q => q.1)) (fun t1 K => ((m20 (sc := sc) (m := sv sc (i + 1)) (w := sv sc (i + 2)) K).mono (fun _ _ q => q.1))) sw20 sm20 (fun _ _ q => Bool.noConfusion (show false = true from q)) (fun _ _ q => Bool.noConfusion (show false = true from q))
        exact law_c20 (by decide) (by decide) hi a b fin
      · obtain rfl : tt = 779 := by simpa using htt.symm
        obtain ⟨a, b⟩ := pop p27_relF h (k21 (sc := sc) (a := sv sc (i + 1)) (b := sv sc (i + 2)) (c := sv sc (i + 3)) (d := sv sc (i + 4)) h.1) (fun t1 K => (m21 (sc := sc) (a := sv sc (i + 1)) (b := sv sc (i + 2)) (c := sv sc (i + 3)) (d := sv sc (i + 4)) K)) sw21 sm21 (fun _ _ q => Bool.noConfusion (show false = true from q)) (fun _ _ q => Bool.noConfusion (show false = true from q))
        exact law_c21 (by decide) (by decide) hi a b fin
      · obtain rfl : tt = 826 := by simpa using htt.symm
        obtain ⟨a, b⟩ := pop p27_relF h ((k22 (sc := sc) (n := sv sc (i + 1)) (w := sv sc (i + 2)) h.1).mono (fun _ _ q => q.1)) (fun t1 K => ((m22 (sc := sc) (n := sv sc (i + 1)) (w := sv sc (i + 2)) K).mono (fun _ _ q => q.1))) sw22 sm22 (fun _ _ q => Bool.noConfusion (show false = true from q)) (fun _ _ q => Bool.noConfusion (show false = true from q))
        exact law_c22 (by decide) (by decide) hi a b fin
      · obtain rfl : tt = 853 := by simpa using htt.symm
        obtain ⟨a, b⟩ := pop p27_relF h (k23 (sc := sc) (a := sv sc (i + 1)) (b := sv sc (i + 2)) h.1) (fun t1 K => (m23 (sc := sc) (a := sv sc (i + 1)) (b := sv sc (i + 2)) K)) sw23 sm23 (fun _ _ q => Bool.noConfusion (show false = true from q)) (fun _ _ q => Bool.noConfusion (show false = true from q))
        exact law_c23 (by decide) (by decide) hi a b fin
      · obtain rfl : tt = 880 := by simpa using htt.symm
        obtain ⟨a, b⟩ := pop p27_relF h (k24 (sc := sc) (a := sv sc (i + 1)) (b := sv sc (i + 2)) (c := sv sc (i + 3)) h.1) (fun t1 K => (m24 (sc := sc) (a := sv sc (i + 1)) (b := sv sc (i + 2)) (c := sv sc (i + 3)) K)) sw24 sm24 (fun _ _ q => Bool.noConfusion (show false = true from q)) (fun _ _ q => Bool.noConfusion (show false = true from q))
        exact law_c24 (by decide) (by decide) hi a b fin
      · obtain rfl : tt = 917 := by simpa using htt.symm
        obtain ⟨a, b⟩ := twoE h (k25e (sc := sc) (a := sv sc (i + 1)) h.1) (fun t1 K => m25e (sc := sc) (a := sv sc (i + 1)) K) sw25 sm25 (fun r1 t1 r2 t2 _ _ _ q1 q2 => ⟨q2.trans q1.symm, trivial⟩)
        exact law_c25 (by decide) (by decide) hi a b fin
      · obtain rfl : tt = 934 := by simpa using htt.symm
        obtain ⟨a, b⟩ := pop p27_relF h ((k26 (sc := sc) h.1).mono (fun _ _ q => q.1)) (fun t1 K => ((m26 (sc := sc) K).mono (fun _ _ q => q.1))) sw26 sm26 (fun _ _ q => Bool.noConfusion (show false = true from q)) (fun _ _ q => Bool.noConfusion (show false = true from q))
        exact law_c26 (by decide) (by decide) hi a b fin
      · obtain rfl : tt = 941 := by simpa using htt.symm
        obtain ⟨a, b⟩ := pop p27_relF h ((k27 (sc := sc) h.1).mono (fun _ _ q => q.1)) (fun t1 K => ((m27 (sc := sc) K).mono (fun _ _ q => q.1))) sw27 sm27 (fun _ _ q => Bool.noConfusion (show false = true from q)) (fun _ _ q => Bool.noConfusion (show false = true from q))
        exact law_c27 (by decide) (by decide) hi a b fin
      · obtain rfl : tt = 948 := by simpa using htt.symm
        obtain ⟨a, b⟩ := pop p27_relF h ((k28 (sc := sc) (n := sv sc (i + 1)) h.1).mono (fun _ _ q => q.1)) (fun t1 K => ((m28 (sc := sc) (n := sv sc (i + 1)) K).mono (fun _ _ q => q.1))) sw28 sm28 (fun _ _ q => Bool.noConfusion (show false = true from q)) (fun _ _ q => Bool.noConfusion (show false = true from q))
        exact law_c28 (by decide) (by decide) hi a b fin
      · obtain rfl : tt = 965 := by simpa using htt.symm
        obtain ⟨a, b⟩ := pop p27_relF h ((k29 (sc := sc) (w := sv sc (i + 1)) (hy_Ri _) h.1).mono (fun _ _ q => q.1)) (fun t1 K => ((m29 (sc := sc) (w := sv sc (i + 1)) K).mono (fun _ _ q => q.1))) sw29 sm29 (fun _ _ _ => rfl) (fun _ _ _ => rfl)
        exact law_c29 (by decide) (by decide) hi a b fin
      · obtain rfl : tt = 982 := by rw [if_pos (.inr hb)] at htt; exact htt
        exact fin t h
  exact main sc.length 0 t0 (by omega) (by omega) p27_0
