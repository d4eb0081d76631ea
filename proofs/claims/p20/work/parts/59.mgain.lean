/-! the model: set aside and put back, gain, power -/
theorem hz_rem_t {x y : Int} (hx : hy_R x) (hy : hy_R y) (h0 : y ≠ 0) : hz_rem x y = x.tmod y := by
  have e : Int32.ofInt x / Int32.ofInt y = Int32.ofInt (x.tdiv y) := by
    rw [← Int32.toInt_inj, Int32.toInt_div, hy_ti hx, hy_ti hy, Int32.toInt_ofInt]
  have hr : hy_R (x.tmod y) := by
    have h1 := Int.natAbs_tmod x y
    have h2 : x.natAbs % y.natAbs < y.natAbs := Nat.mod_lt _ (by omega)
    unfold hy_R at *
    omega
  unfold hz_rem
  rw [e, ← Int32.ofInt_mul, ← Int32.ofInt_sub, show x - x.tdiv y * y = x.tmod y by rw [Int.tmod_def, Int.mul_comm]]
  exact hy_ti hr
theorem hz_rem_lt {x y : Int} (hx : hy_R x) (hy : hy_R y) (h0 : y ≠ 0) : (hz_rem x y).natAbs < y.natAbs := by
  rw [hz_rem_t hx hy h0, Int.natAbs_tmod]
  exact Nat.mod_lt _ (by omega)
def mg_gcdN : Nat → Int → Int → Int
  | 0, x, _ => x
  | n + 1, x, y => if y = 0 then x else mg_gcdN n y (hz_rem x y)
def mg_gcd (a b : Int) : Int := mg_gcdN (b.natAbs + 1) (if a < 0 then w32 (-a) else a) b
theorem mg_gcdN_ne : ∀ (n : Nat) (x y : Int), (x ≠ 0 ∨ y ≠ 0) → hy_R x → hy_R y → y.natAbs < n → mg_gcdN n x y ≠ 0
  | 0, x, y, _, _, _, h => absurd h (by omega)
  | n + 1, x, y, h, hx, hy, hn => by
    simp only [mg_gcdN]
    by_cases h0 : y = 0
    · rw [if_pos h0]; omega
    · rw [if_neg h0]
      have := hz_rem_lt hx hy h0
      exact mg_gcdN_ne n y _ (.inl h0) hy (hy_Ri _) (by omega)
theorem mg_gcd_ne {a b : Int} (ha : hy_R a) (hb : hy_R b) (h0 : b ≠ 0) : mg_gcd a b ≠ 0 := by
  unfold mg_gcd
  refine mg_gcdN_ne _ _ _ (.inr h0) ?_ hb (by omega)
  split
  · exact w32_R _
  · exact ha
def mw_ordL (n : Int) : Nat → Int → Int → Int
  | 0, v, _ => v
  | m + 1, v, k => if n < k then v else mw_ordL n m (w32 (v * k)) (k + 1)
def mw_ord (n : Int) : Int := mw_ordL n 12 1 2
theorem mw_ord_ne : ∀ n : Nat, n < 13 → mw_ord n ≠ 0 := by decide +kernel
/-- what is set aside -/
def as_of (t t1 : hy_T) : Prop := (∀ j : Nat, j < 48 → t1 91 j = t 62 j) ∧ (∀ k : Nat, k < 16 → ∀ i : Nat, i < 6 → t1 92 (6 * k + i) = t (85 + i) k) ∧ t1 59 51 = t 59 34 ∧ t1 59 52 = t 59 2 ∧ t1 59 53 = t 59 1
abbrev mfaX : Nat → Nat → Bool := fun r j => r == 91 || r == 92 || (r == 59 && (j == 51 || j == 52 || j == 53))
/-- what is put back -/
abbrev stX : Nat → Nat → Bool := fun r j => (r == 62 && decide (j < 48)) || ((decide (85 ≤ r) && decide (r ≤ 90)) && decide (j < 16)) || (r == 59 && (j == 1 || j == 2 || j == 34))
theorem mf_pack1_v {r : Nat} (hr : r < 85 ∨ 90 < r) (t : hy_T) (k : Nat) : ∀ (k' i : Nat), i < 6 → mf_pack1 r t k r (6 * k' + i) = if k' = k then t (85 + i) k else t r (6 * k' + i) := by
  intro k' i hi
  by_cases h : k' = k
  · subst h
    rw [if_pos rfl]
    unfold mf_pack1
    simp only [hy_up, true_and]
    rcases (show i = 0 ∨ i = 1 ∨ i = 2 ∨ i = 3 ∨ i = 4 ∨ i = 5 by omega) with rfl | rfl | rfl | rfl | rfl | rfl
    all_goals (repeat (first | rw [if_pos (by omega)] | rw [if_neg (by omega)]))
    all_goals (try rfl)
  · rw [if_neg h]
    unfold mf_pack1
    simp only [hy_up, true_and]
    repeat (first | rw [if_pos (by omega)] | rw [if_neg (by omega)])
theorem mf_packN_v {r : Nat} (hr : r < 85 ∨ 90 < r) (t : hy_T) : ∀ (n : Nat) (k i : Nat), k < n → i < 6 → mf_packN r t n r (6 * k + i) = t (85 + i) k
  | 0, k, i, h, _ => absurd h (by omega)
  | n + 1, k, i, h, hi => by
    simp only [mf_packN]
    rw [mf_pack1_v hr _ n k i hi]
    by_cases hk : k = n
    · rw [if_pos hk, mf_packN_F r t n (85 + i) n (by simp; omega), hk]
    · rw [if_neg hk]
      exact mf_packN_v hr t n k i (by omega) hi
abbrev mftX : Nat → Nat → Bool := fun r j => (decide (85 ≤ r) && decide (r ≤ 90)) && decide (j < 16)
theorem mf_unp1_F {r : Nat} (t : hy_T) {k : Nat} (hk : k < 16) : hy_F mftX t (mf_unp1 r t k) := by
  unfold mf_unp1
  exact (((((hy_F.rf.up (by simp [mftX]; omega)).up (by simp [mftX]; omega)).up (by simp [mftX]; omega)).up (by simp [mftX]; omega)).up (by simp [mftX]; omega)).up (by simp [mftX]; omega)
theorem mf_unpN_F {r : Nat} (t : hy_T) : ∀ n : Nat, n ≤ 16 → hy_F mftX t (mf_unpN r t n)
  | 0, _ => hy_F.rf
  | n + 1, h => (mf_unpN_F t n (by omega)).tr' (mf_unp1_F _ (by omega))
theorem mf_unp1_v {r : Nat} (hr : r < 85 ∨ 90 < r) (t : hy_T) (k : Nat) : ∀ (k' i : Nat), i < 6 → mf_unp1 r t k (85 + i) k' = if k' = k then t r (6 * k + i) else t (85 + i) k' := by
  intro k' i hi
  unfold mf_unp1
  simp only [hy_up, true_and]
  by_cases h : k' = k
  · subst h
    rw [if_pos rfl]
    rcases (show i = 0 ∨ i = 1 ∨ i = 2 ∨ i = 3 ∨ i = 4 ∨ i = 5 by omega) with rfl | rfl | rfl | rfl | rfl | rfl
    all_goals (repeat (first | rw [if_pos (by omega)] | rw [if_neg (by omega)]))
    all_goals (try rfl)
  · rw [if_neg h]
    repeat (first | rw [if_pos (by omega)] | rw [if_neg (by omega)])
theorem mf_unpN_v {r : Nat} (hr : r < 85 ∨ 90 < r) (t : hy_T) : ∀ (n : Nat) (k i : Nat), n ≤ 16 → k < n → i < 6 → mf_unpN r t n (85 + i) k = t r (6 * k + i)
  | 0, k, i, _, h, _ => absurd h (by omega)
  | n + 1, k, i, hn, h, hi => by
    simp only [mf_unpN]
    rw [mf_unp1_v hr _ n k i hi]
    by_cases hk : k = n
    · subst hk
      rw [if_pos rfl, mf_unpN_F t k (by omega) r _ (by simp [mftX]; omega)]
    · rw [if_neg hk]
      exact mf_unpN_v hr t n k i (by omega) (by omega) hi
theorem begins_as (t : hy_T) : as_of t (mf_begins t) ∧ hy_F mfaX t (mf_begins t) := by
  have hF : hy_F mfaX t (mf_packN 92 (hy_cp t 62 91 48) 16) := by
    refine hy_F.tr' (b := hy_cp t 62 91 48) (fun r j h => ?_) ((mf_packN_F 92 _ 16).w (fun r j q => by revert q; simp [mfaX]; omega))
    unfold hy_cp
    rw [if_neg (by revert h; simp [mfaX]; omega)]
  refine ⟨⟨fun j hj => ?_, fun k hk i hi => ?_, ?_, ?_, ?_⟩, ?_⟩
  · show mf_packN 92 (hy_cp t 62 91 48) 16 91 j = _
    rw [mf_packN_F 92 _ 16 91 j rfl]
    unfold hy_cp
    rw [if_pos ⟨rfl, hj⟩]
  · show mf_packN 92 (hy_cp t 62 91 48) 16 92 (6 * k + i) = _
    rw [mf_packN_v (by omega) _ 16 k i hk hi]
    unfold hy_cp
    rw [if_neg (by omega)]
  · exact hF 59 34 rfl
  · exact hF 59 2 rfl
  · exact hF 59 1 rfl
  · exact (((hF.up (r := 59) (j := 51) rfl).up (r := 59) (j := 52) rfl).up (r := 59) (j := 53) rfl)
theorem as_of_F {X : Nat → Nat → Bool} {t t1 t2 : hy_T} (h : hy_F X t1 t2) (hX : ∀ r j, mfaX r j = true → X r j = false) (ha : as_of t t1) : as_of t t2 := by
  obtain ⟨a1, a2, a3, a4, a5⟩ := ha
  exact ⟨fun j hj => by rw [h 91 j (hX 91 j rfl)]; exact a1 j hj, fun k hk i hi => by rw [h 92 _ (hX 92 _ rfl)]; exact a2 k hk i hi, by rw [h 59 51 (hX 59 51 rfl)]; exact a3, by rw [h 59 52 (hX 59 52 rfl)]; exact a4, by rw [h 59 53 (hX 59 53 rfl)]; exact a5⟩
theorem again_F (t1 : hy_T) : hy_F stX t1 (mf_again t1) := by
  have h1 : hy_F stX t1 (hy_cp t1 91 62 48) := fun r j h => by
    unfold hy_cp
    rw [if_neg (by revert h; simp [stX]; omega)]
  have h2 := h1.tr' ((mf_unpN_F (r := 92) (hy_cp t1 91 62 48) 16 (by omega)).w (fun r j q => by revert q; simp [stX, mftX]; omega))
  exact ((h2.up (r := 59) (j := 34) rfl).up (r := 59) (j := 2) rfl).up (r := 59) (j := 1) rfl
theorem again_v {t t1 : hy_T} (ha : as_of t t1) : ∀ r j, stX r j = true → mf_again t1 r j = t r j := by
  obtain ⟨a1, a2, a3, a4, a5⟩ := ha
  intro r j h
  simp only [stX, Bool.or_eq_true, Bool.and_eq_true, beq_iff_eq, decide_eq_true_eq] at h
  have hU := mf_unpN_F (r := 92) (hy_cp t1 91 62 48) 16 (by omega)
  have o51 : mf_unpN 92 (hy_cp t1 91 62 48) 16 59 51 = t1 59 51 := hU 59 51 rfl
  have o52 : mf_unpN 92 (hy_cp t1 91 62 48) 16 59 52 = t1 59 52 := hU 59 52 rfl
  have o53 : mf_unpN 92 (hy_cp t1 91 62 48) 16 59 53 = t1 59 53 := hU 59 53 rfl
  rcases h with (⟨rfl, hj⟩ | ⟨⟨h1, h2⟩, hj⟩) | ⟨rfl, (rfl | rfl) | rfl⟩
  · show mf_unpN 92 (hy_cp t1 91 62 48) 16 62 j = _
    rw [hU 62 j rfl]
    unfold hy_cp
    rw [if_pos ⟨rfl, hj⟩]
    exact a1 j hj
  · have e : mf_again t1 r j = mf_unpN 92 (hy_cp t1 91 62 48) 16 r j := by
      simp only [mf_again, mf_set3, hy_up]
      rw [if_neg (by omega), if_neg (by omega), if_neg (by omega)]
    rw [e]
    obtain ⟨i, rfl⟩ : ∃ i, r = 85 + i := ⟨r - 85, by omega⟩
    rw [mf_unpN_v (by omega) _ 16 j i (by omega) hj (by omega)]
    unfold hy_cp
    rw [if_neg (by omega)]
    exact a2 j hj i (by omega)
  · exact o53.trans a5
  · exact o52.trans a4
  · exact o51.trans a3
/-- what was set aside stands again -/
theorem again_back {X : Nat → Nat → Bool} {t t1 : hy_T} (ha : as_of t t1) (h : ∀ r j, X r j = false → stX r j = false → t1 r j = t r j) : hy_F X t (mf_again t1) := fun r j hX => by
  cases hs : stX r j
  · rw [again_F t1 r j hs]
    exact h r j hX hs
  · exact again_v ha r j hs
theorem mf_chN_F {c w e s : Int} (hc : 0 ≤ c ∧ c < 12) (t : hy_T) : ∀ n : Nat, n ≤ 4 → hy_F (fun r j => r == 62 && decide (j < 48)) t (mf_chN t c w e s n)
  | 0, _ => hy_F.rf
  | n + 1, hn => by
    simp only [mf_chN]
    split
    · unfold mf_ch1
      exact (mf_chN_F hc t n (by omega)).up (by simp; omega)
    · exact mf_chN_F hc t n (by omega)
theorem ch_st {t t1 : hy_T} (h : hy_F (fun r j => r == 62 && decide (j < 48)) t t1) : hy_F stX t t1 := h.w (fun r j q => by revert q; simp [stX]; omega)
abbrev hvX : Nat → Nat → Bool := fun r j => r == 62 && decide (j < 48)
theorem hvX_law : ∀ r j, mlawX r j = true → hvX r j = false := fun r j h => by revert h; simp [mlawX, hvX]; omega
theorem mf_chN_G {X : Nat → Nat → Bool} {t t1 : hy_T} (h : hy_F X t t1) (hX : ∀ j, X 62 j = false) (c w e s : Int) : ∀ n : Nat, hy_F X (mf_chN t c w e s n) (mf_chN t1 c w e s n)
  | 0 => h
  | n + 1 => by
    have ih := mf_chN_G h hX c w e s n
    simp only [mf_chN]
    split
    · unfold mf_ch1
      rw [ih 62 _ (hX _)]
      intro r j q
      simp only [hy_up]
      split
      · rfl
      · exact ih r j q
    · exact ih
/-- an empire has a group of the plain colours, and no other ones -/
def mw_grpN (t : hy_T) (g e q : Int) : Nat → hy_T
  | 0 => t
  | n + 1 => if mf_plain (mw_grpN t g e q n) n = true then mf_chN (mw_grpN t g e q n) n (hz_ishl 1 q) e (hy_b (hz_b g n)) 4 else mw_grpN t g e q n
theorem mw_grpN_F (t : hy_T) (g e q : Int) : ∀ n : Nat, n ≤ 12 → hy_F hvX t (mw_grpN t g e q n)
  | 0, _ => hy_F.rf
  | n + 1, hn => by
    simp only [mw_grpN]
    split
    · exact (mw_grpN_F t g e q n (by omega)).tr' (mf_chN_F (by omega) _ 4 (by omega))
    · exact mw_grpN_F t g e q n (by omega)
theorem mw_grpN_G {X : Nat → Nat → Bool} {t t1 : hy_T} (h : hy_F X t t1) (h0 : X 59 0 = false) (h60 : ∀ j, X 60 j = false) (hX : ∀ j, X 62 j = false) (g e q : Int) : ∀ n : Nat, hy_F X (mw_grpN t g e q n) (mw_grpN t1 g e q n)
  | 0 => h
  | n + 1 => by
    have ih := mw_grpN_G h h0 h60 hX g e q n
    have e : mf_plain (mw_grpN t1 g e q n) n = mf_plain (mw_grpN t g e q n) n := by unfold mf_plain; rw [ih 59 0 h0, ih 60 _ (h60 _)]
    simp only [mw_grpN]
    rw [e]
    split
    · exact mf_chN_G ih hX _ _ _ _ 4
    · exact ih
def mw_grp (t : hy_T) (g e q : Int) : Int := mw_worth (mw_grpN t g e q 12) e q
abbrev pwX : Nat → Nat → Bool := fun r j => mfaX r j || mvX r j
theorem pwX_mw : ∀ r j, mwX r j = true → pwX r j = false := fun r j h => by revert h; simp [mwX, meqX, mlawX, mvX, mfaX, pwX]; omega
theorem mw_grp_F {t t1 : hy_T} (h : hy_F pwX t t1) (g e q : Int) : mw_grp t1 g e q = mw_grp t g e q :=
  mw_worth_F (mw_grpN_G h rfl (fun _ => rfl) (fun _ => rfl) g e q 12) pwX_mw e q
def mw_powN (t : hy_T) (cs c e q : Int) : Nat → Int
  | 0 => 0
  | g + 1 => if hz_iand g (hz_ixor cs (-1)) = 0 ∧ hz_b g c = false then w32 (mw_powN t cs c e q g + w32 (w32 (mw_ord (mf_bitsN g 12) * mw_ord (mf_bitsN cs 12 - 1 - mf_bitsN g 12)) * w32 (mw_grp t (hz_ior g (hz_ishl 1 c)) e q - mw_grp t g e q))) else mw_powN t cs c e q g
def mw_pow (t : hy_T) (cs c e q w : Int) : Int := if w = 0 then hz_div (mw_powN t cs c e q 4096) (mg_gcd (mw_powN t cs c e q 4096) (mw_ord (mf_bitsN cs 12))) else hz_div (mw_ord (mf_bitsN cs 12)) (mg_gcd (mw_powN t cs c e q 4096) (mw_ord (mf_bitsN cs 12)))
theorem mw_powN_R (t : hy_T) (cs c e q : Int) : ∀ n, hy_R (mw_powN t cs c e q n)
  | 0 => hy_R0
  | n + 1 => by
    simp only [mw_powN]
    split
    · exact w32_R _
    · exact mw_powN_R t cs c e q n
def mw_plainN (t : hy_T) (cs : Int) (n : Nat) : Prop := ∀ k : Nat, k < n → hz_b cs k = true → mf_plain t k = true
section MG
variable {sc : List Int32} {t : hy_T}
theorem hy_inegw {u : hx_M} {d i : Nat} {loc st : List hy_V} {Q : Option Int → hy_T → Prop} {x : Int} (hop : (hx_ops u)[i]? = some .ineg) (kk : hy_W sc u d (i + 1) loc (.inl (w32 (-x)) :: st) t Q) : hy_W sc u d i loc (.inl x :: st) t Q := fun h1 h2 h3 => by
  refine hx_ineg hop ?_
  have h := kk h1 (hy_cons (w32_R _) (hy_one h2).2) h3
  simp only [List.map_cons, hy_v, w32, hy_oi, Int32.ofInt_neg] at h
  exact h
theorem c_M_gcd {a b : Int} (h0 : b ≠ 0) (hb : hy_R b) : hy_Ct sc hm_M_gcd 0 [.inl a, .inl b] t (hy_e (some (mg_gcd a b)) t) := by
  refine hy_mk_ct ok_M_gcd ck_M_gcd (Nat.le_of_ble_eq_true rfl) ?_
  have loop : ∀ (m : Nat), ∀ (x y : Int) (v4 : hy_V), y.natAbs < m → hy_R x → hy_R y → mg_gcdN m x y = mg_gcd a b → hy_W sc hm_M_gcd 0 9 [.inl a, .inl b, .inl x, .inl y, v4] [] t (hy_e (some (mg_gcd a b)) t) := by
    intro m
    induction m with
    | zero => intro x y v4 h; omega
    | succ m ih =>
      intro x y v4 h hx hy hv
      simp only [mg_gcdN] at hv
      by_cases hz : y = 0
      · rw [if_pos hz] at hv
        refine hy_iload (i := 9) rfl rfl ?_
        refine hy_if_eq (i := 10) (tt := 20) rfl (fun zc1 => ?_) (fun zc1 => ?_)
        · refine hy_iload (i := 20) rfl rfl ?_
          refine hy_ireturn (i := 21) rfl rfl ?_
          exact ⟨congrArg some hv, rfl⟩
        · exact absurd hz zc1
      · rw [if_neg hz] at hv
        have hl := hz_rem_lt hx hy hz
        refine hy_iload (i := 9) rfl rfl ?_
        refine hy_if_eq (i := 10) (tt := 20) rfl (fun zc1 => ?_) (fun zc1 => ?_)
        · exact absurd zc1 hz
        · refine hy_iload (i := 11) rfl rfl ?_
          refine hy_iload (i := 12) rfl rfl ?_
          refine hy_iremw (i := 13) rfl hz ?_
          refine hy_istore (i := 14) rfl ?_
          refine hy_iload (i := 15) rfl rfl ?_
          refine hy_istore (i := 16) rfl ?_
          refine hy_iload (i := 17) rfl rfl ?_
          refine hy_istore (i := 18) rfl ?_
          refine hy_goto (i := 19) (tt := 9) rfl ?_
          exact ih _ _ _ (by omega) hy (hy_Ri _) hv
  refine hy_rng 0 rfl (fun ha => ?_)
  by_cases hn : a < 0
  · have e : mg_gcdN (b.natAbs + 1) (w32 (-a)) b = mg_gcd a b := by unfold mg_gcd; rw [if_pos hn]
    refine hy_iload (i := 0) rfl rfl ?_
    refine hy_if_ge (i := 1) (tt := 5) rfl (fun zc1 => ?_) (fun zc1 => ?_)
    · omega
    · refine hy_iload (i := 2) rfl rfl ?_
      refine hy_inegw (i := 3) rfl ?_
      refine hy_goto (i := 4) (tt := 6) rfl ?_
      refine hy_istore (i := 6) rfl ?_
      refine hy_iload (i := 7) rfl rfl ?_
      refine hy_istore (i := 8) rfl ?_
      exact loop (b.natAbs + 1) _ _ _ (by omega) (w32_R _) hb e
  · have e : mg_gcdN (b.natAbs + 1) a b = mg_gcd a b := by unfold mg_gcd; rw [if_neg hn]
    refine hy_iload (i := 0) rfl rfl ?_
    refine hy_if_ge (i := 1) (tt := 5) rfl (fun zc1 => ?_) (fun zc1 => ?_)
    · refine hy_iload (i := 5) rfl rfl ?_
      refine hy_istore (i := 6) rfl ?_
      refine hy_iload (i := 7) rfl rfl ?_
      refine hy_istore (i := 8) rfl ?_
      exact loop (b.natAbs + 1) _ _ _ (by omega) ha hb e
    · omega
theorem c_M_orders {n : Int} (hn : n ≤ 12) : hy_Ct sc hm_M_orders 0 [.inl n] t (hy_e (some (mw_ord n)) t) := by
  refine hy_mk_ct ok_M_orders ck_M_orders (Nat.le_of_ble_eq_true rfl) ?_
  have loop : ∀ (m : Nat), ∀ (v k : Int), m + k = 14 → 2 ≤ k → mw_ordL n m v k = mw_ord n → hy_W sc hm_M_orders 0 4 [.inl n, .inl v, .inl k] [] t (hy_e (some (mw_ord n)) t) := by
    intro m
    induction m with
    | zero =>
      intro v k hm h2 hv
      refine hy_iload (i := 4) rfl rfl ?_
      refine hy_iload (i := 5) rfl rfl ?_
      refine hy_ic_gt (i := 6) (tt := 13) rfl (fun zc1 => ?_) (fun zc1 => ?_)
      · refine hy_iload (i := 13) rfl rfl ?_
        refine hy_ireturn (i := 14) rfl rfl ?_
        exact ⟨congrArg some hv, rfl⟩
      · omega
    | succ m ih =>
      intro v k hm h2 hv
      simp only [mw_ordL] at hv
      by_cases hk : n < k
      · rw [if_pos hk] at hv
        refine hy_iload (i := 4) rfl rfl ?_
        refine hy_iload (i := 5) rfl rfl ?_
        refine hy_ic_gt (i := 6) (tt := 13) rfl (fun zc1 => ?_) (fun zc1 => ?_)
        · refine hy_iload (i := 13) rfl rfl ?_
          refine hy_ireturn (i := 14) rfl rfl ?_
          exact ⟨congrArg some hv, rfl⟩
        · omega
      · rw [if_neg hk] at hv
        refine hy_iload (i := 4) rfl rfl ?_
        refine hy_iload (i := 5) rfl rfl ?_
        refine hy_ic_gt (i := 6) (tt := 13) rfl (fun zc1 => ?_) (fun zc1 => ?_)
        · omega
        · refine hy_iload (i := 7) rfl rfl ?_
          refine hy_iload (i := 8) rfl rfl ?_
          refine hy_imulw (i := 9) rfl ?_
          refine hy_istore (i := 10) rfl ?_
          refine hy_iinc (i := 11) rfl rfl (by omega) ?_
          refine hy_goto (i := 12) (tt := 4) rfl ?_
          exact ih _ _ (by omega) (by omega) hv
  refine hy_const (i := 0) rfl (by decide) ?_
  refine hy_istore (i := 1) rfl ?_
  refine hy_const (i := 2) rfl (by decide) ?_
  refine hy_istore (i := 3) rfl ?_
  exact loop 12 1 2 (by decide) (by decide) rfl
theorem c_M_gain {e c q : Int} (hk : ml_ok t) : hy_Ct sc hm_M_gain 7 [.inr (some 59), .inl e, .inl c, .inl q] t (fun r t' => (r = some (if ((0 ≤ e ∧ e < 6) ∧ mf_plain t c = true ∧ 0 ≤ q ∧ q < 4) ∧ hz_b (t 62 (4 * c + q).toNat) e = false then mw_worth (mf_chN t c (hz_ishl 1 q) e 1 4) e q - mw_worth t e q else -1000000000)) ∧ hy_F mvX (if ((0 ≤ e ∧ e < 6) ∧ mf_plain t c = true ∧ 0 ≤ q ∧ q < 4) ∧ hz_b (t 62 (4 * c + q).toNat) e = false then mf_chN (mf_chN t c (hz_ishl 1 q) e 1 4) c (hz_ishl 1 q) e 0 4 else t) t') := by
  refine hy_mk_ct ok_M_gain ck_M_gain (Nat.le_of_ble_eq_true rfl) ?_
  by_cases hq : ((0 ≤ e ∧ e < 6) ∧ mf_plain t c = true ∧ 0 ≤ q ∧ q < 4) ∧ hz_b (t 62 (4 * c + q).toNat) e = false
  · rw [if_pos hq]
    simp only [if_pos hq]
    have hp := hq.1.2.1
    simp only [mf_plain, Bool.and_eq_true] at hp
    have hc := sp_told_in hp.1
    refine hy_iload (i := 0) rfl rfl ?_
    refine hy_cS1e (i := 1) rfl (by decide) mj_M_isEmpire (by decide) rfl (Nat.le_of_ble_eq_true rfl) (c_M_isEmpire) ?_
    refine hy_ib_eq (i := 2) (tt := 21) rfl (fun zc1 => ?_) (fun zc1 => ?_)
    · simp only [decide_eq_false_iff_not] at zc1; omega
    · refine hy_aload (i := 3) rfl rfl ?_
      refine hy_iload (i := 4) rfl rfl ?_
      refine hy_cV1e (i := 5) rfl mj_M_isPlain (by decide) rfl (Nat.le_of_ble_eq_true rfl) rfl rfl rfl (c_M_isPlain) ?_
      refine hy_ib_eq (i := 6) (tt := 21) rfl (fun zc2 => ?_) (fun zc2 => ?_)
      · exact bb_abs hq.1.2.1 zc2
      · refine hy_iload (i := 7) rfl rfl ?_
        refine hy_cS1e (i := 8) rfl (by decide) mj_M_isQuarter (by decide) rfl (Nat.le_of_ble_eq_true rfl) (c_M_isQuarter) ?_
        refine hy_ib_eq (i := 9) (tt := 21) rfl (fun zc3 => ?_) (fun zc3 => ?_)
        · simp only [decide_eq_false_iff_not] at zc3; omega
        · refine hy_aload (i := 10) rfl rfl ?_
          refine hy_getr (i := 11) rfl rfl ?_
          refine hy_const (i := 12) rfl (by decide) ?_
          refine hy_iload (i := 13) rfl rfl ?_
          refine hy_imul (i := 14) rfl (by omega) ?_
          refine hy_iload (i := 15) rfl rfl ?_
          refine hy_iadd (i := 16) rfl (by omega) ?_
          refine hy_iald (i := 17) rfl rfl (by omega) rfl ?_
          refine hy_iload (i := 18) rfl rfl ?_
          refine hy_cS2e (i := 19) rfl (by decide) mj_M_has (by decide) rfl (Nat.le_of_ble_eq_true rfl) (c_M_has) ?_
          refine hy_ib_eq (i := 20) (tt := 23) rfl (fun zc4 => ?_) (fun zc4 => ?_)
          · refine hy_aload (i := 23) rfl rfl ?_
            refine hy_iload (i := 24) rfl rfl ?_
            refine hy_iload (i := 25) rfl rfl ?_
            refine hy_cV2 (i := 26) rfl mj_M_worthOf (by decide) rfl (Nat.le_of_ble_eq_true rfl) rfl rfl rfl (c_M_worthOf (by assumption) (by omega)) (fun r5_ t5_ h5 => ?_)
            obtain ⟨rfl, hF5⟩ := h5
            dsimp only [hy_st, List.cons_append, List.nil_append]
            refine hy_istore (i := 27) rfl ?_
            refine hy_aload (i := 28) rfl rfl ?_
            refine hy_iload (i := 29) rfl rfl ?_
            refine hy_const (i := 30) rfl (by decide) ?_
            refine hy_iload (i := 31) rfl rfl ?_
            refine hy_ishl (i := 32) rfl ?_
            refine hy_iload (i := 33) rfl rfl ?_
            refine hy_const (i := 34) rfl (by decide) ?_
            refine hy_cV4v (i := 35) rfl mj_M_changes (by decide) rfl (Nat.le_of_ble_eq_true rfl) rfl rfl rfl (c_M_changes (by omega)) ?_
            have hG := mf_chN_G hF5 (fun _ => rfl) c (hz_ishl 1 q) e 1 4
            have hk5 := ml_ok_F (mf_chN_F hc t5_ 4 (by omega) (w := hz_ishl 1 q) (e := e) (s := 1)) hvX_law (ml_ok_F hF5 (meq_law mvX_meq) hk)
            refine hy_aload (i := 36) rfl rfl ?_
            refine hy_iload (i := 37) rfl rfl ?_
            refine hy_iload (i := 38) rfl rfl ?_
            refine hy_cV2 (i := 39) rfl mj_M_worthOf (by decide) rfl (Nat.le_of_ble_eq_true rfl) rfl rfl rfl (c_M_worthOf hk5 (by omega)) (fun r7_ t7_ h7 => ?_)
            obtain ⟨rfl, hF7⟩ := h7
            dsimp only [hy_st, List.cons_append, List.nil_append]
            rw [mw_worth_F hG mvX_mw]
            refine hy_istore (i := 40) rfl ?_
            refine hy_aload (i := 41) rfl rfl ?_
            refine hy_iload (i := 42) rfl rfl ?_
            refine hy_const (i := 43) rfl (by decide) ?_
            refine hy_iload (i := 44) rfl rfl ?_
            refine hy_ishl (i := 45) rfl ?_
            refine hy_iload (i := 46) rfl rfl ?_
            refine hy_const (i := 47) rfl (by decide) ?_
            refine hy_cV4v (i := 48) rfl mj_M_changes (by decide) rfl (Nat.le_of_ble_eq_true rfl) rfl rfl rfl (c_M_changes (by omega)) ?_
            refine hy_iload (i := 49) rfl rfl ?_
            refine hy_iload (i := 50) rfl rfl ?_
            refine hy_isub (i := 51) rfl (by have q1 := mw_worth_in (mf_chN t c (hz_ishl 1 q) e 1 4) e q; have q2 := mw_worth_in t e q; omega) ?_
            refine hy_ireturn (i := 52) rfl rfl ?_
            exact ⟨rfl, mf_chN_G (hG.tr' hF7) (fun _ => rfl) c (hz_ishl 1 q) e 0 4⟩
          · exact bb_abs zc4 hq.2
  · rw [if_neg hq]
    simp only [if_neg hq]
    refine hy_iload (i := 0) rfl rfl ?_
    refine hy_cS1e (i := 1) rfl (by decide) mj_M_isEmpire (by decide) rfl (Nat.le_of_ble_eq_true rfl) (c_M_isEmpire) ?_
    refine hy_ib_eq (i := 2) (tt := 21) rfl (fun zc1 => ?_) (fun zc1 => ?_)
    · refine hy_const (i := 21) rfl (by decide) ?_
      refine hy_ireturn (i := 22) rfl rfl ?_
      exact ⟨rfl, hy_F.rf⟩
    · refine hy_aload (i := 3) rfl rfl ?_
      refine hy_iload (i := 4) rfl rfl ?_
      refine hy_cV1e (i := 5) rfl mj_M_isPlain (by decide) rfl (Nat.le_of_ble_eq_true rfl) rfl rfl rfl (c_M_isPlain) ?_
      refine hy_ib_eq (i := 6) (tt := 21) rfl (fun zc2 => ?_) (fun zc2 => ?_)
      · refine hy_const (i := 21) rfl (by decide) ?_
        refine hy_ireturn (i := 22) rfl rfl ?_
        exact ⟨rfl, hy_F.rf⟩
      · refine hy_iload (i := 7) rfl rfl ?_
        refine hy_cS1e (i := 8) rfl (by decide) mj_M_isQuarter (by decide) rfl (Nat.le_of_ble_eq_true rfl) (c_M_isQuarter) ?_
        refine hy_ib_eq (i := 9) (tt := 21) rfl (fun zc3 => ?_) (fun zc3 => ?_)
        · refine hy_const (i := 21) rfl (by decide) ?_
          refine hy_ireturn (i := 22) rfl rfl ?_
          exact ⟨rfl, hy_F.rf⟩
        · refine hy_aload (i := 10) rfl rfl ?_
          refine hy_getr (i := 11) rfl rfl ?_
          refine hy_const (i := 12) rfl (by decide) ?_
          refine hy_iload (i := 13) rfl rfl ?_
          refine hy_imul (i := 14) rfl (by have hp := (show (sp_told (t 59 0) c && decide (t 60 c.toNat = -1)) = true by assumption); have hc := sp_told_in (Bool.and_eq_true _ _ ▸ hp).1; simp only [decide_eq_true_eq] at *; omega) ?_
          refine hy_iload (i := 15) rfl rfl ?_
          refine hy_iadd (i := 16) rfl (by have hp := (show (sp_told (t 59 0) c && decide (t 60 c.toNat = -1)) = true by assumption); have hc := sp_told_in (Bool.and_eq_true _ _ ▸ hp).1; simp only [decide_eq_true_eq] at *; omega) ?_
          refine hy_iald (i := 17) rfl rfl (by have hp := (show (sp_told (t 59 0) c && decide (t 60 c.toNat = -1)) = true by assumption); have hc := sp_told_in (Bool.and_eq_true _ _ ▸ hp).1; simp only [decide_eq_true_eq] at *; omega) rfl ?_
          refine hy_iload (i := 18) rfl rfl ?_
          refine hy_cS2e (i := 19) rfl (by decide) mj_M_has (by decide) rfl (Nat.le_of_ble_eq_true rfl) (c_M_has) ?_
          refine hy_ib_eq (i := 20) (tt := 23) rfl (fun zc4 => ?_) (fun zc4 => ?_)
          · exfalso; simp only [decide_eq_true_eq] at zc1 zc3; exact hq ⟨⟨zc1, zc2, zc3⟩, by assumption⟩
          · refine hy_const (i := 21) rfl (by decide) ?_
            refine hy_ireturn (i := 22) rfl rfl ?_
            exact ⟨rfl, hy_F.rf⟩
theorem c_M_worthWith {g e q : Int} (hk : ml_ok t) (hq : 0 ≤ q ∧ q < 4) : hy_Ct sc hm_M_worthWith 7 [.inr (some 59), .inl g, .inl e, .inl q] t (fun r t' => ∃ t2 : hy_T, r = some (mw_grp t g e q) ∧ hy_F mvX (mw_grpN t g e q 12) t2 ∧ t' = mf_again t2) := by
  refine hy_mk_ct ok_M_worthWith ck_M_worthWith (Nat.le_of_ble_eq_true rfl) ?_
  have hk2 := ml_ok_F (mw_grpN_F t g e q 12 (by omega)) hvX_law hk
  have loop : ∀ (m : Nat), ∀ (k : Nat) (t1 : hy_T), m + k = 12 → t1 = mw_grpN t g e q k → hy_W sc hm_M_worthWith 7 2 [.inr (some 59), .inl g, .inl e, .inl q, .inl (k : Int)] [] t1 (fun r t' => ∃ t2 : hy_T, r = some (mw_grp t g e q) ∧ hy_F mvX (mw_grpN t g e q 12) t2 ∧ t' = mf_again t2) := by
    intro m
    induction m with
    | zero =>
      intro k t1 hm ht
      obtain rfl : k = 12 := by omega
      rw [← ht] at hk2
      refine hy_iload (i := 2) rfl rfl ?_
      refine hy_const (i := 3) rfl (by decide) ?_
      refine hy_ic_ge (i := 4) (tt := 21) rfl (fun zc1 => ?_) (fun zc1 => ?_)
      · refine hy_aload (i := 21) rfl rfl ?_
        refine hy_iload (i := 22) rfl rfl ?_
        refine hy_iload (i := 23) rfl rfl ?_
        refine hy_cV2 (i := 24) rfl mj_M_worthOf (by decide) rfl (Nat.le_of_ble_eq_true rfl) rfl rfl rfl (c_M_worthOf (by assumption) (by omega)) (fun r1_ t1_ h1 => ?_)
        obtain ⟨rfl, hF1⟩ := h1
        dsimp only [hy_st, List.cons_append, List.nil_append]
        refine hy_istore (i := 25) rfl ?_
        refine hy_aload (i := 26) rfl rfl ?_
        refine hy_cV0v (i := 27) rfl mj_M_again (by decide) rfl (Nat.le_of_ble_eq_true rfl) rfl rfl rfl (c_M_again) ?_
        refine hy_iload (i := 28) rfl rfl ?_
        refine hy_ireturn (i := 29) rfl rfl ?_
        exact ⟨_, by rw [ht]; rfl, by rw [← ht]; assumption, rfl⟩
      · omega
    | succ m ih =>
      intro k t1 hm ht
      by_cases hp : mf_plain t1 k = true
      · have e1 : mw_grpN t g e q (k + 1) = mf_chN t1 k (hz_ishl 1 q) e (hy_b (hz_b g k)) 4 := by simp only [mw_grpN]; rw [← ht, if_pos hp]
        refine hy_iload (i := 2) rfl rfl ?_
        refine hy_const (i := 3) rfl (by decide) ?_
        refine hy_ic_ge (i := 4) (tt := 21) rfl (fun zc1 => ?_) (fun zc1 => ?_)
        · omega
        · refine hy_aload (i := 5) rfl rfl ?_
          refine hy_iload (i := 6) rfl rfl ?_
          refine hy_cV1e (i := 7) rfl mj_M_isPlain (by decide) rfl (Nat.le_of_ble_eq_true rfl) rfl rfl rfl (c_M_isPlain) ?_
          refine hy_ib_eq (i := 8) (tt := 19) rfl (fun zc2 => ?_) (fun zc2 => ?_)
          · exact bb_abs hp (by assumption)
          · refine hy_aload (i := 9) rfl rfl ?_
            refine hy_iload (i := 10) rfl rfl ?_
            refine hy_const (i := 11) rfl (by decide) ?_
            refine hy_iload (i := 12) rfl rfl ?_
            refine hy_ishl (i := 13) rfl ?_
            refine hy_iload (i := 14) rfl rfl ?_
            refine hy_iload (i := 15) rfl rfl ?_
            refine hy_iload (i := 16) rfl rfl ?_
            refine hy_cS2e (i := 17) rfl (by decide) mj_M_has (by decide) rfl (Nat.le_of_ble_eq_true rfl) (c_M_has) ?_
            refine hy_cV4v (i := 18) rfl mj_M_changes (by decide) rfl (Nat.le_of_ble_eq_true rfl) rfl rfl rfl (c_M_changes (by omega)) ?_
            refine hy_iinc (i := 19) rfl rfl (by omega) ?_
            refine hy_goto (i := 20) (tt := 2) rfl ?_
            exact ih (k + 1) _ (by omega) e1.symm
      · have e1 : mw_grpN t g e q (k + 1) = t1 := by simp only [mw_grpN]; rw [← ht, if_neg hp]
        refine hy_iload (i := 2) rfl rfl ?_
        refine hy_const (i := 3) rfl (by decide) ?_
        refine hy_ic_ge (i := 4) (tt := 21) rfl (fun zc1 => ?_) (fun zc1 => ?_)
        · omega
        · refine hy_aload (i := 5) rfl rfl ?_
          refine hy_iload (i := 6) rfl rfl ?_
          refine hy_cV1e (i := 7) rfl mj_M_isPlain (by decide) rfl (Nat.le_of_ble_eq_true rfl) rfl rfl rfl (c_M_isPlain) ?_
          refine hy_ib_eq (i := 8) (tt := 19) rfl (fun zc2 => ?_) (fun zc2 => ?_)
          · refine hy_iinc (i := 19) rfl rfl (by omega) ?_
            refine hy_goto (i := 20) (tt := 2) rfl ?_
            exact ih (k + 1) _ (by omega) e1.symm
          · exact absurd (by assumption) hp
  refine hy_const (i := 0) rfl (by decide) ?_
  refine hy_istore (i := 1) rfl ?_
  exact loop 12 0 t rfl rfl
end MG
