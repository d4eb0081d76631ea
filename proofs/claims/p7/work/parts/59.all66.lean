/-! the model: set aside and put back, gain, power -/
theorem hz_rem_t {x y : Int} (hx : hy_R x) (hy : hy_R y) (h0 : y ≠ 0) : hz_rem x y = x.tmod y := by
  have e : Int32.ofInt x / Int32.ofInt y = Int32.ofInt (x.tdiv y) := by
    rw [← Int32.toInt_inj, Int32.toInt_div, hy_ti hx, hy_ti hy, Int32.toInt_ofInt]
  have hr : hy_R (x.tmod y) := by
    have h1 := Int.natAbs_tmod x y
    have h2 : x.natAbs % y.natAbs < y.natAbs := Nat.mod_lt _ (by omega)
    unfold hy_R at *
    omega
  unfold hz_rem
  rw [e, ← Int32.ofInt_mul, ← Int32.ofInt_sub, show x - x.tdiv y * y = x.tmod y by rw [Int.tmod_def, Int.mul_comm]]
  exact hy_ti hr
theorem hz_rem_lt {x y : Int} (hx : hy_R x) (hy : hy_R y) (h0 : y ≠ 0) : (hz_rem x y).natAbs < y.natAbs := by
  rw [hz_rem_t hx hy h0, Int.natAbs_tmod]
  exact Nat.mod_lt _ (by omega)
def mg_gcdN : Nat → Int → Int → Int
  | 0, x, _ => x
  | n + 1, x, y => if y = 0 then x else mg_gcdN n y (hz_rem x y)
def mg_gcd (a b : Int) : Int := mg_gcdN (b.natAbs + 1) (if a < 0 then w32 (-a) else a) b
theorem mg_gcdN_ne : ∀ (n : Nat) (x y : Int), (x ≠ 0 ∨ y ≠ 0) → hy_R x → hy_R y → y.natAbs < n → mg_gcdN n x y ≠ 0
  | 0, x, y, _, _, _, h => absurd h (by omega)
  | n + 1, x, y, h, hx, hy, hn => by
    simp only [mg_gcdN]
    by_cases h0 : y = 0
    · rw [if_pos h0]; omega
    · rw [if_neg h0]
      have := hz_rem_lt hx hy h0
      exact mg_gcdN_ne n y _ (.inl h0) hy (hy_Ri _) (by omega)
theorem mg_gcd_ne {a b : Int} (ha : hy_R a) (hb : hy_R b) (h0 : b ≠ 0) : mg_gcd a b ≠ 0 := by
  unfold mg_gcd
  refine mg_gcdN_ne _ _ _ (.inr h0) ?_ hb (by omega)
  split
  · exact w32_R _
  · exact ha
def mw_ordL (n : Int) : Nat → Int → Int → Int
  | 0, v, _ => v
  | m + 1, v, k => if n < k then v else mw_ordL n m (w32 (v * k)) (k + 1)
def mw_ord (n : Int) : Int := mw_ordL n 12 1 2
theorem mw_ord_ne : ∀ n : Nat, n < 13 → mw_ord n ≠ 0 := by decide +kernel
/-- what is set aside -/
def as_of (t t1 : hy_T) : Prop := (∀ j : Nat, j < 48 → t1 91 j = t 62 j) ∧ (∀ k : Nat, k < 16 → ∀ i : Nat, i < 6 → t1 92 (6 * k + i) = t (85 + i) k) ∧ t1 59 51 = t 59 34 ∧ t1 59 52 = t 59 2 ∧ t1 59 53 = t 59 1
abbrev mfaX : Nat → Nat → Bool := fun r j => r == 91 || r == 92 || (r == 59 && (j == 51 || j == 52 || j == 53))
/-- what is put back -/
abbrev stX : Nat → Nat → Bool := fun r j => (r == 62 && decide (j < 48)) || ((decide (85 ≤ r) && decide (r ≤ 90)) && decide (j < 16)) || (r == 59 && (j == 1 || j == 2 || j == 34))
theorem mf_pack1_v {r : Nat} (hr : r < 85 ∨ 90 < r) (t : hy_T) (k : Nat) : ∀ (k' i : Nat), i < 6 → mf_pack1 r t k r (6 * k' + i) = if k' = k then t (85 + i) k else t r (6 * k' + i) := by
  intro k' i hi
  by_cases h : k' = k
  · subst h
    rw [if_pos rfl]
    unfold mf_pack1
    simp only [hy_up, true_and]
    rcases (show i = 0 ∨ i = 1 ∨ i = 2 ∨ i = 3 ∨ i = 4 ∨ i = 5 by omega) with rfl | rfl | rfl | rfl | rfl | rfl
    all_goals (repeat (first | rw [if_pos (by omega)] | rw [if_neg (by omega)]))
    all_goals (try rfl)
  · rw [if_neg h]
    unfold mf_pack1
    simp only [hy_up, true_and]
    repeat (first | rw [if_pos (by omega)] | rw [if_neg (by omega)])
theorem mf_packN_v {r : Nat} (hr : r < 85 ∨ 90 < r) (t : hy_T) : ∀ (n : Nat) (k i : Nat), k < n → i < 6 → mf_packN r t n r (6 * k + i) = t (85 + i) k
  | 0, k, i, h, _ => absurd h (by omega)
  | n + 1, k, i, h, hi => by
    simp only [mf_packN]
    rw [mf_pack1_v hr _ n k i hi]
    by_cases hk : k = n
    · rw [if_pos hk, mf_packN_F r t n (85 + i) n (by simp; omega), hk]
    · rw [if_neg hk]
      exact mf_packN_v hr t n k i (by omega) hi
abbrev mftX : Nat → Nat → Bool := fun r j => (decide (85 ≤ r) && decide (r ≤ 90)) && decide (j < 16)
theorem mf_unp1_F {r : Nat} (t : hy_T) {k : Nat} (hk : k < 16) : hy_F mftX t (mf_unp1 r t k) := by
  unfold mf_unp1
  exact (((((hy_F.rf.up (by simp [mftX]; omega)).up (by simp [mftX]; omega)).up (by simp [mftX]; omega)).up (by simp [mftX]; omega)).up (by simp [mftX]; omega)).up (by simp [mftX]; omega)
theorem mf_unpN_F {r : Nat} (t : hy_T) : ∀ n : Nat, n ≤ 16 → hy_F mftX t (mf_unpN r t n)
  | 0, _ => hy_F.rf
  | n + 1, h => (mf_unpN_F t n (by omega)).tr' (mf_unp1_F _ (by omega))
theorem mf_unp1_v {r : Nat} (hr : r < 85 ∨ 90 < r) (t : hy_T) (k : Nat) : ∀ (k' i : Nat), i < 6 → mf_unp1 r t k (85 + i) k' = if k' = k then t r (6 * k + i) else t (85 + i) k' := by
  intro k' i hi
  unfold mf_unp1
  simp only [hy_up, true_and]
  by_cases h : k' = k
  · subst h
    rw [if_pos rfl]
    rcases (show i = 0 ∨ i = 1 ∨ i = 2 ∨ i = 3 ∨ i = 4 ∨ i = 5 by omega) with rfl | rfl | rfl | rfl | rfl | rfl
    all_goals (repeat (first | rw [if_pos (by omega)] | rw [if_neg (by omega)]))
    all_goals (try rfl)
  · rw [if_neg h]
    repeat (first | rw [if_pos (by omega)] | rw [if_neg (by omega)])
theorem mf_unpN_v {r : Nat} (hr : r < 85 ∨ 90 < r) (t : hy_T) : ∀ (n : Nat) (k i : Nat), n ≤ 16 → k < n → i < 6 → mf_unpN r t n (85 + i) k = t r (6 * k + i)
  | 0, k, i, _, h, _ => absurd h (by omega)
  | n + 1, k, i, hn, h, hi => by
    simp only [mf_unpN]
    rw [mf_unp1_v hr _ n k i hi]
    by_cases hk : k = n
    · subst hk
      rw [if_pos rfl, mf_unpN_F t k (by omega) r _ (by simp [mftX]; omega)]
    · rw [if_neg hk]
      exact mf_unpN_v hr t n k i (by omega) (by omega) hi
theorem begins_as (t : hy_T) : as_of t (mf_begins t) ∧ hy_F mfaX t (mf_begins t) := by
  have hF : hy_F mfaX t (mf_packN 92 (hy_cp t 62 91 48) 16) := by
    refine hy_F.tr' (b := hy_cp t 62 91 48) (fun r j h => ?_) ((mf_packN_F 92 _ 16).w (fun r j q => by revert q; simp [mfaX]; omega))
    unfold hy_cp
    rw [if_neg (by revert h; simp [mfaX]; omega)]
  refine ⟨⟨fun j hj => ?_, fun k hk i hi => ?_, ?_, ?_, ?_⟩, ?_⟩
  · show mf_packN 92 (hy_cp t 62 91 48) 16 91 j = _
    rw [mf_packN_F 92 _ 16 91 j rfl]
    unfold hy_cp
    rw [if_pos ⟨rfl, hj⟩]
  · show mf_packN 92 (hy_cp t 62 91 48) 16 92 (6 * k + i) = _
    rw [mf_packN_v (by omega) _ 16 k i hk hi]
    unfold hy_cp
    rw [if_neg (by omega)]
  · exact hF 59 34 rfl
  · exact hF 59 2 rfl
  · exact hF 59 1 rfl
  · exact (((hF.up (r := 59) (j := 51) rfl).up (r := 59) (j := 52) rfl).up (r := 59) (j := 53) rfl)
theorem as_of_F {X : Nat → Nat → Bool} {t t1 t2 : hy_T} (h : hy_F X t1 t2) (hX : ∀ r j, mfaX r j = true → X r j = false) (ha : as_of t t1) : as_of t t2 := by
  obtain ⟨a1, a2, a3, a4, a5⟩ := ha
  exact ⟨fun j hj => by rw [h 91 j (hX 91 j rfl)]; exact a1 j hj, fun k hk i hi => by rw [h 92 _ (hX 92 _ rfl)]; exact a2 k hk i hi, by rw [h 59 51 (hX 59 51 rfl)]; exact a3, by rw [h 59 52 (hX 59 52 rfl)]; exact a4, by rw [h 59 53 (hX 59 53 rfl)]; exact a5⟩
theorem again_F (t1 : hy_T) : hy_F stX t1 (mf_again t1) := by
  have h1 : hy_F stX t1 (hy_cp t1 91 62 48) := fun r j h => by
    unfold hy_cp
    rw [if_neg (by revert h; simp [stX]; omega)]
  have h2 := h1.tr' ((mf_unpN_F (r := 92) (hy_cp t1 91 62 48) 16 (by omega)).w (fun r j q => by revert q; simp [stX, mftX]; omega))
  exact ((h2.up (r := 59) (j := 34) rfl).up (r := 59) (j := 2) rfl).up (r := 59) (j := 1) rfl
theorem again_v {t t1 : hy_T} (ha : as_of t t1) : ∀ r j, stX r j = true → mf_again t1 r j = t r j := by
  obtain ⟨a1, a2, a3, a4, a5⟩ := ha
  intro r j h
  simp only [stX, Bool.or_eq_true, Bool.and_eq_true, beq_iff_eq, decide_eq_true_eq] at h
  have hU := mf_unpN_F (r := 92) (hy_cp t1 91 62 48) 16 (by omega)
  have o51 : mf_unpN 92 (hy_cp t1 91 62 48) 16 59 51 = t1 59 51 := hU 59 51 rfl
  have o52 : mf_unpN 92 (hy_cp t1 91 62 48) 16 59 52 = t1 59 52 := hU 59 52 rfl
  have o53 : mf_unpN 92 (hy_cp t1 91 62 48) 16 59 53 = t1 59 53 := hU 59 53 rfl
  rcases h with (⟨rfl, hj⟩ | ⟨⟨h1, h2⟩, hj⟩) | ⟨rfl, (rfl | rfl) | rfl⟩
  · show mf_unpN 92 (hy_cp t1 91 62 48) 16 62 j = _
    rw [hU 62 j rfl]
    unfold hy_cp
    rw [if_pos ⟨rfl, hj⟩]
    exact a1 j hj
  · have e : mf_again t1 r j = mf_unpN 92 (hy_cp t1 91 62 48) 16 r j := by
      simp only [mf_again, mf_set3, hy_up]
      rw [if_neg (by omega), if_neg (by omega), if_neg (by omega)]
    rw [e]
    obtain ⟨i, rfl⟩ : ∃ i, r = 85 + i := ⟨r - 85, by omega⟩
    rw [mf_unpN_v (by omega) _ 16 j i (by omega) hj (by omega)]
    unfold hy_cp
    rw [if_neg (by omega)]
    exact a2 j hj i (by omega)
  · exact o53.trans a5
  · exact o52.trans a4
  · exact o51.trans a3
/-- what was set aside stands again -/
theorem again_back {X : Nat → Nat → Bool} {t t1 : hy_T} (ha : as_of t t1) (h : ∀ r j, X r j = false → stX r j = false → t1 r j = t r j) : hy_F X t (mf_again t1) := fun r j hX => by
  cases hs : stX r j
  · rw [again_F t1 r j hs]
    exact h r j hX hs
  · exact again_v ha r j hs
theorem mf_chN_F {c w e s : Int} (hc : 0 ≤ c ∧ c < 12) (t : hy_T) : ∀ n : Nat, n ≤ 4 → hy_F (fun r j => r == 62 && decide (j < 48)) t (mf_chN t c w e s n)
  | 0, _ => hy_F.rf
  | n + 1, hn => by
    simp only [mf_chN]
    split
    · unfold mf_ch1
      exact (mf_chN_F hc t n (by omega)).up (by simp; omega)
    · exact mf_chN_F hc t n (by omega)
theorem ch_st {t t1 : hy_T} (h : hy_F (fun r j => r == 62 && decide (j < 48)) t t1) : hy_F stX t t1 := h.w (fun r j q => by revert q; simp [stX]; omega)
abbrev hvX : Nat → Nat → Bool := fun r j => r == 62 && decide (j < 48)
theorem hvX_law : ∀ r j, mlawX r j = true → hvX r j = false := fun r j h => by revert h; simp [mlawX, hvX]; omega
theorem mf_chN_G {X : Nat → Nat → Bool} {t t1 : hy_T} (h : hy_F X t t1) (hX : ∀ j, X 62 j = false) (c w e s : Int) : ∀ n : Nat, hy_F X (mf_chN t c w e s n) (mf_chN t1 c w e s n)
  | 0 => h
  | n + 1 => by
    have ih := mf_chN_G h hX c w e s n
    simp only [mf_chN]
    split
    · unfold mf_ch1
      rw [ih 62 _ (hX _)]
      intro r j q
      simp only [hy_up]
      split
      · rfl
      · exact ih r j q
    · exact ih
/-- an empire has a group of the plain colours, and no other ones -/
def mw_grpN (t : hy_T) (g e q : Int) : Nat → hy_T
  | 0 => t
  | n + 1 => if mf_plain (mw_grpN t g e q n) n = true then mf_chN (mw_grpN t g e q n) n (hz_ishl 1 q) e (hy_b (hz_b g n)) 4 else mw_grpN t g e q n
theorem mw_grpN_F (t : hy_T) (g e q : Int) : ∀ n : Nat, n ≤ 12 → hy_F hvX t (mw_grpN t g e q n)
  | 0, _ => hy_F.rf
  | n + 1, hn => by
    simp only [mw_grpN]
    split
    · exact (mw_grpN_F t g e q n (by omega)).tr' (mf_chN_F (by omega) _ 4 (by omega))
    · exact mw_grpN_F t g e q n (by omega)
theorem mw_grpN_G {X : Nat → Nat → Bool} {t t1 : hy_T} (h : hy_F X t t1) (h0 : X 59 0 = false) (h60 : ∀ j, X 60 j = false) (hX : ∀ j, X 62 j = false) (g e q : Int) : ∀ n : Nat, hy_F X (mw_grpN t g e q n) (mw_grpN t1 g e q n)
  | 0 => h
  | n + 1 => by
    have ih := mw_grpN_G h h0 h60 hX g e q n
    have e : mf_plain (mw_grpN t1 g e q n) n = mf_plain (mw_grpN t g e q n) n := by unfold mf_plain; rw [ih 59 0 h0, ih 60 _ (h60 _)]
    simp only [mw_grpN]
    rw [e]
    split
    · exact mf_chN_G ih hX _ _ _ _ 4
    · exact ih
def mw_grp (t : hy_T) (g e q : Int) : Int := mw_worth (mw_grpN t g e q 12) e q
abbrev pwX : Nat → Nat → Bool := fun r j => mfaX r j || mvX r j
theorem pwX_mw : ∀ r j, mwX r j = true → pwX r j = false := fun r j h => by revert h; simp [mwX, meqX, mlawX, mvX, mfaX, pwX]; omega
theorem mw_grp_F {t t1 : hy_T} (h : hy_F pwX t t1) (g e q : Int) : mw_grp t1 g e q = mw_grp t g e q :=
  mw_worth_F (mw_grpN_G h rfl (fun _ => rfl) (fun _ => rfl) g e q 12) pwX_mw e q
def mw_powN (t : hy_T) (cs c e q : Int) : Nat → Int
  | 0 => 0
  | g + 1 => if hz_iand g (hz_ixor cs (-1)) = 0 ∧ hz_b g c = false then w32 (mw_powN t cs c e q g + w32 (w32 (mw_ord (mf_bitsN g 12) * mw_ord (mf_bitsN cs 12 - 1 - mf_bitsN g 12)) * w32 (mw_grp t (hz_ior g (hz_ishl 1 c)) e q - mw_grp t g e q))) else mw_powN t cs c e q g
def mw_pow (t : hy_T) (cs c e q w : Int) : Int := if w = 0 then hz_div (mw_powN t cs c e q 4096) (mg_gcd (mw_powN t cs c e q 4096) (mw_ord (mf_bitsN cs 12))) else hz_div (mw_ord (mf_bitsN cs 12)) (mg_gcd (mw_powN t cs c e q 4096) (mw_ord (mf_bitsN cs 12)))
theorem mw_powN_R (t : hy_T) (cs c e q : Int) : ∀ n, hy_R (mw_powN t cs c e q n)
  | 0 => hy_R0
  | n + 1 => by
    simp only [mw_powN]
    split
    · exact w32_R _
    · exact mw_powN_R t cs c e q n
def mw_plainN (t : hy_T) (cs : Int) (n : Nat) : Prop := ∀ k : Nat, k < n → hz_b cs k = true → mf_plain t k = true
section MG
variable {sc : List Int32} {t : hy_T}
theorem hy_inegw {u : hx_M} {d i : Nat} {loc st : List hy_V} {Q : Option Int → hy_T → Prop} {x : Int} (hop : (hx_ops u)[i]? = some .ineg) (kk : hy_W sc u d (i + 1) loc (.inl (w32 (-x)) :: st) t Q) : hy_W sc u d i loc (.inl x :: st) t Q := fun h1 h2 h3 => by
  refine hx_ineg hop ?_
  have h := kk h1 (hy_cons (w32_R _) (hy_one h2).2) h3
  simp only [List.map_cons, hy_v, w32, hy_oi, Int32.ofInt_neg] at h
  exact h
theorem c_M_gcd {a b : Int} (h0 : b ≠ 0) (hb : hy_R b) : hy_Ct sc hm_M_gcd 0 [.inl a, .inl b] t (hy_e (some (mg_gcd a b)) t) := by
  refine hy_mk_ct ok_M_gcd ck_M_gcd (Nat.le_of_ble_eq_true rfl) ?_
  have loop : ∀ (m : Nat), ∀ (x y : Int) (v4 : hy_V), y.natAbs < m → hy_R x → hy_R y → mg_gcdN m x y = mg_gcd a b → hy_W sc hm_M_gcd 0 9 [.inl a, .inl b, .inl x, .inl y, v4] [] t (hy_e (some (mg_gcd a b)) t) := by
    intro m
    induction m with
    | zero => intro x y v4 h; omega
    | succ m ih =>
      intro x y v4 h hx hy hv
      simp only [mg_gcdN] at hv
      by_cases hz : y = 0
      · rw [if_pos hz] at hv
        refine hy_iload (i := 9) rfl rfl ?_
        refine hy_if_eq (i := 10) (tt := 20) rfl (fun zc1 => ?_) (fun zc1 => ?_)
        · refine hy_iload (i := 20) rfl rfl ?_
          refine hy_ireturn (i := 21) rfl rfl ?_
          exact ⟨congrArg some hv, rfl⟩
        · exact absurd hz zc1
      · rw [if_neg hz] at hv
        have hl := hz_rem_lt hx hy hz
        refine hy_iload (i := 9) rfl rfl ?_
        refine hy_if_eq (i := 10) (tt := 20) rfl (fun zc1 => ?_) (fun zc1 => ?_)
        · exact absurd zc1 hz
        · refine hy_iload (i := 11) rfl rfl ?_
          refine hy_iload (i := 12) rfl rfl ?_
          refine hy_iremw (i := 13) rfl hz ?_
          refine hy_istore (i := 14) rfl ?_
          refine hy_iload (i := 15) rfl rfl ?_
          refine hy_istore (i := 16) rfl ?_
          refine hy_iload (i := 17) rfl rfl ?_
          refine hy_istore (i := 18) rfl ?_
          refine hy_goto (i := 19) (tt := 9) rfl ?_
          exact ih _ _ _ (by omega) hy (hy_Ri _) hv
  refine hy_rng 0 rfl (fun ha => ?_)
  by_cases hn : a < 0
  · have e : mg_gcdN (b.natAbs + 1) (w32 (-a)) b = mg_gcd a b := by unfold mg_gcd; rw [if_pos hn]
    refine hy_iload (i := 0) rfl rfl ?_
    refine hy_if_ge (i := 1) (tt := 5) rfl (fun zc1 => ?_) (fun zc1 => ?_)
    · omega
    · refine hy_iload (i := 2) rfl rfl ?_
      refine hy_inegw (i := 3) rfl ?_
      refine hy_goto (i := 4) (tt := 6) rfl ?_
      refine hy_istore (i := 6) rfl ?_
      refine hy_iload (i := 7) rfl rfl ?_
      refine hy_istore (i := 8) rfl ?_
      exact loop (b.natAbs + 1) _ _ _ (by omega) (w32_R _) hb e
  · have e : mg_gcdN (b.natAbs + 1) a b = mg_gcd a b := by unfold mg_gcd; rw [if_neg hn]
    refine hy_iload (i := 0) rfl rfl ?_
    refine hy_if_ge (i := 1) (tt := 5) rfl (fun zc1 => ?_) (fun zc1 => ?_)
    · refine hy_iload (i := 5) rfl rfl ?_
      refine hy_istore (i := 6) rfl ?_
      refine hy_iload (i := 7) rfl rfl ?_
      refine hy_istore (i := 8) rfl ?_
      exact loop (b.natAbs + 1) _ _ _ (by omega) ha hb e
    · omega
theorem c_M_orders {n : Int} (hn : n ≤ 12) : hy_Ct sc hm_M_orders 0 [.inl n] t (hy_e (some (mw_ord n)) t) := by
  refine hy_mk_ct ok_M_orders ck_M_orders (Nat.le_of_ble_eq_true rfl) ?_
  have loop : ∀ (m : Nat), ∀ (v k : Int), m + k = 14 → 2 ≤ k → mw_ordL n m v k = mw_ord n → hy_W sc hm_M_orders 0 4 [.inl n, .inl v, .inl k] [] t (hy_e (some (mw_ord n)) t) := by
    intro m
    induction m with
    | zero =>
      intro v k hm h2 hv
      refine hy_iload (i := 4) rfl rfl ?_
      refine hy_iload (i := 5) rfl rfl ?_
      refine hy_ic_gt (i := 6) (tt := 13) rfl (fun zc1 => ?_) (fun zc1 => ?_)
      · refine hy_iload (i := 13) rfl rfl ?_
        refine hy_ireturn (i := 14) rfl rfl ?_
        exact ⟨congrArg some hv, rfl⟩
      · omega
    | succ m ih =>
      intro v k hm h2 hv
      simp only [mw_ordL] at hv
      by_cases hk : n < k
      · rw [if_pos hk] at hv
        refine hy_iload (i := 4) rfl rfl ?_
        refine hy_iload (i := 5) rfl rfl ?_
        refine hy_ic_gt (i := 6) (tt := 13) rfl (fun zc1 => ?_) (fun zc1 => ?_)
        · refine hy_iload (i := 13) rfl rfl ?_
          refine hy_ireturn (i := 14) rfl rfl ?_
          exact ⟨congrArg some hv, rfl⟩
        · omega
      · rw [if_neg hk] at hv
        refine hy_iload (i := 4) rfl rfl ?_
        refine hy_iload (i := 5) rfl rfl ?_
        refine hy_ic_gt (i := 6) (tt := 13) rfl (fun zc1 => ?_) (fun zc1 => ?_)
        · omega
        · refine hy_iload (i := 7) rfl rfl ?_
          refine hy_iload (i := 8) rfl rfl ?_
          refine hy_imulw (i := 9) rfl ?_
          refine hy_istore (i := 10) rfl ?_
          refine hy_iinc (i := 11) rfl rfl (by omega) ?_
          refine hy_goto (i := 12) (tt := 4) rfl ?_
          exact ih _ _ (by omega) (by omega) hv
  refine hy_const (i := 0) rfl (by decide) ?_
  refine hy_istore (i := 1) rfl ?_
  refine hy_const (i := 2) rfl (by decide) ?_
  refine hy_istore (i := 3) rfl ?_
  exact loop 12 1 2 (by decide) (by decide) rfl
theorem c_M_gain {e c q : Int} (hk : ml_ok t) : hy_Ct sc hm_M_gain 7 [.inr (some 59), .inl e, .inl c, .inl q] t (fun r t' => (r = some (if ((0 ≤ e ∧ e < 6) ∧ mf_plain t c = true ∧ 0 ≤ q ∧ q < 4) ∧ hz_b (t 62 (4 * c + q).toNat) e = false then mw_worth (mf_chN t c (hz_ishl 1 q) e 1 4) e q - mw_worth t e q else -1000000000)) ∧ hy_F mvX (if ((0 ≤ e ∧ e < 6) ∧ mf_plain t c = true ∧ 0 ≤ q ∧ q < 4) ∧ hz_b (t 62 (4 * c + q).toNat) e = false then mf_chN (mf_chN t c (hz_ishl 1 q) e 1 4) c (hz_ishl 1 q) e 0 4 else t) t') := by
  refine hy_mk_ct ok_M_gain ck_M_gain (Nat.le_of_ble_eq_true rfl) ?_
  by_cases hq : ((0 ≤ e ∧ e < 6) ∧ mf_plain t c = true ∧ 0 ≤ q ∧ q < 4) ∧ hz_b (t 62 (4 * c + q).toNat) e = false
  · rw [if_pos hq]
    simp only [if_pos hq]
    have hp := hq.1.2.1
    simp only [mf_plain, Bool.and_eq_true] at hp
    have hc := sp_told_in hp.1
    refine hy_iload (i := 0) rfl rfl ?_
    refine hy_cS1e (i := 1) rfl (by decide) mj_M_isEmpire (by decide) rfl (Nat.le_of_ble_eq_true rfl) (c_M_isEmpire) ?_
    refine hy_ib_eq (i := 2) (tt := 21) rfl (fun zc1 => ?_) (fun zc1 => ?_)
    · simp only [decide_eq_false_iff_not] at zc1; omega
    · refine hy_aload (i := 3) rfl rfl ?_
      refine hy_iload (i := 4) rfl rfl ?_
      refine hy_cV1e (i := 5) rfl mj_M_isPlain (by decide) rfl (Nat.le_of_ble_eq_true rfl) rfl rfl rfl (c_M_isPlain) ?_
      refine hy_ib_eq (i := 6) (tt := 21) rfl (fun zc2 => ?_) (fun zc2 => ?_)
      · exact bb_abs hq.1.2.1 zc2
      · refine hy_iload (i := 7) rfl rfl ?_
        refine hy_cS1e (i := 8) rfl (by decide) mj_M_isQuarter (by decide) rfl (Nat.le_of_ble_eq_true rfl) (c_M_isQuarter) ?_
        refine hy_ib_eq (i := 9) (tt := 21) rfl (fun zc3 => ?_) (fun zc3 => ?_)
        · simp only [decide_eq_false_iff_not] at zc3; omega
        · refine hy_aload (i := 10) rfl rfl ?_
          refine hy_getr (i := 11) rfl rfl ?_
          refine hy_const (i := 12) rfl (by decide) ?_
          refine hy_iload (i := 13) rfl rfl ?_
          refine hy_imul (i := 14) rfl (by omega) ?_
          refine hy_iload (i := 15) rfl rfl ?_
          refine hy_iadd (i := 16) rfl (by omega) ?_
          refine hy_iald (i := 17) rfl rfl (by omega) rfl ?_
          refine hy_iload (i := 18) rfl rfl ?_
          refine hy_cS2e (i := 19) rfl (by decide) mj_M_has (by decide) rfl (Nat.le_of_ble_eq_true rfl) (c_M_has) ?_
          refine hy_ib_eq (i := 20) (tt := 23) rfl (fun zc4 => ?_) (fun zc4 => ?_)
          · refine hy_aload (i := 23) rfl rfl ?_
            refine hy_iload (i := 24) rfl rfl ?_
            refine hy_iload (i := 25) rfl rfl ?_
            refine hy_cV2 (i := 26) rfl mj_M_worthOf (by decide) rfl (Nat.le_of_ble_eq_true rfl) rfl rfl rfl (c_M_worthOf (by assumption) (by omega)) (fun r5_ t5_ h5 => ?_)
            obtain ⟨rfl, hF5⟩ := h5
            dsimp only [hy_st, List.cons_append, List.nil_append]
            refine hy_istore (i := 27) rfl ?_
            refine hy_aload (i := 28) rfl rfl ?_
            refine hy_iload (i := 29) rfl rfl ?_
            refine hy_const (i := 30) rfl (by decide) ?_
            refine hy_iload (i := 31) rfl rfl ?_
            refine hy_ishl (i := 32) rfl ?_
            refine hy_iload (i := 33) rfl rfl ?_
            refine hy_const (i := 34) rfl (by decide) ?_
            refine hy_cV4v (i := 35) rfl mj_M_changes (by decide) rfl (Nat.le_of_ble_eq_true rfl) rfl rfl rfl (c_M_changes (by omega)) ?_
            have hG := mf_chN_G hF5 (fun _ => rfl) c (hz_ishl 1 q) e 1 4
            have hk5 := ml_ok_F (mf_chN_F hc t5_ 4 (by omega) (w := hz_ishl 1 q) (e := e) (s := 1)) hvX_law (ml_ok_F hF5 (meq_law mvX_meq) hk)
            refine hy_aload (i := 36) rfl rfl ?_
            refine hy_iload (i := 37) rfl rfl ?_
            refine hy_iload (i := 38) rfl rfl ?_
            refine hy_cV2 (i := 39) rfl mj_M_worthOf (by decide) rfl (Nat.le_of_ble_eq_true rfl) rfl rfl rfl (c_M_worthOf hk5 (by omega)) (fun r7_ t7_ h7 => ?_)
            obtain ⟨rfl, hF7⟩ := h7
            dsimp only [hy_st, List.cons_append, List.nil_append]
            rw [mw_worth_F hG mvX_mw]
            refine hy_istore (i := 40) rfl ?_
            refine hy_aload (i := 41) rfl rfl ?_
            refine hy_iload (i := 42) rfl rfl ?_
            refine hy_const (i := 43) rfl (by decide) ?_
            refine hy_iload (i := 44) rfl rfl ?_
            refine hy_ishl (i := 45) rfl ?_
            refine hy_iload (i := 46) rfl rfl ?_
            refine hy_const (i := 47) rfl (by decide) ?_
            refine hy_cV4v (i := 48) rfl mj_M_changes (by decide) rfl (Nat.le_of_ble_eq_true rfl) rfl rfl rfl (c_M_changes (by omega)) ?_
            refine hy_iload (i := 49) rfl rfl ?_
            refine hy_iload (i := 50) rfl rfl ?_
            refine hy_isub (i := 51) rfl (by have q1 := mw_worth_in (mf_chN t c (hz_ishl 1 q) e 1 4) e q; have q2 := mw_worth_in t e q; omega) ?_
            refine hy_ireturn (i := 52) rfl rfl ?_
            exact ⟨rfl, mf_chN_G (hG.tr' hF7) (fun _ => rfl) c (hz_ishl 1 q) e 0 4⟩
          · exact bb_abs zc4 hq.2
  · rw [if_neg hq]
    simp only [if_neg hq]
    refine hy_iload (i := 0) rfl rfl ?_
    refine hy_cS1e (i := 1) rfl (by decide) mj_M_isEmpire (by decide) rfl (Nat.le_of_ble_eq_true rfl) (c_M_isEmpire) ?_
    refine hy_ib_eq (i := 2) (tt := 21) rfl (fun zc1 => ?_) (fun zc1 => ?_)
    · refine hy_const (i := 21) rfl (by decide) ?_
      refine hy_ireturn (i := 22) rfl rfl ?_
      exact ⟨rfl, hy_F.rf⟩
    · refine hy_aload (i := 3) rfl rfl ?_
      refine hy_iload (i := 4) rfl rfl ?_
      refine hy_cV1e (i := 5) rfl mj_M_isPlain (by decide) rfl (Nat.le_of_ble_eq_true rfl) rfl rfl rfl (c_M_isPlain) ?_
      refine hy_ib_eq (i := 6) (tt := 21) rfl (fun zc2 => ?_) (fun zc2 => ?_)
      · refine hy_const (i := 21) rfl (by decide) ?_
        refine hy_ireturn (i := 22) rfl rfl ?_
        exact ⟨rfl, hy_F.rf⟩
      · refine hy_iload (i := 7) rfl rfl ?_
        refine hy_cS1e (i := 8) rfl (by decide) mj_M_isQuarter (by decide) rfl (Nat.le_of_ble_eq_true rfl) (c_M_isQuarter) ?_
        refine hy_ib_eq (i := 9) (tt := 21) rfl (fun zc3 => ?_) (fun zc3 => ?_)
        · refine hy_const (i := 21) rfl (by decide) ?_
          refine hy_ireturn (i := 22) rfl rfl ?_
          exact ⟨rfl, hy_F.rf⟩
        · refine hy_aload (i := 10) rfl rfl ?_
          refine hy_getr (i := 11) rfl rfl ?_
          refine hy_const (i := 12) rfl (by decide) ?_
          refine hy_iload (i := 13) rfl rfl ?_
          refine hy_imul (i := 14) rfl (by have hp := (show (sp_told (t 59 0) c && decide (t 60 c.toNat = -1)) = true by assumption); have hc := sp_told_in (Bool.and_eq_true _ _ ▸ hp).1; simp only [decide_eq_true_eq] at *; omega) ?_
          refine hy_iload (i := 15) rfl rfl ?_
          refine hy_iadd (i := 16) rfl (by have hp := (show (sp_told (t 59 0) c && decide (t 60 c.toNat = -1)) = true by assumption); have hc := sp_told_in (Bool.and_eq_true _ _ ▸ hp).1; simp only [decide_eq_true_eq] at *; omega) ?_
          refine hy_iald (i := 17) rfl rfl (by have hp := (show (sp_told (t 59 0) c && decide (t 60 c.toNat = -1)) = true by assumption); have hc := sp_told_in (Bool.and_eq_true _ _ ▸ hp).1; simp only [decide_eq_true_eq] at *; omega) rfl ?_
          refine hy_iload (i := 18) rfl rfl ?_
          refine hy_cS2e (i := 19) rfl (by decide) mj_M_has (by decide) rfl (Nat.le_of_ble_eq_true rfl) (c_M_has) ?_
          refine hy_ib_eq (i := 20) (tt := 23) rfl (fun zc4 => ?_) (fun zc4 => ?_)
          · exfalso; simp only [decide_eq_true_eq] at zc1 zc3; exact hq ⟨⟨zc1, zc2, zc3⟩, by assumption⟩
          · refine hy_const (i := 21) rfl (by decide) ?_
            refine hy_ireturn (i := 22) rfl rfl ?_
            exact ⟨rfl, hy_F.rf⟩
theorem c_M_worthWith {g e q : Int} (hk : ml_ok t) (hq : 0 ≤ q ∧ q < 4) : hy_Ct sc hm_M_worthWith 7 [.inr (some 59), .inl g, .inl e, .inl q] t (fun r t' => ∃ t2 : hy_T, r = some (mw_grp t g e q) ∧ hy_F mvX (mw_grpN t g e q 12) t2 ∧ t' = mf_again t2) := by
  refine hy_mk_ct ok_M_worthWith ck_M_worthWith (Nat.le_of_ble_eq_true rfl) ?_
  have hk2 := ml_ok_F (mw_grpN_F t g e q 12 (by omega)) hvX_law hk
  have loop : ∀ (m : Nat), ∀ (k : Nat) (t1 : hy_T), m + k = 12 → t1 = mw_grpN t g e q k → hy_W sc hm_M_worthWith 7 2 [.inr (some 59), .inl g, .inl e, .inl q, .inl (k : Int)] [] t1 (fun r t' => ∃ t2 : hy_T, r = some (mw_grp t g e q) ∧ hy_F mvX (mw_grpN t g e q 12) t2 ∧ t' = mf_again t2) := by
    intro m
    induction m with
    | zero =>
      intro k t1 hm ht
      obtain rfl : k = 12 := by omega
      rw [← ht] at hk2
      refine hy_iload (i := 2) rfl rfl ?_
      refine hy_const (i := 3) rfl (by decide) ?_
      refine hy_ic_ge (i := 4) (tt := 21) rfl (fun zc1 => ?_) (fun zc1 => ?_)
      · refine hy_aload (i := 21) rfl rfl ?_
        refine hy_iload (i := 22) rfl rfl ?_
        refine hy_iload (i := 23) rfl rfl ?_
        refine hy_cV2 (i := 24) rfl mj_M_worthOf (by decide) rfl (Nat.le_of_ble_eq_true rfl) rfl rfl rfl (c_M_worthOf (by assumption) (by omega)) (fun r1_ t1_ h1 => ?_)
        obtain ⟨rfl, hF1⟩ := h1
        dsimp only [hy_st, List.cons_append, List.nil_append]
        refine hy_istore (i := 25) rfl ?_
        refine hy_aload (i := 26) rfl rfl ?_
        refine hy_cV0v (i := 27) rfl mj_M_again (by decide) rfl (Nat.le_of_ble_eq_true rfl) rfl rfl rfl (c_M_again) ?_
        refine hy_iload (i := 28) rfl rfl ?_
        refine hy_ireturn (i := 29) rfl rfl ?_
        exact ⟨_, by rw [ht]; rfl, by rw [← ht]; assumption, rfl⟩
      · omega
    | succ m ih =>
      intro k t1 hm ht
      by_cases hp : mf_plain t1 k = true
      · have e1 : mw_grpN t g e q (k + 1) = mf_chN t1 k (hz_ishl 1 q) e (hy_b (hz_b g k)) 4 := by simp only [mw_grpN]; rw [← ht, if_pos hp]
        refine hy_iload (i := 2) rfl rfl ?_
        refine hy_const (i := 3) rfl (by decide) ?_
        refine hy_ic_ge (i := 4) (tt := 21) rfl (fun zc1 => ?_) (fun zc1 => ?_)
        · omega
        · refine hy_aload (i := 5) rfl rfl ?_
          refine hy_iload (i := 6) rfl rfl ?_
          refine hy_cV1e (i := 7) rfl mj_M_isPlain (by decide) rfl (Nat.le_of_ble_eq_true rfl) rfl rfl rfl (c_M_isPlain) ?_
          refine hy_ib_eq (i := 8) (tt := 19) rfl (fun zc2 => ?_) (fun zc2 => ?_)
          · exact bb_abs hp (by assumption)
          · refine hy_aload (i := 9) rfl rfl ?_
            refine hy_iload (i := 10) rfl rfl ?_
            refine hy_const (i := 11) rfl (by decide) ?_
            refine hy_iload (i := 12) rfl rfl ?_
            refine hy_ishl (i := 13) rfl ?_
            refine hy_iload (i := 14) rfl rfl ?_
            refine hy_iload (i := 15) rfl rfl ?_
            refine hy_iload (i := 16) rfl rfl ?_
            refine hy_cS2e (i := 17) rfl (by decide) mj_M_has (by decide) rfl (Nat.le_of_ble_eq_true rfl) (c_M_has) ?_
            refine hy_cV4v (i := 18) rfl mj_M_changes (by decide) rfl (Nat.le_of_ble_eq_true rfl) rfl rfl rfl (c_M_changes (by omega)) ?_
            refine hy_iinc (i := 19) rfl rfl (by omega) ?_
            refine hy_goto (i := 20) (tt := 2) rfl ?_
            exact ih (k + 1) _ (by omega) e1.symm
      · have e1 : mw_grpN t g e q (k + 1) = t1 := by simp only [mw_grpN]; rw [← ht, if_neg hp]
        refine hy_iload (i := 2) rfl rfl ?_
        refine hy_const (i := 3) rfl (by decide) ?_
        refine hy_ic_ge (i := 4) (tt := 21) rfl (fun zc1 => ?_) (fun zc1 => ?_)
        · omega
        · refine hy_aload (i := 5) rfl rfl ?_
          refine hy_iload (i := 6) rfl rfl ?_
          refine hy_cV1e (i := 7) rfl mj_M_isPlain (by decide) rfl (Nat.le_of_ble_eq_true rfl) rfl rfl rfl (c_M_isPlain) ?_
          refine hy_ib_eq (i := 8) (tt := 19) rfl (fun zc2 => ?_) (fun zc2 => ?_)
          · refine hy_iinc (i := 19) rfl rfl (by omega) ?_
            refine hy_goto (i := 20) (tt := 2) rfl ?_
            exact ih (k + 1) _ (by omega) e1.symm
          · exact absurd (by assumption) hp
  refine hy_const (i := 0) rfl (by decide) ?_
  refine hy_istore (i := 1) rfl ?_
  exact loop 12 0 t rfl rfl
end MG
/-! the model: power, battles -/
theorem mw_ord_p : ∀ n : Nat, n < 13 → 0 < mw_ord n ∧ mw_ord n ≤ 479001600 := by decide +kernel
def mw_plainB (t : hy_T) (cs : Int) : Nat → Bool
  | 0 => true
  | n + 1 => mw_plainB t cs n && (!hz_b cs n || mf_plain t n)
theorem mw_plainB_le (t : hy_T) (cs : Int) : ∀ (n k : Nat), k ≤ n → mw_plainB t cs k = false → mw_plainB t cs n = false
  | 0, k, h, hf => by obtain rfl : k = 0 := (by omega); exact hf
  | n + 1, k, h, hf => by
    by_cases hk : k = n + 1
    · rw [← hk]; exact hf
    · simp only [mw_plainB, mw_plainB_le t cs n k (by omega) hf, Bool.false_and]
theorem ww_back {t t1 u : hy_T} {g e q : Int} (hF : hy_F pwX t t1) (ha : as_of t t1) (h2 : hy_F mvX (mw_grpN t1 g e q 12) u) : hy_F pwX t (mf_again u) ∧ as_of t (mf_again u) := by
  have h1 := mw_grpN_F t1 g e q 12 (by omega)
  have hu : as_of t u := as_of_F h2 (fun r j h => by revert h; simp [mfaX, mvX]; omega) (as_of_F h1 (fun r j h => by revert h; simp [mfaX, hvX]; omega) ha)
  refine ⟨again_back hu (fun r j hX hs => ?_), as_of_F (again_F u) (fun r j h => by revert h; simp [mfaX, stX]; omega) hu⟩
  rw [h2 r j (by revert hX; simp [pwX, mvX]), h1 r j (by revert hs; simp [stX, hvX]; omega)]
  exact hF r j hX
theorem pwX_law : ∀ r j, mlawX r j = true → pwX r j = false := meq_law (mwX_meq pwX_mw)
abbrev mw_pwc (t : hy_T) (cs c e q w : Int) : Prop := ((1 ≤ cs ∧ cs ≤ 4095) ∧ mf_bitsN cs 12 ≤ 5) ∧ ((0 ≤ c ∧ c ≤ 11) ∧ hz_b cs c = true) ∧ (0 ≤ e ∧ e < 6) ∧ (0 ≤ q ∧ q < 4) ∧ (0 ≤ w ∧ w ≤ 1) ∧ mw_plainB t cs 12 = true
section MP
variable {sc : List Int32} {t : hy_T}
theorem c_M_power {cs c e q w : Int} (hk : ml_ok t) : hy_Ct sc hm_M_power 8 [.inr (some 59), .inl cs, .inl c, .inl e, .inl q, .inl w] t (fun r t' => r = some (if mw_pwc t cs c e q w then mw_pow t cs c e q w else -1000000000) ∧ hy_F pwX t t') := by
  refine hy_mk_ct ok_M_power ck_M_power (Nat.le_of_ble_eq_true rfl) ?_
  have hbi := mf_bitsN_in cs 12
  have fin : ∀ (t1 : hy_T) (v8 : hy_V), hy_F pwX t t1 → (0 ≤ w ∧ w ≤ 1) → hy_W sc hm_M_power 8 103 [.inr (some 59), .inl cs, .inl c, .inl e, .inl q, .inl w, .inl (mf_bitsN cs 12), .inl (mw_powN t cs c e q 4096), v8] [] t1 (fun r t' => r = some (mw_pow t cs c e q w) ∧ hy_F pwX t t') := by
    intro t1 v8 hF hw
    have ho := mw_ord_p (mf_bitsN cs 12).toNat (by omega)
    rw [show (((mf_bitsN cs 12).toNat : Nat) : Int) = mf_bitsN cs 12 by omega] at ho
    have hoR : hy_R (mw_ord (mf_bitsN cs 12)) := ⟨by omega, by omega⟩
    have hg := mg_gcd_ne (mw_powN_R t cs c e q 4096) hoR (by omega)
    refine hy_iload (i := 103) rfl rfl ?_
    refine hy_iload (i := 104) rfl rfl ?_
    refine hy_cS1e (i := 105) rfl (by decide) mj_M_orders (by decide) rfl (Nat.le_of_ble_eq_true rfl) (c_M_orders (by omega)) ?_
    refine hy_cS2e (i := 106) rfl (by decide) mj_M_gcd (by decide) rfl (Nat.le_of_ble_eq_true rfl) (c_M_gcd (by omega) hoR) ?_
    refine hy_istore (i := 107) rfl ?_
    refine hy_iload (i := 108) rfl rfl ?_
    refine hy_if_ne (i := 109) (tt := 114) rfl (fun zc1 => ?_) (fun zc1 => ?_)
    · refine hy_iload (i := 114) rfl rfl ?_
      refine hy_cS1e (i := 115) rfl (by decide) mj_M_orders (by decide) rfl (Nat.le_of_ble_eq_true rfl) (c_M_orders (by omega)) ?_
      refine hy_iload (i := 116) rfl rfl ?_
      refine hy_idivw (i := 117) rfl hg ?_
      refine hy_ireturn (i := 118) rfl rfl ?_
      refine ⟨congrArg some ?_, hF⟩
      unfold mw_pow
      first | (rw [if_pos (by assumption)]; done) | (rw [if_neg (by assumption)]; done)
    · refine hy_iload (i := 110) rfl rfl ?_
      refine hy_iload (i := 111) rfl rfl ?_
      refine hy_idivw (i := 112) rfl hg ?_
      refine hy_goto (i := 113) (tt := 118) rfl ?_
      refine hy_ireturn (i := 118) rfl rfl ?_
      refine ⟨congrArg some ?_, hF⟩
      unfold mw_pow
      first | (rw [if_pos (by assumption)]; done) | (rw [if_neg (by assumption)]; done)
  have loop : (0 ≤ w ∧ w ≤ 1) → (0 ≤ q ∧ q < 4) → ∀ (m : Nat), ∀ (k : Nat) (t1 : hy_T), m + k = 4096 → hy_F pwX t t1 → as_of t t1 → hy_W sc hm_M_power 8 57 [.inr (some 59), .inl cs, .inl c, .inl e, .inl q, .inl w, .inl (mf_bitsN cs 12), .inl (mw_powN t cs c e q k), .inl (k : Int)] [] t1 (fun r t' => r = some (mw_pow t cs c e q w) ∧ hy_F pwX t t') := by
    intro hw hq m
    induction m with
    | zero =>
      intro k t1 hm hF ha
      obtain rfl : k = 4096 := by omega
      refine hy_iload (i := 57) rfl rfl ?_
      refine hy_const (i := 58) rfl (by decide) ?_
      refine hy_ic_ge (i := 59) (tt := 103) rfl (fun zc1 => ?_) (fun zc1 => ?_)
      · exact fin t1 _ hF hw
      · omega
    | succ m ih =>
      intro k t1 hm hF ha
      have hbk := mf_bitsN_in (k : Int) 12
      have hk1 := ml_ok_F hF pwX_law hk
      have ih' := ih (k + 1)
      by_cases hc : hz_iand (k : Int) (hz_ixor cs (-1)) = 0 ∧ hz_b (k : Int) c = false
      · have e1 : mw_powN t cs c e q (k + 1) = w32 (mw_powN t cs c e q k + w32 (w32 (mw_ord (mf_bitsN k 12) * mw_ord (mf_bitsN cs 12 - 1 - mf_bitsN k 12)) * w32 (mw_grp t (hz_ior k (hz_ishl 1 c)) e q - mw_grp t k e q))) := by simp only [mw_powN]; rw [if_pos hc]
        rw [e1] at ih'
        refine hy_iload (i := 57) rfl rfl ?_
        refine hy_const (i := 58) rfl (by decide) ?_
        refine hy_ic_ge (i := 59) (tt := 103) rfl (fun zc1 => ?_) (fun zc1 => ?_)
        · omega
        · refine hy_iload (i := 60) rfl rfl ?_
          refine hy_iload (i := 61) rfl rfl ?_
          refine hy_const (i := 62) rfl (by decide) ?_
          refine hy_ixor (i := 63) rfl ?_
          refine hy_iand (i := 64) rfl ?_
          refine hy_if_ne (i := 65) (tt := 101) rfl (fun zc2 => ?_) (fun zc2 => ?_)
          · exact absurd hc.1 (by assumption)
          · refine hy_iload (i := 66) rfl rfl ?_
            refine hy_iload (i := 67) rfl rfl ?_
            refine hy_cS2e (i := 68) rfl (by decide) mj_M_has (by decide) rfl (Nat.le_of_ble_eq_true rfl) (c_M_has) ?_
            refine hy_ib_eq (i := 69) (tt := 71) rfl (fun zc3 => ?_) (fun zc3 => ?_)
            · refine hy_iload (i := 71) rfl rfl ?_
              refine hy_iload (i := 72) rfl rfl ?_
              refine hy_cS1e (i := 73) rfl (by decide) mj_M_bits (by decide) rfl (Nat.le_of_ble_eq_true rfl) (c_M_bits) ?_
              refine hy_cS1e (i := 74) rfl (by decide) mj_M_orders (by decide) rfl (Nat.le_of_ble_eq_true rfl) (c_M_orders (by omega)) ?_
              refine hy_iload (i := 75) rfl rfl ?_
              refine hy_const (i := 76) rfl (by decide) ?_
              refine hy_isub (i := 77) rfl (by omega) ?_
              refine hy_iload (i := 78) rfl rfl ?_
              refine hy_cS1e (i := 79) rfl (by decide) mj_M_bits (by decide) rfl (Nat.le_of_ble_eq_true rfl) (c_M_bits) ?_
              refine hy_isub (i := 80) rfl (by omega) ?_
              refine hy_cS1e (i := 81) rfl (by decide) mj_M_orders (by decide) rfl (Nat.le_of_ble_eq_true rfl) (c_M_orders (by omega)) ?_
              refine hy_imulw (i := 82) rfl ?_
              refine hy_aload (i := 83) rfl rfl ?_
              refine hy_iload (i := 84) rfl rfl ?_
              refine hy_const (i := 85) rfl (by decide) ?_
              refine hy_iload (i := 86) rfl rfl ?_
              refine hy_ishl (i := 87) rfl ?_
              refine hy_ior (i := 88) rfl ?_
              refine hy_iload (i := 89) rfl rfl ?_
              refine hy_iload (i := 90) rfl rfl ?_
              refine hy_cV3 (i := 91) rfl mj_M_worthWith (by decide) rfl (Nat.le_of_ble_eq_true rfl) rfl rfl rfl (c_M_worthWith (by assumption) (by omega)) (fun r6_ t6_ h6 => ?_)
              obtain ⟨u6, rfl, hF6, rfl⟩ := h6
              dsimp only [hy_st, List.cons_append, List.nil_append]
              rw [mw_grp_F hF]
              obtain ⟨hB, hA⟩ := ww_back hF ha (show hy_F mvX _ _ by assumption)
              have hk2 := ml_ok_F hB pwX_law hk
              refine hy_aload (i := 92) rfl rfl ?_
              refine hy_iload (i := 93) rfl rfl ?_
              refine hy_iload (i := 94) rfl rfl ?_
              refine hy_iload (i := 95) rfl rfl ?_
              refine hy_cV3 (i := 96) rfl mj_M_worthWith (by decide) rfl (Nat.le_of_ble_eq_true rfl) rfl rfl rfl (c_M_worthWith hk2 (by omega)) (fun r7_ t7_ h7 => ?_)
              obtain ⟨u7, rfl, hF7, rfl⟩ := h7
              dsimp only [hy_st, List.cons_append, List.nil_append]
              rw [mw_grp_F hB]
              obtain ⟨hB2, hA2⟩ := ww_back hB hA hF7
              refine hy_isubw (i := 97) rfl ?_
              refine hy_imulw (i := 98) rfl ?_
              refine hy_iaddw (i := 99) rfl ?_
              refine hy_istore (i := 100) rfl ?_
              refine hy_iinc (i := 101) rfl rfl (by omega) ?_
              refine hy_goto (i := 102) (tt := 57) rfl ?_
              exact ih' _ (by omega) hB2 hA2
            · exact bb_abs (by assumption) hc.2
      · have e1 : mw_powN t cs c e q (k + 1) = mw_powN t cs c e q k := by simp only [mw_powN]; rw [if_neg hc]
        rw [e1] at ih'
        refine hy_iload (i := 57) rfl rfl ?_
        refine hy_const (i := 58) rfl (by decide) ?_
        refine hy_ic_ge (i := 59) (tt := 103) rfl (fun zc1 => ?_) (fun zc1 => ?_)
        · omega
        · refine hy_iload (i := 60) rfl rfl ?_
          refine hy_iload (i := 61) rfl rfl ?_
          refine hy_const (i := 62) rfl (by decide) ?_
          refine hy_ixor (i := 63) rfl ?_
          refine hy_iand (i := 64) rfl ?_
          refine hy_if_ne (i := 65) (tt := 101) rfl (fun zc2 => ?_) (fun zc2 => ?_)
          · refine hy_iinc (i := 101) rfl rfl (by omega) ?_
            refine hy_goto (i := 102) (tt := 57) rfl ?_
            exact ih' _ (by omega) hF ha
          · refine hy_iload (i := 66) rfl rfl ?_
            refine hy_iload (i := 67) rfl rfl ?_
            refine hy_cS2e (i := 68) rfl (by decide) mj_M_has (by decide) rfl (Nat.le_of_ble_eq_true rfl) (c_M_has) ?_
            refine hy_ib_eq (i := 69) (tt := 71) rfl (fun zc3 => ?_) (fun zc3 => ?_)
            · exact absurd ⟨by assumption, by assumption⟩ hc
            · refine hy_goto (i := 70) (tt := 101) rfl ?_
              refine hy_iinc (i := 101) rfl rfl (by omega) ?_
              refine hy_goto (i := 102) (tt := 57) rfl ?_
              exact ih' _ (by omega) hF ha
  have rest : (((1 ≤ cs ∧ cs ≤ 4095) ∧ mf_bitsN cs 12 ≤ 5) ∧ ((0 ≤ c ∧ c ≤ 11) ∧ hz_b cs c = true) ∧ (0 ≤ e ∧ e < 6) ∧ (0 ≤ q ∧ q < 4) ∧ (0 ≤ w ∧ w ≤ 1)) → ∀ (m : Nat), ∀ (k : Nat) (v7 v8 : hy_V), m + k = 12 → mw_plainB t cs k = true → hy_W sc hm_M_power 8 33 [.inr (some 59), .inl cs, .inl c, .inl e, .inl q, .inl w, .inl (k : Int), v7, v8] [] t (fun r t' => r = some (if mw_pwc t cs c e q w then mw_pow t cs c e q w else -1000000000) ∧ hy_F pwX t t') := by
    intro hc m
    induction m with
    | zero =>
      intro k v7 v8 hm hp
      obtain rfl : k = 12 := by omega
      rw [if_pos ⟨hc.1, hc.2.1, hc.2.2.1, hc.2.2.2.1, hc.2.2.2.2, hp⟩]
      obtain ⟨ha, hF⟩ := begins_as t
      refine hy_iload (i := 33) rfl rfl ?_
      refine hy_const (i := 34) rfl (by decide) ?_
      refine hy_ic_ge (i := 35) (tt := 48) rfl (fun zc1 => ?_) (fun zc1 => ?_)
      · refine hy_aload (i := 48) rfl rfl ?_
        refine hy_cV0v (i := 49) rfl mj_M_begins (by decide) rfl (Nat.le_of_ble_eq_true rfl) rfl rfl rfl (c_M_begins) ?_
        refine hy_iload (i := 50) rfl rfl ?_
        refine hy_cS1e (i := 51) rfl (by decide) mj_M_bits (by decide) rfl (Nat.le_of_ble_eq_true rfl) (c_M_bits) ?_
        refine hy_istore (i := 52) rfl ?_
        refine hy_const (i := 53) rfl (by decide) ?_
        refine hy_istore (i := 54) rfl ?_
        refine hy_const (i := 55) rfl (by decide) ?_
        refine hy_istore (i := 56) rfl ?_
        exact loop hc.2.2.2.2 hc.2.2.2.1 4096 0 _ rfl (hF.w (fun r j q => by revert q; simp [pwX, mfaX, mvX]; omega)) ha
      · omega
    | succ m ih =>
      intro k v7 v8 hm hp
      have e1 : mw_plainB t cs (k + 1) = (!hz_b cs k || mf_plain t k) := by simp only [mw_plainB]; rw [hp, Bool.true_and]
      refine hy_iload (i := 33) rfl rfl ?_
      refine hy_const (i := 34) rfl (by decide) ?_
      refine hy_ic_ge (i := 35) (tt := 48) rfl (fun zc1 => ?_) (fun zc1 => ?_)
      · omega
      · refine hy_iload (i := 36) rfl rfl ?_
        refine hy_iload (i := 37) rfl rfl ?_
        refine hy_cS2e (i := 38) rfl (by decide) mj_M_has (by decide) rfl (Nat.le_of_ble_eq_true rfl) (c_M_has) ?_
        refine hy_ib_eq (i := 39) (tt := 46) rfl (fun zc2 => ?_) (fun zc2 => ?_)
        · refine hy_iinc (i := 46) rfl rfl (by omega) ?_
          refine hy_goto (i := 47) (tt := 33) rfl ?_
          exact ih (k + 1) _ _ (by omega) (by rw [e1]; first | (rw [show hz_b cs k = false by assumption]; rfl) | (rw [show mf_plain t k = true by assumption]; cases hz_b cs k <;> rfl))
        · refine hy_aload (i := 40) rfl rfl ?_
          refine hy_iload (i := 41) rfl rfl ?_
          refine hy_cV1e (i := 42) rfl mj_M_isPlain (by decide) rfl (Nat.le_of_ble_eq_true rfl) rfl rfl rfl (c_M_isPlain) ?_
          refine hy_ib_ne (i := 43) (tt := 46) rfl (fun zc3 => ?_) (fun zc3 => ?_)
          · refine hy_iinc (i := 46) rfl rfl (by omega) ?_
            refine hy_goto (i := 47) (tt := 33) rfl ?_
            exact ih (k + 1) _ _ (by omega) (by rw [e1]; first | (rw [show hz_b cs k = false by assumption]; rfl) | (rw [show mf_plain t k = true by assumption]; cases hz_b cs k <;> rfl))
          · refine hy_const (i := 44) rfl (by decide) ?_
            refine hy_ireturn (i := 45) rfl rfl ?_
            have e2 : mw_plainB t cs 12 = false := mw_plainB_le t cs 12 (k + 1) (by omega) (by rw [e1, show hz_b cs k = true by assumption, show mf_plain t k = false by assumption]; rfl)
            exact ⟨by rw [if_neg (fun h => bb_abs h.2.2.2.2.2 e2)], hy_F.rf⟩
  by_cases hq : ((1 ≤ cs ∧ cs ≤ 4095) ∧ mf_bitsN cs 12 ≤ 5) ∧ ((0 ≤ c ∧ c ≤ 11) ∧ hz_b cs c = true) ∧ (0 ≤ e ∧ e < 6) ∧ (0 ≤ q ∧ q < 4) ∧ (0 ≤ w ∧ w ≤ 1)
  · skip
    refine hy_iload (i := 0) rfl rfl ?_
    refine hy_const (i := 1) rfl (by decide) ?_
    refine hy_const (i := 2) rfl (by decide) ?_
    refine hy_cS3e (i := 3) rfl (by decide) mj_M_in (by decide) rfl (Nat.le_of_ble_eq_true rfl) (c_M_in) ?_
    refine hy_ib_eq (i := 4) (tt := 29) rfl (fun zc1 => ?_) (fun zc1 => ?_)
    · simp only [decide_eq_false_iff_not] at zc1; omega
    · refine hy_iload (i := 5) rfl rfl ?_
      refine hy_cS1e (i := 6) rfl (by decide) mj_M_bits (by decide) rfl (Nat.le_of_ble_eq_true rfl) (c_M_bits) ?_
      refine hy_const (i := 7) rfl (by decide) ?_
      refine hy_ic_gt (i := 8) (tt := 29) rfl (fun zc2 => ?_) (fun zc2 => ?_)
      · omega
      · refine hy_iload (i := 9) rfl rfl ?_
        refine hy_const (i := 10) rfl (by decide) ?_
        refine hy_const (i := 11) rfl (by decide) ?_
        refine hy_cS3e (i := 12) rfl (by decide) mj_M_in (by decide) rfl (Nat.le_of_ble_eq_true rfl) (c_M_in) ?_
        refine hy_ib_eq (i := 13) (tt := 29) rfl (fun zc3 => ?_) (fun zc3 => ?_)
        · simp only [decide_eq_false_iff_not] at zc3; omega
        · refine hy_iload (i := 14) rfl rfl ?_
          refine hy_iload (i := 15) rfl rfl ?_
          refine hy_cS2e (i := 16) rfl (by decide) mj_M_has (by decide) rfl (Nat.le_of_ble_eq_true rfl) (c_M_has) ?_
          refine hy_ib_eq (i := 17) (tt := 29) rfl (fun zc4 => ?_) (fun zc4 => ?_)
          · exact bb_abs hq.2.1.2 (by assumption)
          · refine hy_iload (i := 18) rfl rfl ?_
            refine hy_cS1e (i := 19) rfl (by decide) mj_M_isEmpire (by decide) rfl (Nat.le_of_ble_eq_true rfl) (c_M_isEmpire) ?_
            refine hy_ib_eq (i := 20) (tt := 29) rfl (fun zc5 => ?_) (fun zc5 => ?_)
            · simp only [decide_eq_false_iff_not] at zc5; omega
            · refine hy_iload (i := 21) rfl rfl ?_
              refine hy_cS1e (i := 22) rfl (by decide) mj_M_isQuarter (by decide) rfl (Nat.le_of_ble_eq_true rfl) (c_M_isQuarter) ?_
              refine hy_ib_eq (i := 23) (tt := 29) rfl (fun zc6 => ?_) (fun zc6 => ?_)
              · simp only [decide_eq_false_iff_not] at zc6; omega
              · refine hy_iload (i := 24) rfl rfl ?_
                refine hy_const (i := 25) rfl (by decide) ?_
                refine hy_const (i := 26) rfl (by decide) ?_
                refine hy_cS3e (i := 27) rfl (by decide) mj_M_in (by decide) rfl (Nat.le_of_ble_eq_true rfl) (c_M_in) ?_
                refine hy_ib_ne (i := 28) (tt := 31) rfl (fun zc7 => ?_) (fun zc7 => ?_)
                · refine hy_const (i := 31) rfl (by decide) ?_
                  refine hy_istore (i := 32) rfl ?_
                  exact rest hq 12 0 _ _ rfl rfl
                · simp only [decide_eq_false_iff_not] at zc7; omega
  · rw [if_neg (fun h => hq ⟨h.1, h.2.1, h.2.2.1, h.2.2.2.1, h.2.2.2.2.1⟩)]
    refine hy_iload (i := 0) rfl rfl ?_
    refine hy_const (i := 1) rfl (by decide) ?_
    refine hy_const (i := 2) rfl (by decide) ?_
    refine hy_cS3e (i := 3) rfl (by decide) mj_M_in (by decide) rfl (Nat.le_of_ble_eq_true rfl) (c_M_in) ?_
    refine hy_ib_eq (i := 4) (tt := 29) rfl (fun zc1 => ?_) (fun zc1 => ?_)
    · refine hy_const (i := 29) rfl (by decide) ?_
      refine hy_ireturn (i := 30) rfl rfl ?_
      exact ⟨rfl, hy_F.rf⟩
    · refine hy_iload (i := 5) rfl rfl ?_
      refine hy_cS1e (i := 6) rfl (by decide) mj_M_bits (by decide) rfl (Nat.le_of_ble_eq_true rfl) (c_M_bits) ?_
      refine hy_const (i := 7) rfl (by decide) ?_
      refine hy_ic_gt (i := 8) (tt := 29) rfl (fun zc2 => ?_) (fun zc2 => ?_)
      · refine hy_const (i := 29) rfl (by decide) ?_
        refine hy_ireturn (i := 30) rfl rfl ?_
        exact ⟨rfl, hy_F.rf⟩
      · refine hy_iload (i := 9) rfl rfl ?_
        refine hy_const (i := 10) rfl (by decide) ?_
        refine hy_const (i := 11) rfl (by decide) ?_
        refine hy_cS3e (i := 12) rfl (by decide) mj_M_in (by decide) rfl (Nat.le_of_ble_eq_true rfl) (c_M_in) ?_
        refine hy_ib_eq (i := 13) (tt := 29) rfl (fun zc3 => ?_) (fun zc3 => ?_)
        · refine hy_const (i := 29) rfl (by decide) ?_
          refine hy_ireturn (i := 30) rfl rfl ?_
          exact ⟨rfl, hy_F.rf⟩
        · refine hy_iload (i := 14) rfl rfl ?_
          refine hy_iload (i := 15) rfl rfl ?_
          refine hy_cS2e (i := 16) rfl (by decide) mj_M_has (by decide) rfl (Nat.le_of_ble_eq_true rfl) (c_M_has) ?_
          refine hy_ib_eq (i := 17) (tt := 29) rfl (fun zc4 => ?_) (fun zc4 => ?_)
          · refine hy_const (i := 29) rfl (by decide) ?_
            refine hy_ireturn (i := 30) rfl rfl ?_
            exact ⟨rfl, hy_F.rf⟩
          · refine hy_iload (i := 18) rfl rfl ?_
            refine hy_cS1e (i := 19) rfl (by decide) mj_M_isEmpire (by decide) rfl (Nat.le_of_ble_eq_true rfl) (c_M_isEmpire) ?_
            refine hy_ib_eq (i := 20) (tt := 29) rfl (fun zc5 => ?_) (fun zc5 => ?_)
            · refine hy_const (i := 29) rfl (by decide) ?_
              refine hy_ireturn (i := 30) rfl rfl ?_
              exact ⟨rfl, hy_F.rf⟩
            · refine hy_iload (i := 21) rfl rfl ?_
              refine hy_cS1e (i := 22) rfl (by decide) mj_M_isQuarter (by decide) rfl (Nat.le_of_ble_eq_true rfl) (c_M_isQuarter) ?_
              refine hy_ib_eq (i := 23) (tt := 29) rfl (fun zc6 => ?_) (fun zc6 => ?_)
              · refine hy_const (i := 29) rfl (by decide) ?_
                refine hy_ireturn (i := 30) rfl rfl ?_
                exact ⟨rfl, hy_F.rf⟩
              · refine hy_iload (i := 24) rfl rfl ?_
                refine hy_const (i := 25) rfl (by decide) ?_
                refine hy_const (i := 26) rfl (by decide) ?_
                refine hy_cS3e (i := 27) rfl (by decide) mj_M_in (by decide) rfl (Nat.le_of_ble_eq_true rfl) (c_M_in) ?_
                refine hy_ib_ne (i := 28) (tt := 31) rfl (fun zc7 => ?_) (fun zc7 => ?_)
                · exfalso; simp only [decide_eq_true_eq] at *; exact hq ⟨⟨by assumption, by omega⟩, ⟨by assumption, by assumption⟩, by assumption, by assumption, by assumption⟩
                · refine hy_const (i := 29) rfl (by decide) ?_
                  refine hy_ireturn (i := 30) rfl rfl ?_
                  exact ⟨rfl, hy_F.rf⟩
end MP
def mt_take (t : hy_T) (e o c q : Int) : Bool := mf_plain t c && (hz_b (t 62 (4 * c + q).toNat) o && !hz_b (t 62 (4 * c + q).toNat) e)
def mt_can (t : hy_T) (a b q : Int) (k : Nat) : Bool := mt_take t a b ((k : Int) / 12) q && mt_take t b a ((k : Int) % 12) q
def mt_set (t : hy_T) (a b q : Int) (k : Nat) : hy_T := mf_chN (mf_chN (mf_chN (mf_chN t ((k : Int) / 12) (hz_ishl 1 q) a 1 4) ((k : Int) / 12) (hz_ishl 1 q) b 0 4) ((k : Int) % 12) (hz_ishl 1 q) b 1 4) ((k : Int) % 12) (hz_ishl 1 q) a 0 4
abbrev btX : Nat → Nat → Bool := fun r j => pwX r j || r == 99 || r == 100 || r == 101
theorem btX_mw : ∀ r j, mwX r j = true → btX r j = false := fun r j h => by revert h; simp [mwX, meqX, mlawX, mvX, mfaX, pwX, btX]; omega
theorem btX_law : ∀ r j, mlawX r j = true → btX r j = false := meq_law (mwX_meq btX_mw)
theorem mt_take_F {X : Nat → Nat → Bool} {t t1 : hy_T} (h : hy_F X t t1) (hX : ∀ r j, mwX r j = true → X r j = false) (e o c q : Int) : mt_take t1 e o c q = mt_take t e o c q := by
  unfold mt_take mf_plain
  rw [h 59 0 (hX 59 0 rfl), h 60 _ (hX 60 _ rfl), h 62 _ (hX 62 _ rfl)]
theorem mt_set_F (t : hy_T) (a b q : Int) {k : Nat} (hk : k < 144) : hy_F hvX t (mt_set t a b q k) := by
  have h1 : 0 ≤ (k : Int) / 12 ∧ (k : Int) / 12 < 12 := by omega
  have h2 : 0 ≤ (k : Int) % 12 ∧ (k : Int) % 12 < 12 := by omega
  exact (((mf_chN_F h1 _ 4 (by omega)).tr' (mf_chN_F h1 _ 4 (by omega))).tr' (mf_chN_F h2 _ 4 (by omega))).tr' (mf_chN_F h2 _ 4 (by omega))
theorem mt_set_G {X : Nat → Nat → Bool} {t t1 : hy_T} (h : hy_F X t t1) (hX : ∀ j, X 62 j = false) (a b q : Int) (k : Nat) : hy_F X (mt_set t a b q k) (mt_set t1 a b q k) :=
  mf_chN_G (mf_chN_G (mf_chN_G (mf_chN_G h hX _ _ _ _ 4) hX _ _ _ _ 4) hX _ _ _ _ 4) hX _ _ _ _ 4
/-- the rows of battles are laid up to n -/
def mt_laid (t : hy_T) (a b q : Int) (n : Nat) (t1 : hy_T) : Prop := ∀ k : Nat, k < n → t1 101 k = hy_b (mt_can t a b q k) ∧ (mt_can t a b q k = true → t1 99 k = mw_worth (mt_set t a b q k) a q ∧ t1 100 k = mw_worth (mt_set t a b q k) b q)
theorem mt_laid_up {t t1 : hy_T} {a b q : Int} {n : Nat} (h : mt_laid t a b q n t1) {t2 : hy_T} (h2 : ∀ k : Nat, k < n → t2 101 k = t1 101 k ∧ t2 99 k = t1 99 k ∧ t2 100 k = t1 100 k) : mt_laid t a b q n t2 := fun k hk => by
  obtain ⟨e1, e2, e3⟩ := h2 k hk
  rw [e1, e2, e3]
  exact h k hk
theorem mt_laid_s {t t1 : hy_T} {a b q : Int} {n : Nat} (h : mt_laid t a b q n t1) (h1 : t1 101 n = hy_b (mt_can t a b q n)) (h2 : mt_can t a b q n = true → t1 99 n = mw_worth (mt_set t a b q n) a q ∧ t1 100 n = mw_worth (mt_set t a b q n) b q) : mt_laid t a b q (n + 1) t1 := fun k hk => by
  rcases Nat.lt_succ_iff_lt_or_eq.mp hk with hk | rfl
  · exact h k hk
  · exact ⟨h1, h2⟩
def mt_restN (C A B : Nat → Int) (k : Nat) : Nat → Bool
  | 0 => true
  | n + 1 => mt_restN C A B k n && (!(decide (C (12 * n + k % 12) ≠ 0) && decide (A k < A (12 * n + k % 12))) && !(decide (C (k / 12 * 12 + n) ≠ 0) && decide (B k < B (k / 12 * 12 + n))))
theorem mt_restN_le (C A B : Nat → Int) (k : Nat) : ∀ (n m : Nat), m ≤ n → mt_restN C A B k m = false → mt_restN C A B k n = false
  | 0, m, h, hf => by obtain rfl : m = 0 := (by omega); exact hf
  | n + 1, m, h, hf => by
    by_cases hm : m = n + 1
    · rw [← hm]; exact hf
    · simp only [mt_restN, mt_restN_le C A B k n m (by omega) hf, Bool.false_and]
def mt_btN (C A B : Nat → Int) : Nat → Int × Int
  | 0 => (0, -1)
  | n + 1 => if C n ≠ 0 ∧ mt_restN C A B n 12 = true then ((mt_btN C A B n).1 + 1, if (mt_btN C A B n).2 = -1 then (n : Int) else (mt_btN C A B n).2) else mt_btN C A B n
theorem mt_btN_in (C A B : Nat → Int) : ∀ n : Nat, (0 ≤ (mt_btN C A B n).1 ∧ (mt_btN C A B n).1 ≤ n) ∧ -1 ≤ (mt_btN C A B n).2 ∧ (mt_btN C A B n).2 ≤ n
  | 0 => by simp [mt_btN]
  | n + 1 => by
    have h := mt_btN_in C A B n
    simp only [mt_btN]
    split
    · dsimp only
      split <;> omega
    · omega
def mt_btA (p : Int × Int) (w : Int) : Int := if w = 0 then p.1 else if p.2 = -1 then -2 else if w = 1 then p.2 / 12 else p.2 % 12
abbrev mt_btc (a b q w : Int) : Prop := (0 ≤ a ∧ a < 6) ∧ (0 ≤ b ∧ b < 6) ∧ a ≠ b ∧ (0 ≤ q ∧ q < 4) ∧ 0 ≤ w ∧ w ≤ 2
section MT
variable {sc : List Int32} {t : hy_T}
theorem c_M_canTake {e o c q : Int} (hq : 0 ≤ q ∧ q < 4) : hy_Ct sc hm_M_canTake 3 [.inr (some 59), .inl e, .inl o, .inl c, .inl q] t (hy_e (some (hy_b (mt_take t e o c q))) t) := by
  refine hy_mk_ct ok_M_canTake ck_M_canTake (Nat.le_of_ble_eq_true rfl) ?_
  refine hy_aload (i := 0) rfl rfl ?_
  refine hy_iload (i := 1) rfl rfl ?_
  refine hy_cV1e (i := 2) rfl mj_M_isPlain (by decide) rfl (Nat.le_of_ble_eq_true rfl) rfl rfl rfl (c_M_isPlain) ?_
  refine hy_ib_eq (i := 3) (tt := 28) rfl (fun zc1 => ?_) (fun zc1 => ?_)
  · refine hy_const (i := 28) rfl (by decide) ?_
    refine hy_zreturn (i := 29) rfl rfl (by first | decide | exact hy_b01 _) ?_
    refine ⟨congrArg some ?_, rfl⟩
    unfold mt_take mf_plain
    first | (rw [zc1, zc2, zc3]; rfl) | (rw [zc1, zc2]; rfl) | (rw [zc1]; rfl)
  · refine hy_aload (i := 4) rfl rfl ?_
    refine hy_getr (i := 5) rfl rfl ?_
    refine hy_const (i := 6) rfl (by decide) ?_
    refine hy_iload (i := 7) rfl rfl ?_
    refine hy_imul (i := 8) rfl (by have hc := sp_told_in (Bool.and_eq_true _ _ ▸ zc1).1; omega) ?_
    refine hy_iload (i := 9) rfl rfl ?_
    refine hy_iadd (i := 10) rfl (by have hc := sp_told_in (Bool.and_eq_true _ _ ▸ zc1).1; omega) ?_
    refine hy_iald (i := 11) rfl rfl (by have hc := sp_told_in (Bool.and_eq_true _ _ ▸ zc1).1; omega) rfl ?_
    refine hy_iload (i := 12) rfl rfl ?_
    refine hy_cS2e (i := 13) rfl (by decide) mj_M_has (by decide) rfl (Nat.le_of_ble_eq_true rfl) (c_M_has) ?_
    refine hy_ib_eq (i := 14) (tt := 28) rfl (fun zc2 => ?_) (fun zc2 => ?_)
    · refine hy_const (i := 28) rfl (by decide) ?_
      refine hy_zreturn (i := 29) rfl rfl (by first | decide | exact hy_b01 _) ?_
      refine ⟨congrArg some ?_, rfl⟩
      unfold mt_take mf_plain
      first | (rw [zc1, zc2, zc3]; rfl) | (rw [zc1, zc2]; rfl) | (rw [zc1]; rfl)
    · refine hy_aload (i := 15) rfl rfl ?_
      refine hy_getr (i := 16) rfl rfl ?_
      refine hy_const (i := 17) rfl (by decide) ?_
      refine hy_iload (i := 18) rfl rfl ?_
      refine hy_imul (i := 19) rfl (by have hc := sp_told_in (Bool.and_eq_true _ _ ▸ zc1).1; omega) ?_
      refine hy_iload (i := 20) rfl rfl ?_
      refine hy_iadd (i := 21) rfl (by have hc := sp_told_in (Bool.and_eq_true _ _ ▸ zc1).1; omega) ?_
      refine hy_iald (i := 22) rfl rfl (by have hc := sp_told_in (Bool.and_eq_true _ _ ▸ zc1).1; omega) rfl ?_
      refine hy_iload (i := 23) rfl rfl ?_
      refine hy_cS2e (i := 24) rfl (by decide) mj_M_has (by decide) rfl (Nat.le_of_ble_eq_true rfl) (c_M_has) ?_
      refine hy_ib_ne (i := 25) (tt := 28) rfl (fun zc3 => ?_) (fun zc3 => ?_)
      · refine hy_const (i := 28) rfl (by decide) ?_
        refine hy_zreturn (i := 29) rfl rfl (by first | decide | exact hy_b01 _) ?_
        refine ⟨congrArg some ?_, rfl⟩
        unfold mt_take mf_plain
        first | (rw [zc1, zc2, zc3]; rfl) | (rw [zc1, zc2]; rfl) | (rw [zc1]; rfl)
      · refine hy_const (i := 26) rfl (by decide) ?_
        refine hy_goto (i := 27) (tt := 29) rfl ?_
        refine hy_zreturn (i := 29) rfl rfl (by first | decide | exact hy_b01 _) ?_
        refine ⟨congrArg some ?_, rfl⟩
        unfold mt_take mf_plain
        first | (rw [zc1, zc2, zc3]; rfl) | (rw [zc1, zc2]; rfl) | (rw [zc1]; rfl)
theorem c_M_laysFights {a b q : Int} (hk : ml_ok t) (hq : 0 ≤ q ∧ q < 4) : hy_Ct sc hm_M_laysFights 7 [.inr (some 59), .inl a, .inl b, .inl q] t (fun r t' => r = none ∧ hy_F btX t t' ∧ mt_laid t a b q 144 t') := by
  refine hy_mk_ct ok_M_laysFights ck_M_laysFights (Nat.le_of_ble_eq_true rfl) ?_
  have loop : ∀ (m : Nat), ∀ (k : Nat) (t1 : hy_T) (v5 v6 : hy_V), m + k = 144 → hy_F btX t t1 → as_of t t1 → mt_laid t a b q k t1 → hy_W sc hm_M_laysFights 7 4 [.inr (some 59), .inl a, .inl b, .inl q, .inl (k : Int), v5, v6] [] t1 (fun r t' => r = none ∧ hy_F btX t t' ∧ mt_laid t a b q 144 t') := by
    intro m
    induction m with
    | zero =>
      intro k t1 v5 v6 hm hF ha hl
      obtain rfl : k = 144 := by omega
      refine hy_iload (i := 4) rfl rfl ?_
      refine hy_const (i := 5) rfl (by decide) ?_
      refine hy_ic_ge (i := 6) (tt := 94) rfl (fun zc1 => ?_) (fun zc1 => ?_)
      · refine hy_return (i := 94) rfl rfl ?_
        exact ⟨rfl, hF, hl⟩
      · omega
    | succ m ih =>
      intro k t1 v5 v6 hm hF ha hl
      have c1 := mt_take_F hF btX_mw a b ((k : Int) / 12) q
      have c2 := mt_take_F hF btX_mw b a ((k : Int) % 12) q
      by_cases hc : mt_can t a b q k = true
      · have hc2 := hc
        simp only [mt_can, Bool.and_eq_true] at hc2
        have hF1 : hy_F btX t (hy_up t1 101 k 1) := hF.up rfl
        have hS := mt_set_F (hy_up t1 101 k 1) a b q (k := k) (by omega)
        have hG := mt_set_G hF1 (fun _ => rfl) a b q k
        have hkS := ml_ok_F hS hvX_law (ml_ok_F hF1 btX_law hk)
        have back : ∀ (u3 u4 : hy_T), hy_F mvX (mt_set (hy_up t1 101 k 1) a b q k) u3 → hy_F mvX (hy_up u3 99 k (mw_worth (mt_set t a b q k) a q)) u4 → hy_F btX t (mf_again (hy_up u4 100 k (mw_worth (mt_set t a b q k) b q))) ∧ as_of t (mf_again (hy_up u4 100 k (mw_worth (mt_set t a b q k) b q))) ∧ mt_laid t a b q (k + 1) (mf_again (hy_up u4 100 k (mw_worth (mt_set t a b q k) b q))) := by
          intro u3 u4 h3 h4
          have e : ∀ r j, stX r j = false → (r ≠ 77 ∧ r ≠ 78) → hy_up u4 100 k (mw_worth (mt_set t a b q k) b q) r j = hy_up (hy_up (hy_up t1 101 k 1) 99 k (mw_worth (mt_set t a b q k) a q)) 100 k (mw_worth (mt_set t a b q k) b q) r j := by
            intro r j hs hr
            simp only [hy_up]
            by_cases g1 : r = 100 ∧ j = k
            · rw [if_pos g1, if_pos g1]
            · rw [if_neg g1, if_neg g1, h4 r j (by simp [mvX]; omega)]
              simp only [hy_up]
              by_cases g2 : r = 99 ∧ j = k
              · rw [if_pos g2, if_pos g2]
              · rw [if_neg g2, if_neg g2, h3 r j (by simp [mvX]; omega), hS r j (by revert hs; simp [stX, hvX]; omega)]
                rfl
          have hu : as_of t (hy_up u4 100 k (mw_worth (mt_set t a b q k) b q)) := by
            obtain ⟨a1, a2, a3, a4, a5⟩ := ha
            exact ⟨fun j hj => by rw [e 91 j rfl (by decide), hy_up_ne (by decide), hy_up_ne (by decide), hy_up_ne (by decide)]; exact a1 j hj, fun i hi j hj => by rw [e 92 _ rfl (by decide), hy_up_ne (by decide), hy_up_ne (by decide), hy_up_ne (by decide)]; exact a2 i hi j hj, by rw [e 59 51 rfl (by decide), hy_up_ne (by decide), hy_up_ne (by decide), hy_up_ne (by decide)]; exact a3, by rw [e 59 52 rfl (by decide), hy_up_ne (by decide), hy_up_ne (by decide), hy_up_ne (by decide)]; exact a4, by rw [e 59 53 rfl (by decide), hy_up_ne (by decide), hy_up_ne (by decide), hy_up_ne (by decide)]; exact a5⟩
          refine ⟨again_back hu (fun r j hX hs => ?_), as_of_F (again_F _) (fun r j h => by revert h; simp [mfaX, stX]; omega) hu, ?_⟩
          · have hr : (r ≠ 77 ∧ r ≠ 78) ∧ r ≠ 99 ∧ r ≠ 100 ∧ r ≠ 101 := by revert hX; simp [btX, pwX, mvX]; omega
            rw [e r j hs hr.1, hy_up_ne (by omega), hy_up_ne (by omega), hy_up_ne (by omega)]
            exact hF r j hX
          · have g99 : ∀ j, mf_again (hy_up u4 100 k (mw_worth (mt_set t a b q k) b q)) 99 j = hy_up t1 99 k (mw_worth (mt_set t a b q k) a q) 99 j := fun j => by rw [again_F _ 99 j rfl, e 99 j rfl (by decide)]; simp [hy_up]
            have g100 : ∀ j, mf_again (hy_up u4 100 k (mw_worth (mt_set t a b q k) b q)) 100 j = hy_up t1 100 k (mw_worth (mt_set t a b q k) b q) 100 j := fun j => by rw [again_F _ 100 j rfl, e 100 j rfl (by decide)]; simp [hy_up]
            have g101 : ∀ j, mf_again (hy_up u4 100 k (mw_worth (mt_set t a b q k) b q)) 101 j = hy_up t1 101 k 1 101 j := fun j => by rw [again_F _ 101 j rfl, e 101 j rfl (by decide)]; simp [hy_up]
            refine mt_laid_s (mt_laid_up hl (fun j hj => ?_)) ?_ (fun _ => ?_)
            · rw [g99, g100, g101]
              simp only [hy_up]
              rw [if_neg (by omega), if_neg (by omega), if_neg (by omega)]
              exact ⟨rfl, rfl, rfl⟩
            · rw [g101, hc]; simp [hy_up, hy_b]
            · rw [g99, g100]; simp [hy_up]
        have w3 : mw_worth (mt_set (hy_up t1 101 k 1) a b q k) a q = mw_worth (mt_set t a b q k) a q := mw_worth_F hG btX_mw a q
        have w4 : ∀ u3, hy_F mvX (mt_set (hy_up t1 101 k 1) a b q k) u3 → ml_ok (hy_up u3 99 k (mw_worth (mt_set t a b q k) a q)) ∧ mw_worth (hy_up u3 99 k (mw_worth (mt_set t a b q k) a q)) b q = mw_worth (mt_set t a b q k) b q := fun u3 h3 => by
          have h4 : hy_F btX (mt_set (hy_up t1 101 k 1) a b q k) (hy_up u3 99 k (mw_worth (mt_set t a b q k) a q)) := (h3.w (fun r j q => by revert q; simp [btX, pwX, mvX]; omega)).up rfl
          exact ⟨ml_ok_F h4 btX_law hkS, mw_worth_F (hG.tr' h4) btX_mw b q⟩
        refine hy_iload (i := 4) rfl rfl ?_
        refine hy_const (i := 5) rfl (by decide) ?_
        refine hy_ic_ge (i := 6) (tt := 94) rfl (fun zc1 => ?_) (fun zc1 => ?_)
        · omega
        · refine hy_iload (i := 7) rfl rfl ?_
          refine hy_const (i := 8) rfl (by decide) ?_
          refine hy_idiv (i := 9) rfl (by omega) (by omega) ?_
          refine hy_istore (i := 10) rfl ?_
          refine hy_iload (i := 11) rfl rfl ?_
          refine hy_const (i := 12) rfl (by decide) ?_
          refine hy_irem (i := 13) rfl (by omega) (by omega) ?_
          refine hy_istore (i := 14) rfl ?_
          refine hy_aload (i := 15) rfl rfl ?_
          refine hy_getr (i := 16) rfl rfl ?_
          refine hy_iload (i := 17) rfl rfl ?_
          refine hy_aload (i := 18) rfl rfl ?_
          refine hy_iload (i := 19) rfl rfl ?_
          refine hy_iload (i := 20) rfl rfl ?_
          refine hy_iload (i := 21) rfl rfl ?_
          refine hy_iload (i := 22) rfl rfl ?_
          refine hy_cV4e (i := 23) rfl mj_M_canTake (by decide) rfl (Nat.le_of_ble_eq_true rfl) rfl rfl rfl (c_M_canTake (by omega)) ?_
          rw [c1]
          refine hy_ib_eq (i := 24) (tt := 34) rfl (fun zc2 => ?_) (fun zc2 => ?_)
          · exact bb_abs hc2.1 (by assumption)
          · refine hy_aload (i := 25) rfl rfl ?_
            refine hy_iload (i := 26) rfl rfl ?_
            refine hy_iload (i := 27) rfl rfl ?_
            refine hy_iload (i := 28) rfl rfl ?_
            refine hy_iload (i := 29) rfl rfl ?_
            refine hy_cV4e (i := 30) rfl mj_M_canTake (by decide) rfl (Nat.le_of_ble_eq_true rfl) rfl rfl rfl (c_M_canTake (by omega)) ?_
            rw [c2]
            refine hy_ib_eq (i := 31) (tt := 34) rfl (fun zc3 => ?_) (fun zc3 => ?_)
            · exact bb_abs hc2.2 (by assumption)
            · refine hy_const (i := 32) rfl (by decide) ?_
              refine hy_goto (i := 33) (tt := 35) rfl ?_
              refine hy_zast (i := 35) rfl rfl (by omega) (k := k) (by omega) (.inr rfl) ?_
              refine hy_aload (i := 36) rfl rfl ?_
              refine hy_getr (i := 37) rfl rfl ?_
              refine hy_iload (i := 38) rfl rfl ?_
              refine hy_bald (i := 39) rfl rfl (by decide) (by omega) (k := k) (by omega) ?_
              rw [show hy_up t1 101 k 1 101 k = 1 by simp [hy_up]]
              refine hy_if_ne (i := 40) (tt := 42) rfl (fun zc4 => ?_) (fun zc4 => ?_)
              · refine hy_aload (i := 42) rfl rfl ?_
                refine hy_iload (i := 43) rfl rfl ?_
                refine hy_const (i := 44) rfl (by decide) ?_
                refine hy_iload (i := 45) rfl rfl ?_
                refine hy_ishl (i := 46) rfl ?_
                refine hy_iload (i := 47) rfl rfl ?_
                refine hy_const (i := 48) rfl (by decide) ?_
                refine hy_cV4v (i := 49) rfl mj_M_changes (by decide) rfl (Nat.le_of_ble_eq_true rfl) rfl rfl rfl (c_M_changes (by omega)) ?_
                refine hy_aload (i := 50) rfl rfl ?_
                refine hy_iload (i := 51) rfl rfl ?_
                refine hy_const (i := 52) rfl (by decide) ?_
                refine hy_iload (i := 53) rfl rfl ?_
                refine hy_ishl (i := 54) rfl ?_
                refine hy_iload (i := 55) rfl rfl ?_
                refine hy_const (i := 56) rfl (by decide) ?_
                refine hy_cV4v (i := 57) rfl mj_M_changes (by decide) rfl (Nat.le_of_ble_eq_true rfl) rfl rfl rfl (c_M_changes (by omega)) ?_
                refine hy_aload (i := 58) rfl rfl ?_
                refine hy_iload (i := 59) rfl rfl ?_
                refine hy_const (i := 60) rfl (by decide) ?_
                refine hy_iload (i := 61) rfl rfl ?_
                refine hy_ishl (i := 62) rfl ?_
                refine hy_iload (i := 63) rfl rfl ?_
                refine hy_const (i := 64) rfl (by decide) ?_
                refine hy_cV4v (i := 65) rfl mj_M_changes (by decide) rfl (Nat.le_of_ble_eq_true rfl) rfl rfl rfl (c_M_changes (by omega)) ?_
                refine hy_aload (i := 66) rfl rfl ?_
                refine hy_iload (i := 67) rfl rfl ?_
                refine hy_const (i := 68) rfl (by decide) ?_
                refine hy_iload (i := 69) rfl rfl ?_
                refine hy_ishl (i := 70) rfl ?_
                refine hy_iload (i := 71) rfl rfl ?_
                refine hy_const (i := 72) rfl (by decide) ?_
                refine hy_cV4v (i := 73) rfl mj_M_changes (by decide) rfl (Nat.le_of_ble_eq_true rfl) rfl rfl rfl (c_M_changes (by omega)) ?_
                refine hy_aload (i := 74) rfl rfl ?_
                refine hy_getr (i := 75) rfl rfl ?_
                refine hy_iload (i := 76) rfl rfl ?_
                refine hy_aload (i := 77) rfl rfl ?_
                refine hy_iload (i := 78) rfl rfl ?_
                refine hy_iload (i := 79) rfl rfl ?_
                refine hy_cV2 (i := 80) rfl mj_M_worthOf (by decide) rfl (Nat.le_of_ble_eq_true rfl) rfl rfl rfl (c_M_worthOf hkS (by omega)) (fun r7_ t7_ h7 => ?_)
                obtain ⟨rfl, hF7⟩ := h7
                dsimp only [hy_st, List.cons_append, List.nil_append]
                rw [show mw_worth (mf_chN _ _ _ _ _ _) a q = mw_worth (mt_set t a b q k) a q from w3]
                refine hy_iast (i := 81) rfl rfl (by omega) (k := k) (by omega) ?_
                refine hy_aload (i := 82) rfl rfl ?_
                refine hy_getr (i := 83) rfl rfl ?_
                refine hy_iload (i := 84) rfl rfl ?_
                refine hy_aload (i := 85) rfl rfl ?_
                refine hy_iload (i := 86) rfl rfl ?_
                refine hy_iload (i := 87) rfl rfl ?_
                obtain ⟨hk6, w6⟩ := w4 _ (show hy_F mvX _ _ by assumption)
                refine hy_cV2 (i := 88) rfl mj_M_worthOf (by decide) rfl (Nat.le_of_ble_eq_true rfl) rfl rfl rfl (c_M_worthOf hk6 (by omega)) (fun r8_ t8_ h8 => ?_)
                obtain ⟨rfl, hF8⟩ := h8
                dsimp only [hy_st, List.cons_append, List.nil_append]
                rw [w6]
                refine hy_iast (i := 89) rfl rfl (by omega) (k := k) (by omega) ?_
                refine hy_aload (i := 90) rfl rfl ?_
                refine hy_cV0v (i := 91) rfl mj_M_again (by decide) rfl (Nat.le_of_ble_eq_true rfl) rfl rfl rfl (c_M_again) ?_
                refine hy_iinc (i := 92) rfl rfl (by omega) ?_
                refine hy_goto (i := 93) (tt := 4) rfl ?_
                obtain ⟨q1, q2, q3⟩ := back _ _ hF7 hF8
                exact ih (k + 1) _ _ _ (by omega) q1 q2 q3
              · omega
      · rw [Bool.not_eq_true] at hc
        have hn := hc
        simp only [mt_can] at hn
        refine hy_iload (i := 4) rfl rfl ?_
        refine hy_const (i := 5) rfl (by decide) ?_
        refine hy_ic_ge (i := 6) (tt := 94) rfl (fun zc1 => ?_) (fun zc1 => ?_)
        · omega
        · refine hy_iload (i := 7) rfl rfl ?_
          refine hy_const (i := 8) rfl (by decide) ?_
          refine hy_idiv (i := 9) rfl (by omega) (by omega) ?_
          refine hy_istore (i := 10) rfl ?_
          refine hy_iload (i := 11) rfl rfl ?_
          refine hy_const (i := 12) rfl (by decide) ?_
          refine hy_irem (i := 13) rfl (by omega) (by omega) ?_
          refine hy_istore (i := 14) rfl ?_
          refine hy_aload (i := 15) rfl rfl ?_
          refine hy_getr (i := 16) rfl rfl ?_
          refine hy_iload (i := 17) rfl rfl ?_
          refine hy_aload (i := 18) rfl rfl ?_
          refine hy_iload (i := 19) rfl rfl ?_
          refine hy_iload (i := 20) rfl rfl ?_
          refine hy_iload (i := 21) rfl rfl ?_
          refine hy_iload (i := 22) rfl rfl ?_
          refine hy_cV4e (i := 23) rfl mj_M_canTake (by decide) rfl (Nat.le_of_ble_eq_true rfl) rfl rfl rfl (c_M_canTake (by omega)) ?_
          rw [c1]
          refine hy_ib_eq (i := 24) (tt := 34) rfl (fun zc2 => ?_) (fun zc2 => ?_)
          · refine hy_const (i := 34) rfl (by decide) ?_
            refine hy_zast (i := 35) rfl rfl (by omega) (k := k) (by omega) (.inl rfl) ?_
            refine hy_aload (i := 36) rfl rfl ?_
            refine hy_getr (i := 37) rfl rfl ?_
            refine hy_iload (i := 38) rfl rfl ?_
            refine hy_bald (i := 39) rfl rfl (by decide) (by omega) (k := k) (by omega) ?_
            rw [show hy_up t1 101 k 0 101 k = 0 by simp [hy_up]]
            refine hy_if_ne (i := 40) (tt := 42) rfl (fun zc3 => ?_) (fun zc3 => ?_)
            · omega
            · refine hy_goto (i := 41) (tt := 92) rfl ?_
              refine hy_iinc (i := 92) rfl rfl (by omega) ?_
              refine hy_goto (i := 93) (tt := 4) rfl ?_
              exact ih (k + 1) _ _ _ (by omega) (hF.up rfl) (as_of_F (X := fun r _ => r == 101) (hy_F.rf.up rfl) (fun r j h => by revert h; simp [mfaX]; omega) ha) (mt_laid_s (mt_laid_up hl (fun j hj => by simp [hy_up]; omega)) (by rw [hc]; simp [hy_up, hy_b]) (fun h => bb_abs h hc))
          · refine hy_aload (i := 25) rfl rfl ?_
            refine hy_iload (i := 26) rfl rfl ?_
            refine hy_iload (i := 27) rfl rfl ?_
            refine hy_iload (i := 28) rfl rfl ?_
            refine hy_iload (i := 29) rfl rfl ?_
            refine hy_cV4e (i := 30) rfl mj_M_canTake (by decide) rfl (Nat.le_of_ble_eq_true rfl) rfl rfl rfl (c_M_canTake (by omega)) ?_
            rw [c2]
            refine hy_ib_eq (i := 31) (tt := 34) rfl (fun zc3 => ?_) (fun zc3 => ?_)
            · refine hy_const (i := 34) rfl (by decide) ?_
              refine hy_zast (i := 35) rfl rfl (by omega) (k := k) (by omega) (.inl rfl) ?_
              refine hy_aload (i := 36) rfl rfl ?_
              refine hy_getr (i := 37) rfl rfl ?_
              refine hy_iload (i := 38) rfl rfl ?_
              refine hy_bald (i := 39) rfl rfl (by decide) (by omega) (k := k) (by omega) ?_
              rw [show hy_up t1 101 k 0 101 k = 0 by simp [hy_up]]
              refine hy_if_ne (i := 40) (tt := 42) rfl (fun zc4 => ?_) (fun zc4 => ?_)
              · omega
              · refine hy_goto (i := 41) (tt := 92) rfl ?_
                refine hy_iinc (i := 92) rfl rfl (by omega) ?_
                refine hy_goto (i := 93) (tt := 4) rfl ?_
                exact ih (k + 1) _ _ _ (by omega) (hF.up rfl) (as_of_F (X := fun r _ => r == 101) (hy_F.rf.up rfl) (fun r j h => by revert h; simp [mfaX]; omega) ha) (mt_laid_s (mt_laid_up hl (fun j hj => by simp [hy_up]; omega)) (by rw [hc]; simp [hy_up, hy_b]) (fun h => bb_abs h hc))
            · rw [show mt_take t a b ((k : Int) / 12) q = true by assumption, show mt_take t b a ((k : Int) % 12) q = true by assumption] at hn; cases hn
  obtain ⟨ha, hF⟩ := begins_as t
  refine hy_aload (i := 0) rfl rfl ?_
  refine hy_cV0v (i := 1) rfl mj_M_begins (by decide) rfl (Nat.le_of_ble_eq_true rfl) rfl rfl rfl (c_M_begins) ?_
  refine hy_const (i := 2) rfl (by decide) ?_
  refine hy_istore (i := 3) rfl ?_
  exact loop 144 0 _ _ _ rfl (hF.w (fun r j q => by revert q; simp [btX, pwX, mfaX, mvX]; omega)) ha (fun k hk => absurd hk (by omega))
theorem c_M_rests {k : Nat} (hk : k < 144) : hy_Ct sc hm_M_rests 0 [.inr (some 59), .inl (k : Int)] t (hy_e (some (hy_b (mt_restN (t 101) (t 99) (t 100) k 12))) t) := by
  refine hy_mk_ct ok_M_rests ck_M_rests (Nat.le_of_ble_eq_true rfl) ?_
  have loop : ∀ (m : Nat), ∀ (n : Nat) (v3 : hy_V), m + n = 12 → mt_restN (t 101) (t 99) (t 100) k n = true → hy_W sc hm_M_rests 0 2 [.inr (some 59), .inl (k : Int), .inl (n : Int), v3] [] t (hy_e (some (hy_b (mt_restN (t 101) (t 99) (t 100) k 12))) t) := by
    intro m
    induction m with
    | zero =>
      intro n v3 hm hr
      obtain rfl : n = 12 := by omega
      refine hy_iload (i := 2) rfl rfl ?_
      refine hy_const (i := 3) rfl (by decide) ?_
      refine hy_ic_ge (i := 4) (tt := 55) rfl (fun zc1 => ?_) (fun zc1 => ?_)
      · refine hy_const (i := 55) rfl (by decide) ?_
        refine hy_zreturn (i := 56) rfl rfl (by first | decide | exact hy_b01 _) ?_
        exact ⟨congrArg some (by rw [hr]; rfl), rfl⟩
      · omega
    | succ m ih =>
      intro n v3 hm hr
      have e1 : mt_restN (t 101) (t 99) (t 100) k (n + 1) = (!(decide (t 101 (12 * n + k % 12) ≠ 0) && decide (t 99 k < t 99 (12 * n + k % 12))) && !(decide (t 101 (k / 12 * 12 + n) ≠ 0) && decide (t 100 k < t 100 (k / 12 * 12 + n)))) := by simp only [mt_restN]; rw [hr, Bool.true_and]
      refine hy_iload (i := 2) rfl rfl ?_
      refine hy_const (i := 3) rfl (by decide) ?_
      refine hy_ic_ge (i := 4) (tt := 55) rfl (fun zc1 => ?_) (fun zc1 => ?_)
      · omega
      · refine hy_const (i := 5) rfl (by decide) ?_
        refine hy_iload (i := 6) rfl rfl ?_
        refine hy_imul (i := 7) rfl (by omega) ?_
        refine hy_iload (i := 8) rfl rfl ?_
        refine hy_const (i := 9) rfl (by decide) ?_
        refine hy_irem (i := 10) rfl (by omega) (by omega) ?_
        refine hy_iadd (i := 11) rfl (by omega) ?_
        refine hy_istore (i := 12) rfl ?_
        refine hy_aload (i := 13) rfl rfl ?_
        refine hy_getr (i := 14) rfl rfl ?_
        refine hy_iload (i := 15) rfl rfl ?_
        refine hy_bald (i := 16) rfl rfl (by decide) (by omega) (k := 12 * n + k % 12) (by omega) ?_
        refine hy_if_eq (i := 17) (tt := 29) rfl (fun zc2 => ?_) (fun zc2 => ?_)
        · refine hy_iload (i := 29) rfl rfl ?_
          refine hy_const (i := 30) rfl (by decide) ?_
          refine hy_idiv (i := 31) rfl (by omega) (by omega) ?_
          refine hy_const (i := 32) rfl (by decide) ?_
          refine hy_imul (i := 33) rfl (by omega) ?_
          refine hy_iload (i := 34) rfl rfl ?_
          refine hy_iadd (i := 35) rfl (by omega) ?_
          refine hy_istore (i := 36) rfl ?_
          refine hy_aload (i := 37) rfl rfl ?_
          refine hy_getr (i := 38) rfl rfl ?_
          refine hy_iload (i := 39) rfl rfl ?_
          refine hy_bald (i := 40) rfl rfl (by decide) (by omega) (k := k / 12 * 12 + n) (by omega) ?_
          refine hy_if_eq (i := 41) (tt := 53) rfl (fun zc3 => ?_) (fun zc3 => ?_)
          · refine hy_iinc (i := 53) rfl rfl (by omega) ?_
            refine hy_goto (i := 54) (tt := 2) rfl ?_
            exact ih (n + 1) _ (by omega) (by rw [e1]; simp; omega)
          · refine hy_aload (i := 42) rfl rfl ?_
            refine hy_getr (i := 43) rfl rfl ?_
            refine hy_iload (i := 44) rfl rfl ?_
            refine hy_iald (i := 45) rfl rfl (by omega) (k := k / 12 * 12 + n) (by omega) ?_
            refine hy_aload (i := 46) rfl rfl ?_
            refine hy_getr (i := 47) rfl rfl ?_
            refine hy_iload (i := 48) rfl rfl ?_
            refine hy_iald (i := 49) rfl rfl (by omega) (k := k) (by omega) ?_
            refine hy_ic_le (i := 50) (tt := 53) rfl (fun zc4 => ?_) (fun zc4 => ?_)
            · refine hy_iinc (i := 53) rfl rfl (by omega) ?_
              refine hy_goto (i := 54) (tt := 2) rfl ?_
              exact ih (n + 1) _ (by omega) (by rw [e1]; simp; omega)
            · refine hy_const (i := 51) rfl (by decide) ?_
              refine hy_zreturn (i := 52) rfl rfl (by first | decide | exact hy_b01 _) ?_
              exact ⟨congrArg some (by rw [mt_restN_le (t 101) (t 99) (t 100) k 12 (n + 1) (by omega) (by rw [e1]; simp; omega)]; rfl), rfl⟩
        · refine hy_aload (i := 18) rfl rfl ?_
          refine hy_getr (i := 19) rfl rfl ?_
          refine hy_iload (i := 20) rfl rfl ?_
          refine hy_iald (i := 21) rfl rfl (by omega) (k := 12 * n + k % 12) (by omega) ?_
          refine hy_aload (i := 22) rfl rfl ?_
          refine hy_getr (i := 23) rfl rfl ?_
          refine hy_iload (i := 24) rfl rfl ?_
          refine hy_iald (i := 25) rfl rfl (by omega) (k := k) (by omega) ?_
          refine hy_ic_le (i := 26) (tt := 29) rfl (fun zc3 => ?_) (fun zc3 => ?_)
          · refine hy_iload (i := 29) rfl rfl ?_
            refine hy_const (i := 30) rfl (by decide) ?_
            refine hy_idiv (i := 31) rfl (by omega) (by omega) ?_
            refine hy_const (i := 32) rfl (by decide) ?_
            refine hy_imul (i := 33) rfl (by omega) ?_
            refine hy_iload (i := 34) rfl rfl ?_
            refine hy_iadd (i := 35) rfl (by omega) ?_
            refine hy_istore (i := 36) rfl ?_
            refine hy_aload (i := 37) rfl rfl ?_
            refine hy_getr (i := 38) rfl rfl ?_
            refine hy_iload (i := 39) rfl rfl ?_
            refine hy_bald (i := 40) rfl rfl (by decide) (by omega) (k := k / 12 * 12 + n) (by omega) ?_
            refine hy_if_eq (i := 41) (tt := 53) rfl (fun zc4 => ?_) (fun zc4 => ?_)
            · refine hy_iinc (i := 53) rfl rfl (by omega) ?_
              refine hy_goto (i := 54) (tt := 2) rfl ?_
              exact ih (n + 1) _ (by omega) (by rw [e1]; simp; omega)
            · refine hy_aload (i := 42) rfl rfl ?_
              refine hy_getr (i := 43) rfl rfl ?_
              refine hy_iload (i := 44) rfl rfl ?_
              refine hy_iald (i := 45) rfl rfl (by omega) (k := k / 12 * 12 + n) (by omega) ?_
              refine hy_aload (i := 46) rfl rfl ?_
              refine hy_getr (i := 47) rfl rfl ?_
              refine hy_iload (i := 48) rfl rfl ?_
              refine hy_iald (i := 49) rfl rfl (by omega) (k := k) (by omega) ?_
              refine hy_ic_le (i := 50) (tt := 53) rfl (fun zc5 => ?_) (fun zc5 => ?_)
              · refine hy_iinc (i := 53) rfl rfl (by omega) ?_
                refine hy_goto (i := 54) (tt := 2) rfl ?_
                exact ih (n + 1) _ (by omega) (by rw [e1]; simp; omega)
              · refine hy_const (i := 51) rfl (by decide) ?_
                refine hy_zreturn (i := 52) rfl rfl (by first | decide | exact hy_b01 _) ?_
                exact ⟨congrArg some (by rw [mt_restN_le (t 101) (t 99) (t 100) k 12 (n + 1) (by omega) (by rw [e1]; simp; omega)]; rfl), rfl⟩
          · refine hy_const (i := 27) rfl (by decide) ?_
            refine hy_zreturn (i := 28) rfl rfl (by first | decide | exact hy_b01 _) ?_
            exact ⟨congrArg some (by rw [mt_restN_le (t 101) (t 99) (t 100) k 12 (n + 1) (by omega) (by rw [e1]; simp; omega)]; rfl), rfl⟩
  refine hy_const (i := 0) rfl (by decide) ?_
  refine hy_istore (i := 1) rfl ?_
  exact loop 12 0 _ rfl rfl
theorem c_M_battle {a b q w : Int} (hk : ml_ok t) : hy_Ct sc hm_M_battle 8 [.inr (some 59), .inl a, .inl b, .inl q, .inl w] t (fun r t' => r = some (if mt_btc a b q w then mt_btA (mt_btN (t' 101) (t' 99) (t' 100) 144) w else -1) ∧ hy_F btX t t' ∧ (mt_btc a b q w → mt_laid t a b q 144 t')) := by
  refine hy_mk_ct ok_M_battle ck_M_battle (Nat.le_of_ble_eq_true rfl) ?_
  by_cases hq : mt_btc a b q w
  · simp only [if_pos hq]
    have loop : ∀ (t1 : hy_T), hy_F btX t t1 → mt_laid t a b q 144 t1 → ∀ (m : Nat), ∀ (k : Nat), m + k = 144 → hy_W sc hm_M_battle 8 30 [.inr (some 59), .inl a, .inl b, .inl q, .inl w, .inl (mt_btN (t1 101) (t1 99) (t1 100) k).1, .inl (mt_btN (t1 101) (t1 99) (t1 100) k).2, .inl (k : Int)] [] t1 (fun r t' => r = some (mt_btA (mt_btN (t' 101) (t' 99) (t' 100) 144) w) ∧ hy_F btX t t' ∧ (mt_btc a b q w → mt_laid t a b q 144 t')) := by
      intro t1 hF hl m
      induction m with
      | zero =>
        intro k hm
        obtain rfl : k = 144 := by omega
        have hin := mt_btN_in (t1 101) (t1 99) (t1 100) 144
        refine hy_iload (i := 30) rfl rfl ?_
        refine hy_const (i := 31) rfl (by decide) ?_
        refine hy_ic_ge (i := 32) (tt := 56) rfl (fun zc1 => ?_) (fun zc1 => ?_)
        · refine hy_iload (i := 56) rfl rfl ?_
          refine hy_if_ne (i := 57) (tt := 60) rfl (fun zc2 => ?_) (fun zc2 => ?_)
          · refine hy_iload (i := 60) rfl rfl ?_
            refine hy_const (i := 61) rfl (by decide) ?_
            refine hy_ic_ne (i := 62) (tt := 65) rfl (fun zc3 => ?_) (fun zc3 => ?_)
            · refine hy_iload (i := 65) rfl rfl ?_
              refine hy_const (i := 66) rfl (by decide) ?_
              refine hy_ic_ne (i := 67) (tt := 72) rfl (fun zc4 => ?_) (fun zc4 => ?_)
              · refine hy_iload (i := 72) rfl rfl ?_
                refine hy_const (i := 73) rfl (by decide) ?_
                refine hy_irem (i := 74) rfl (by omega) (by omega) ?_
                refine hy_ireturn (i := 75) rfl rfl ?_
                refine ⟨congrArg some ?_, hF, fun _ => hl⟩
                unfold mt_btA
                (repeat (first | rw [if_pos (by omega)] | rw [if_neg (by omega)]))
              · refine hy_iload (i := 68) rfl rfl ?_
                refine hy_const (i := 69) rfl (by decide) ?_
                refine hy_idiv (i := 70) rfl (by omega) (by omega) ?_
                refine hy_goto (i := 71) (tt := 75) rfl ?_
                refine hy_ireturn (i := 75) rfl rfl ?_
                refine ⟨congrArg some ?_, hF, fun _ => hl⟩
                unfold mt_btA
                (repeat (first | rw [if_pos (by omega)] | rw [if_neg (by omega)]))
            · refine hy_const (i := 63) rfl (by decide) ?_
              refine hy_goto (i := 64) (tt := 75) rfl ?_
              refine hy_ireturn (i := 75) rfl rfl ?_
              refine ⟨congrArg some ?_, hF, fun _ => hl⟩
              unfold mt_btA
              (repeat (first | rw [if_pos (by omega)] | rw [if_neg (by omega)]))
          · refine hy_iload (i := 58) rfl rfl ?_
            refine hy_goto (i := 59) (tt := 75) rfl ?_
            refine hy_ireturn (i := 75) rfl rfl ?_
            refine ⟨congrArg some ?_, hF, fun _ => hl⟩
            unfold mt_btA
            (repeat (first | rw [if_pos (by omega)] | rw [if_neg (by omega)]))
        · omega
      | succ m ih =>
        intro k hm
        have hin := mt_btN_in (t1 101) (t1 99) (t1 100) k
        have e1 : mt_btN (t1 101) (t1 99) (t1 100) (k + 1) = if t1 101 k ≠ 0 ∧ mt_restN (t1 101) (t1 99) (t1 100) k 12 = true then ((mt_btN (t1 101) (t1 99) (t1 100) k).1 + 1, if (mt_btN (t1 101) (t1 99) (t1 100) k).2 = -1 then (k : Int) else (mt_btN (t1 101) (t1 99) (t1 100) k).2) else mt_btN (t1 101) (t1 99) (t1 100) k := rfl
        have ih' := ih (k + 1) (by omega)
        rw [e1] at ih'
        refine hy_iload (i := 30) rfl rfl ?_
        refine hy_const (i := 31) rfl (by decide) ?_
        refine hy_ic_ge (i := 32) (tt := 56) rfl (fun zc1 => ?_) (fun zc1 => ?_)
        · omega
        · refine hy_aload (i := 33) rfl rfl ?_
          refine hy_getr (i := 34) rfl rfl ?_
          refine hy_iload (i := 35) rfl rfl ?_
          refine hy_bald (i := 36) rfl rfl (by decide) (by omega) (k := k) (by omega) ?_
          refine hy_if_eq (i := 37) (tt := 54) rfl (fun zc2 => ?_) (fun zc2 => ?_)
          · refine hy_iinc (i := 54) rfl rfl (by omega) ?_
            refine hy_goto (i := 55) (tt := 30) rfl ?_
            first | (rw [if_pos ⟨by assumption, by assumption⟩] at ih'; dsimp only at ih'; first | (rw [if_pos (by assumption)] at ih'; exact ih') | (rw [if_neg (by assumption)] at ih'; exact ih')) | (rw [if_neg (fun h => h.1 (by assumption))] at ih'; exact ih') | (rw [if_neg (fun h => bb_abs h.2 (by assumption))] at ih'; exact ih')
          · refine hy_aload (i := 38) rfl rfl ?_
            refine hy_iload (i := 39) rfl rfl ?_
            refine hy_cV1e (i := 40) rfl mj_M_rests (by decide) rfl (Nat.le_of_ble_eq_true rfl) rfl rfl rfl (c_M_rests (k := k) (by omega)) ?_
            refine hy_ib_ne (i := 41) (tt := 43) rfl (fun zc3 => ?_) (fun zc3 => ?_)
            · refine hy_iload (i := 43) rfl rfl ?_
              refine hy_const (i := 44) rfl (by decide) ?_
              refine hy_ic_ne (i := 45) (tt := 48) rfl (fun zc4 => ?_) (fun zc4 => ?_)
              · refine hy_iload (i := 48) rfl rfl ?_
                refine hy_istore (i := 49) rfl ?_
                refine hy_iload (i := 50) rfl rfl ?_
                refine hy_const (i := 51) rfl (by decide) ?_
                refine hy_iadd (i := 52) rfl (by omega) ?_
                refine hy_istore (i := 53) rfl ?_
                refine hy_iinc (i := 54) rfl rfl (by omega) ?_
                refine hy_goto (i := 55) (tt := 30) rfl ?_
                first | (rw [if_pos ⟨by assumption, by assumption⟩] at ih'; dsimp only at ih'; first | (rw [if_pos (by assumption)] at ih'; exact ih') | (rw [if_neg (by assumption)] at ih'; exact ih')) | (rw [if_neg (fun h => h.1 (by assumption))] at ih'; exact ih') | (rw [if_neg (fun h => bb_abs h.2 (by assumption))] at ih'; exact ih')
              · refine hy_iload (i := 46) rfl rfl ?_
                refine hy_goto (i := 47) (tt := 49) rfl ?_
                refine hy_istore (i := 49) rfl ?_
                refine hy_iload (i := 50) rfl rfl ?_
                refine hy_const (i := 51) rfl (by decide) ?_
                refine hy_iadd (i := 52) rfl (by omega) ?_
                refine hy_istore (i := 53) rfl ?_
                refine hy_iinc (i := 54) rfl rfl (by omega) ?_
                refine hy_goto (i := 55) (tt := 30) rfl ?_
                first | (rw [if_pos ⟨by assumption, by assumption⟩] at ih'; dsimp only at ih'; first | (rw [if_pos (by assumption)] at ih'; exact ih') | (rw [if_neg (by assumption)] at ih'; exact ih')) | (rw [if_neg (fun h => h.1 (by assumption))] at ih'; exact ih') | (rw [if_neg (fun h => bb_abs h.2 (by assumption))] at ih'; exact ih')
            · refine hy_goto (i := 42) (tt := 54) rfl ?_
              refine hy_iinc (i := 54) rfl rfl (by omega) ?_
              refine hy_goto (i := 55) (tt := 30) rfl ?_
              first | (rw [if_pos ⟨by assumption, by assumption⟩] at ih'; dsimp only at ih'; first | (rw [if_pos (by assumption)] at ih'; exact ih') | (rw [if_neg (by assumption)] at ih'; exact ih')) | (rw [if_neg (fun h => h.1 (by assumption))] at ih'; exact ih') | (rw [if_neg (fun h => bb_abs h.2 (by assumption))] at ih'; exact ih')
    refine hy_iload (i := 0) rfl rfl ?_
    refine hy_cS1e (i := 1) rfl (by decide) mj_M_isEmpire (by decide) rfl (Nat.le_of_ble_eq_true rfl) (c_M_isEmpire) ?_
    refine hy_ib_eq (i := 2) (tt := 17) rfl (fun zc1 => ?_) (fun zc1 => ?_)
    · simp only [decide_eq_false_iff_not] at zc1; omega
    · refine hy_iload (i := 3) rfl rfl ?_
      refine hy_cS1e (i := 4) rfl (by decide) mj_M_isEmpire (by decide) rfl (Nat.le_of_ble_eq_true rfl) (c_M_isEmpire) ?_
      refine hy_ib_eq (i := 5) (tt := 17) rfl (fun zc2 => ?_) (fun zc2 => ?_)
      · simp only [decide_eq_false_iff_not] at zc2; omega
      · refine hy_iload (i := 6) rfl rfl ?_
        refine hy_iload (i := 7) rfl rfl ?_
        refine hy_ic_eq (i := 8) (tt := 17) rfl (fun zc3 => ?_) (fun zc3 => ?_)
        · omega
        · refine hy_iload (i := 9) rfl rfl ?_
          refine hy_cS1e (i := 10) rfl (by decide) mj_M_isQuarter (by decide) rfl (Nat.le_of_ble_eq_true rfl) (c_M_isQuarter) ?_
          refine hy_ib_eq (i := 11) (tt := 17) rfl (fun zc4 => ?_) (fun zc4 => ?_)
          · simp only [decide_eq_false_iff_not] at zc4; omega
          · refine hy_iload (i := 12) rfl rfl ?_
            refine hy_const (i := 13) rfl (by decide) ?_
            refine hy_const (i := 14) rfl (by decide) ?_
            refine hy_cS3e (i := 15) rfl (by decide) mj_M_in (by decide) rfl (Nat.le_of_ble_eq_true rfl) (c_M_in) ?_
            refine hy_ib_ne (i := 16) (tt := 19) rfl (fun zc5 => ?_) (fun zc5 => ?_)
            · refine hy_aload (i := 19) rfl rfl ?_
              refine hy_iload (i := 20) rfl rfl ?_
              refine hy_iload (i := 21) rfl rfl ?_
              refine hy_iload (i := 22) rfl rfl ?_
              refine hy_cV3 (i := 23) rfl mj_M_laysFights (by decide) rfl (Nat.le_of_ble_eq_true rfl) rfl rfl rfl (c_M_laysFights (by assumption) (by omega)) (fun r5_ t5_ h5 => ?_)
              obtain ⟨rfl, hF5, hL5⟩ := h5
              dsimp only [hy_st, List.nil_append]
              refine hy_const (i := 24) rfl (by decide) ?_
              refine hy_istore (i := 25) rfl ?_
              refine hy_const (i := 26) rfl (by decide) ?_
              refine hy_istore (i := 27) rfl ?_
              refine hy_const (i := 28) rfl (by decide) ?_
              refine hy_istore (i := 29) rfl ?_
              exact loop _ (by assumption) (by assumption) 144 0 rfl
            · simp only [decide_eq_false_iff_not] at zc5; omega
  · simp only [if_neg hq]
    refine hy_iload (i := 0) rfl rfl ?_
    refine hy_cS1e (i := 1) rfl (by decide) mj_M_isEmpire (by decide) rfl (Nat.le_of_ble_eq_true rfl) (c_M_isEmpire) ?_
    refine hy_ib_eq (i := 2) (tt := 17) rfl (fun zc1 => ?_) (fun zc1 => ?_)
    · refine hy_const (i := 17) rfl (by decide) ?_
      refine hy_ireturn (i := 18) rfl rfl ?_
      exact ⟨rfl, hy_F.rf, fun h => absurd h hq⟩
    · refine hy_iload (i := 3) rfl rfl ?_
      refine hy_cS1e (i := 4) rfl (by decide) mj_M_isEmpire (by decide) rfl (Nat.le_of_ble_eq_true rfl) (c_M_isEmpire) ?_
      refine hy_ib_eq (i := 5) (tt := 17) rfl (fun zc2 => ?_) (fun zc2 => ?_)
      · refine hy_const (i := 17) rfl (by decide) ?_
        refine hy_ireturn (i := 18) rfl rfl ?_
        exact ⟨rfl, hy_F.rf, fun h => absurd h hq⟩
      · refine hy_iload (i := 6) rfl rfl ?_
        refine hy_iload (i := 7) rfl rfl ?_
        refine hy_ic_eq (i := 8) (tt := 17) rfl (fun zc3 => ?_) (fun zc3 => ?_)
        · refine hy_const (i := 17) rfl (by decide) ?_
          refine hy_ireturn (i := 18) rfl rfl ?_
          exact ⟨rfl, hy_F.rf, fun h => absurd h hq⟩
        · refine hy_iload (i := 9) rfl rfl ?_
          refine hy_cS1e (i := 10) rfl (by decide) mj_M_isQuarter (by decide) rfl (Nat.le_of_ble_eq_true rfl) (c_M_isQuarter) ?_
          refine hy_ib_eq (i := 11) (tt := 17) rfl (fun zc4 => ?_) (fun zc4 => ?_)
          · refine hy_const (i := 17) rfl (by decide) ?_
            refine hy_ireturn (i := 18) rfl rfl ?_
            exact ⟨rfl, hy_F.rf, fun h => absurd h hq⟩
          · refine hy_iload (i := 12) rfl rfl ?_
            refine hy_const (i := 13) rfl (by decide) ?_
            refine hy_const (i := 14) rfl (by decide) ?_
            refine hy_cS3e (i := 15) rfl (by decide) mj_M_in (by decide) rfl (Nat.le_of_ble_eq_true rfl) (c_M_in) ?_
            refine hy_ib_ne (i := 16) (tt := 19) rfl (fun zc5 => ?_) (fun zc5 => ?_)
            · exfalso; simp only [decide_eq_true_eq] at *; exact hq ⟨by assumption, by assumption, by assumption, by assumption, by assumption⟩
            · refine hy_const (i := 17) rfl (by decide) ?_
              refine hy_ireturn (i := 18) rfl rfl ?_
              exact ⟨rfl, hy_F.rf, fun h => absurd h hq⟩
end MT
/-! the model: signals, parted, spies -/
abbrev sgX : Nat → Nat → Bool := fun r _ => r == 77 || r == 78 || r == 79 || r == 98
theorem sgX_meq : ∀ r j, meqX r j = true → sgX r j = false := fun r j h => by revert h; simp [meqX, mlawX, sgX]; omega
theorem me_sg {t t1 : hy_T} (h : hy_F meX t t1) : hy_F sgX t t1 := h.w (fun r j q => by revert q; simp [meX, sgX]; omega)
def ms_tellN (A : Nat → Int) (e : Nat) (s : Int) : Nat → Nat → Int → Bool
  | 0, _, _ => true
  | m + 1, k, sn => if hz_b s k = true then (if A (12 * e + k) = 12 ∨ hz_b sn (A (12 * e + k)) = true then false else ms_tellN A e s m (k + 1) (hz_ior sn (hz_ishl 1 (A (12 * e + k))))) else ms_tellN A e s m (k + 1) sn
def ms_oneN (A : Nat → Int) (e : Nat) (s : Int) : Nat → Nat → Int → Bool
  | 0, _, _ => true
  | m + 1, k, f => if hz_b s k = true then (if f ≠ -1 ∧ A (12 * e + k) ≠ f then false else ms_oneN A e s m (k + 1) (A (12 * e + k))) else ms_oneN A e s m (k + 1) f
def ms_sigN (A : Nat → Int) (s fr fo : Int) : Nat → Bool
  | 0 => true
  | e + 1 => ms_sigN A s fr fo e && ((!hz_b fr e || ms_tellN A e s 12 0 0) && (!hz_b fo e || ms_oneN A e s 12 0 (-1)))
theorem ms_sigN_le (A : Nat → Int) (s fr fo : Int) : ∀ (n m : Nat), m ≤ n → ms_sigN A s fr fo m = false → ms_sigN A s fr fo n = false
  | 0, m, h, hf => by obtain rfl : m = 0 := (by omega); exact hf
  | n + 1, m, h, hf => by
    by_cases hm : m = n + 1
    · rw [← hm]; exact hf
    · simp only [ms_sigN, ms_sigN_le A s fr fo n m (by omega) hf, Bool.false_and]
abbrev ms_good (A : Nat → Int) (w fr fo s : Int) : Prop := hz_iand s (hz_ixor w (-1)) = 0 ∧ (2 ≤ mf_bitsN s 12 ∧ mf_bitsN s 12 ≤ 6) ∧ ms_sigN A s fr fo 6 = true
def ms_acc (A : Nat → Int) (w n fr fo : Int) : Nat → Int × Int × Int
  | 0 => (0, -2, 0)
  | s + 1 => if ms_good A w fr fo s then
      (if mf_bitsN s 12 = n then ((ms_acc A w n fr fo s).1 + 1, (if (ms_acc A w n fr fo s).1 = 0 then (s : Int) else (ms_acc A w n fr fo s).2.1), (if mf_bitsN s 12 < (ms_acc A w n fr fo s).2.2 then (ms_acc A w n fr fo s).2.2 else mf_bitsN s 12))
       else ((ms_acc A w n fr fo s).1, (ms_acc A w n fr fo s).2.1, (if mf_bitsN s 12 < (ms_acc A w n fr fo s).2.2 then (ms_acc A w n fr fo s).2.2 else mf_bitsN s 12)))
    else ms_acc A w n fr fo s
theorem ms_acc_in (A : Nat → Int) (w n fr fo : Int) : ∀ s : Nat, 0 ≤ (ms_acc A w n fr fo s).1 ∧ (ms_acc A w n fr fo s).1 ≤ s
  | 0 => by simp [ms_acc]
  | s + 1 => by
    have h := ms_acc_in A w n fr fo s
    simp only [ms_acc]
    split
    · split
      · dsimp only; omega
      · dsimp only; omega
    · omega
abbrev ms_sgc (n fr fo q w : Int) : Prop := (1 ≤ fr ∧ fr ≤ 63) ∧ (0 ≤ fo ∧ fo ≤ 63) ∧ hz_iand fr fo = 0 ∧ (0 ≤ q ∧ q < 4) ∧ (0 ≤ w ∧ w ≤ 2) ∧ (w < 2 → 2 ≤ n ∧ n ≤ 6)
abbrev ms_by (t : hy_T) (q : Int) (t1 : hy_T) : Prop := ∀ e : Nat, e < 6 → ∀ c : Nat, c < 12 → t1 98 (12 * e + c) = mq_as t e q c
section MS
variable {sc : List Int32} {t : hy_T}
theorem c_M_laysAll {q : Int} (hk : ml_ok t) (hp : me_pal t) (hq : 0 ≤ q ∧ q < 4) : hy_Ct sc hm_M_laysAll 7 [.inr (some 59), .inl q] t (fun r t' => r = none ∧ hy_F sgX t t' ∧ ms_by t q t') := by
  refine hy_mk_ct ok_M_laysAll ck_M_laysAll (Nat.le_of_ble_eq_true rfl) ?_
  have loop : ∀ (m : Nat), ∀ (k : Nat) (t1 : hy_T) (v3 : hy_V), m + k = 6 → hy_F sgX t t1 → (∀ e : Nat, e < k → ∀ c : Nat, c < 12 → t1 98 (12 * e + c) = mq_as t e q c) → hy_W sc hm_M_laysAll 7 2 [.inr (some 59), .inl q, .inl (k : Int), v3] [] t1 (fun r t' => r = none ∧ hy_F sgX t t' ∧ ms_by t q t') := by
    intro m
    induction m with
    | zero =>
      intro k t1 v3 hm hF hi
      obtain rfl : k = 6 := by omega
      refine hy_iload (i := 2) rfl rfl ?_
      refine hy_const (i := 3) rfl (by decide) ?_
      refine hy_ic_ge (i := 4) (tt := 30) rfl (fun zc1 => ?_) (fun zc1 => ?_)
      · refine hy_return (i := 30) rfl rfl ?_
        exact ⟨rfl, hF, hi⟩
      · omega
    | succ m ih =>
      intro k t1 v3 hm hF hi
      have hk1 := ml_ok_F hF (meq_law sgX_meq) hk
      have hp1 := me_pal_F hF rfl (fun _ => rfl) (fun _ => rfl) hp
      have inner : ∀ (m2 : Nat), ∀ (c : Nat) (t2 : hy_T), m2 + c = 12 → hy_F sgX t t2 → (∀ j : Nat, j ≤ 12 → t2 79 j = mq_as t k q j) → (∀ e : Nat, e < k → ∀ c : Nat, c < 12 → t2 98 (12 * e + c) = mq_as t e q c) → (∀ j : Nat, j < c → t2 98 (12 * k + j) = mq_as t k q j) → hy_W sc hm_M_laysAll 7 11 [.inr (some 59), .inl q, .inl (k : Int), .inl (c : Int)] [] t2 (fun r t' => r = none ∧ hy_F sgX t t' ∧ ms_by t q t') := by
        intro m2
        induction m2 with
        | zero =>
          intro c t2 hm2 hF2 h79 h1 h2
          obtain rfl : c = 12 := by omega
          refine hy_iload (i := 11) rfl rfl ?_
          refine hy_const (i := 12) rfl (by decide) ?_
          refine hy_ic_ge (i := 13) (tt := 28) rfl (fun zc1 => ?_) (fun zc1 => ?_)
          · refine hy_iinc (i := 28) rfl rfl (by omega) ?_
            refine hy_goto (i := 29) (tt := 2) rfl ?_
            exact ih (k + 1) _ _ (by omega) hF2 (fun e he c hc => by rcases Nat.lt_succ_iff_lt_or_eq.mp he with h | rfl; exact h1 e h c hc; exact h2 c hc)
          · omega
        | succ m2 ih2 =>
          intro c t2 hm2 hF2 h79 h1 h2
          refine hy_iload (i := 11) rfl rfl ?_
          refine hy_const (i := 12) rfl (by decide) ?_
          refine hy_ic_ge (i := 13) (tt := 28) rfl (fun zc1 => ?_) (fun zc1 => ?_)
          · omega
          · refine hy_aload (i := 14) rfl rfl ?_
            refine hy_getr (i := 15) rfl rfl ?_
            refine hy_const (i := 16) rfl (by decide) ?_
            refine hy_iload (i := 17) rfl rfl ?_
            refine hy_imul (i := 18) rfl (by omega) ?_
            refine hy_iload (i := 19) rfl rfl ?_
            refine hy_iadd (i := 20) rfl (by omega) ?_
            refine hy_aload (i := 21) rfl rfl ?_
            refine hy_getr (i := 22) rfl rfl ?_
            refine hy_iload (i := 23) rfl rfl ?_
            refine hy_iald (i := 24) rfl rfl (by omega) (k := c) (by omega) ?_
            rw [h79 c (by omega)]
            refine hy_iast (i := 25) rfl rfl (by omega) (k := 12 * k + c) (by omega) ?_
            refine hy_iinc (i := 26) rfl rfl (by omega) ?_
            refine hy_goto (i := 27) (tt := 11) rfl ?_
            exact ih2 (c + 1) _ (by omega) (hF2.up rfl) (fun j hj => by rw [hy_up_ne (by decide)]; exact h79 j hj) (fun e he c' hc => by rw [show hy_up t2 98 (12 * k + c) (mq_as t k q c) 98 (12 * e + c') = t2 98 (12 * e + c') by simp only [hy_up]; rw [if_neg (by omega)]]; exact h1 e he c' hc) (fun j hj => by simp only [hy_up, true_and]; by_cases h : 12 * k + j = 12 * k + c; rw [if_pos h, show j = c by omega]; rw [if_neg h]; exact h2 j (by omega))
      refine hy_iload (i := 2) rfl rfl ?_
      refine hy_const (i := 3) rfl (by decide) ?_
      refine hy_ic_ge (i := 4) (tt := 30) rfl (fun zc1 => ?_) (fun zc1 => ?_)
      · omega
      · refine hy_aload (i := 5) rfl rfl ?_
        refine hy_iload (i := 6) rfl rfl ?_
        refine hy_iload (i := 7) rfl rfl ?_
        refine hy_cV2 (i := 8) rfl mj_M_laysAs (by decide) rfl (Nat.le_of_ble_eq_true rfl) rfl rfl rfl (c_M_laysAs (by assumption) (by assumption) (by omega)) (fun r1_ t1_ h1 => ?_)
        obtain ⟨rfl, hF1, hA1⟩ := h1
        dsimp only [hy_st, List.nil_append]
        refine hy_const (i := 9) rfl (by decide) ?_
        refine hy_istore (i := 10) rfl ?_
        exact inner 12 0 _ rfl (hF.tr' (me_sg hF1)) (fun j hj => by rw [hA1 j hj, mq_as_F hF sgX_meq]) (fun e he c hc => by rw [hF1 98 _ rfl]; exact hi e he c hc) (fun j hj => absurd hj (by omega))
  refine hy_const (i := 0) rfl (by decide) ?_
  refine hy_istore (i := 1) rfl ?_
  exact loop 6 0 t _ rfl hy_F.rf (fun e he => absurd he (by omega))
theorem c_M_tellsApart {s : Int} {e : Nat} (he : e < 6) : hy_Ct sc hm_M_tellsApart 1 [.inr (some 59), .inl s, .inl (e : Int)] t (hy_e (some (hy_b (ms_tellN (t 98) e s 12 0 0))) t) := by
  refine hy_mk_ct ok_M_tellsApart ck_M_tellsApart (Nat.le_of_ble_eq_true rfl) ?_
  generalize hG : ms_tellN (t 98) e s 12 0 0 = G
  have loop : ∀ (m : Nat), ∀ (k : Nat) (sn : Int) (v5 : hy_V), m + k = 12 → ms_tellN (t 98) e s m k sn = G → hy_W sc hm_M_tellsApart 1 4 [.inr (some 59), .inl s, .inl (e : Int), .inl sn, .inl (k : Int), v5] [] t (hy_e (some (hy_b (G))) t) := by
    intro m
    induction m with
    | zero =>
      intro k sn v5 hm hv
      refine hy_iload (i := 4) rfl rfl ?_
      refine hy_const (i := 5) rfl (by decide) ?_
      refine hy_ic_ge (i := 6) (tt := 38) rfl (fun zc1 => ?_) (fun zc1 => ?_)
      · refine hy_const (i := 38) rfl (by decide) ?_
        refine hy_zreturn (i := 39) rfl rfl (by first | decide | exact hy_b01 _) ?_
        exact ⟨congrArg some (by rw [← hv]; rfl), rfl⟩
      · omega
    | succ m ih =>
      intro k sn v5 hm hv
      simp only [ms_tellN] at hv
      refine hy_iload (i := 4) rfl rfl ?_
      refine hy_const (i := 5) rfl (by decide) ?_
      refine hy_ic_ge (i := 6) (tt := 38) rfl (fun zc1 => ?_) (fun zc1 => ?_)
      · omega
      · refine hy_iload (i := 7) rfl rfl ?_
        refine hy_iload (i := 8) rfl rfl ?_
        refine hy_cS2e (i := 9) rfl (by decide) mj_M_has (by decide) rfl (Nat.le_of_ble_eq_true rfl) (c_M_has) ?_
        refine hy_ib_ne (i := 10) (tt := 12) rfl (fun zc2 => ?_) (fun zc2 => ?_)
        · refine hy_aload (i := 12) rfl rfl ?_
          refine hy_getr (i := 13) rfl rfl ?_
          refine hy_const (i := 14) rfl (by decide) ?_
          refine hy_iload (i := 15) rfl rfl ?_
          refine hy_imul (i := 16) rfl (by omega) ?_
          refine hy_iload (i := 17) rfl rfl ?_
          refine hy_iadd (i := 18) rfl (by omega) ?_
          refine hy_iald (i := 19) rfl rfl (by omega) (k := 12 * e + k) (by omega) ?_
          refine hy_istore (i := 20) rfl ?_
          refine hy_iload (i := 21) rfl rfl ?_
          refine hy_const (i := 22) rfl (by decide) ?_
          refine hy_ic_eq (i := 23) (tt := 28) rfl (fun zc3 => ?_) (fun zc3 => ?_)
          · refine hy_const (i := 28) rfl (by decide) ?_
            refine hy_zreturn (i := 29) rfl rfl (by first | decide | exact hy_b01 _) ?_
            first | exact ⟨congrArg some (by rw [← hv, if_pos (show hz_b s k = true by assumption), if_pos (.inl (by assumption))]; rfl), rfl⟩ | exact ⟨congrArg some (by rw [← hv, if_pos (show hz_b s k = true by assumption), if_pos (.inr (by assumption))]; rfl), rfl⟩
          · refine hy_iload (i := 24) rfl rfl ?_
            refine hy_iload (i := 25) rfl rfl ?_
            refine hy_cS2e (i := 26) rfl (by decide) mj_M_has (by decide) rfl (Nat.le_of_ble_eq_true rfl) (c_M_has) ?_
            refine hy_ib_eq (i := 27) (tt := 30) rfl (fun zc4 => ?_) (fun zc4 => ?_)
            · refine hy_iload (i := 30) rfl rfl ?_
              refine hy_const (i := 31) rfl (by decide) ?_
              refine hy_iload (i := 32) rfl rfl ?_
              refine hy_ishl (i := 33) rfl ?_
              refine hy_ior (i := 34) rfl ?_
              refine hy_istore (i := 35) rfl ?_
              refine hy_iinc (i := 36) rfl rfl (by omega) ?_
              refine hy_goto (i := 37) (tt := 4) rfl ?_
              first | exact ih (k + 1) _ _ (by omega) (by rw [← hv, if_pos (show hz_b s k = true by assumption), if_neg (fun h => by rcases h with h | h; exact absurd h (by assumption); exact bb_abs h (by assumption))]) | exact ih (k + 1) _ _ (by omega) (by rw [← hv, if_neg (fun h => bb_abs h (by assumption))])
            · refine hy_const (i := 28) rfl (by decide) ?_
              refine hy_zreturn (i := 29) rfl rfl (by first | decide | exact hy_b01 _) ?_
              first | exact ⟨congrArg some (by rw [← hv, if_pos (show hz_b s k = true by assumption), if_pos (.inl (by assumption))]; rfl), rfl⟩ | exact ⟨congrArg some (by rw [← hv, if_pos (show hz_b s k = true by assumption), if_pos (.inr (by assumption))]; rfl), rfl⟩
        · refine hy_goto (i := 11) (tt := 36) rfl ?_
          refine hy_iinc (i := 36) rfl rfl (by omega) ?_
          refine hy_goto (i := 37) (tt := 4) rfl ?_
          first | exact ih (k + 1) _ _ (by omega) (by rw [← hv, if_pos (show hz_b s k = true by assumption), if_neg (fun h => by rcases h with h | h; exact absurd h (by assumption); exact bb_abs h (by assumption))]) | exact ih (k + 1) _ _ (by omega) (by rw [← hv, if_neg (fun h => bb_abs h (by assumption))])
  refine hy_const (i := 0) rfl (by decide) ?_
  refine hy_istore (i := 1) rfl ?_
  refine hy_const (i := 2) rfl (by decide) ?_
  refine hy_istore (i := 3) rfl ?_
  exact loop 12 0 0 _ rfl hG
theorem c_M_seesOne {s : Int} {e : Nat} (he : e < 6) : hy_Ct sc hm_M_seesOne 1 [.inr (some 59), .inl s, .inl (e : Int)] t (hy_e (some (hy_b (ms_oneN (t 98) e s 12 0 (-1)))) t) := by
  refine hy_mk_ct ok_M_seesOne ck_M_seesOne (Nat.le_of_ble_eq_true rfl) ?_
  generalize hG : ms_oneN (t 98) e s 12 0 (-1) = G
  have loop : ∀ (m : Nat), ∀ (k : Nat) (f : Int), m + k = 12 → ms_oneN (t 98) e s m k f = G → hy_W sc hm_M_seesOne 1 4 [.inr (some 59), .inl s, .inl (e : Int), .inl f, .inl (k : Int)] [] t (hy_e (some (hy_b (G))) t) := by
    intro m
    induction m with
    | zero =>
      intro k f hm hv
      refine hy_iload (i := 4) rfl rfl ?_
      refine hy_const (i := 5) rfl (by decide) ?_
      refine hy_ic_ge (i := 6) (tt := 38) rfl (fun zc1 => ?_) (fun zc1 => ?_)
      · refine hy_const (i := 38) rfl (by decide) ?_
        refine hy_zreturn (i := 39) rfl rfl (by first | decide | exact hy_b01 _) ?_
        exact ⟨congrArg some (by rw [← hv]; rfl), rfl⟩
      · omega
    | succ m ih =>
      intro k f hm hv
      simp only [ms_oneN] at hv
      refine hy_iload (i := 4) rfl rfl ?_
      refine hy_const (i := 5) rfl (by decide) ?_
      refine hy_ic_ge (i := 6) (tt := 38) rfl (fun zc1 => ?_) (fun zc1 => ?_)
      · omega
      · refine hy_iload (i := 7) rfl rfl ?_
        refine hy_iload (i := 8) rfl rfl ?_
        refine hy_cS2e (i := 9) rfl (by decide) mj_M_has (by decide) rfl (Nat.le_of_ble_eq_true rfl) (c_M_has) ?_
        refine hy_ib_ne (i := 10) (tt := 12) rfl (fun zc2 => ?_) (fun zc2 => ?_)
        · refine hy_iload (i := 12) rfl rfl ?_
          refine hy_const (i := 13) rfl (by decide) ?_
          refine hy_ic_eq (i := 14) (tt := 27) rfl (fun zc3 => ?_) (fun zc3 => ?_)
          · refine hy_aload (i := 27) rfl rfl ?_
            refine hy_getr (i := 28) rfl rfl ?_
            refine hy_const (i := 29) rfl (by decide) ?_
            refine hy_iload (i := 30) rfl rfl ?_
            refine hy_imul (i := 31) rfl (by omega) ?_
            refine hy_iload (i := 32) rfl rfl ?_
            refine hy_iadd (i := 33) rfl (by omega) ?_
            refine hy_iald (i := 34) rfl rfl (by omega) (k := 12 * e + k) (by omega) ?_
            refine hy_istore (i := 35) rfl ?_
            refine hy_iinc (i := 36) rfl rfl (by omega) ?_
            refine hy_goto (i := 37) (tt := 4) rfl ?_
            first | exact ih (k + 1) _ (by omega) (by rw [← hv, if_pos (show hz_b s k = true by assumption), if_neg (fun h => absurd (by assumption) h.1)]) | exact ih (k + 1) _ (by omega) (by rw [← hv, if_pos (show hz_b s k = true by assumption), if_neg (fun h => absurd (by assumption) h.2)]) | exact ih (k + 1) _ (by omega) (by rw [← hv, if_neg (fun h => bb_abs h (by assumption))])
          · refine hy_aload (i := 15) rfl rfl ?_
            refine hy_getr (i := 16) rfl rfl ?_
            refine hy_const (i := 17) rfl (by decide) ?_
            refine hy_iload (i := 18) rfl rfl ?_
            refine hy_imul (i := 19) rfl (by omega) ?_
            refine hy_iload (i := 20) rfl rfl ?_
            refine hy_iadd (i := 21) rfl (by omega) ?_
            refine hy_iald (i := 22) rfl rfl (by omega) (k := 12 * e + k) (by omega) ?_
            refine hy_iload (i := 23) rfl rfl ?_
            refine hy_ic_eq (i := 24) (tt := 27) rfl (fun zc4 => ?_) (fun zc4 => ?_)
            · refine hy_aload (i := 27) rfl rfl ?_
              refine hy_getr (i := 28) rfl rfl ?_
              refine hy_const (i := 29) rfl (by decide) ?_
              refine hy_iload (i := 30) rfl rfl ?_
              refine hy_imul (i := 31) rfl (by omega) ?_
              refine hy_iload (i := 32) rfl rfl ?_
              refine hy_iadd (i := 33) rfl (by omega) ?_
              refine hy_iald (i := 34) rfl rfl (by omega) (k := 12 * e + k) (by omega) ?_
              refine hy_istore (i := 35) rfl ?_
              refine hy_iinc (i := 36) rfl rfl (by omega) ?_
              refine hy_goto (i := 37) (tt := 4) rfl ?_
              first | exact ih (k + 1) _ (by omega) (by rw [← hv, if_pos (show hz_b s k = true by assumption), if_neg (fun h => absurd (by assumption) h.1)]) | exact ih (k + 1) _ (by omega) (by rw [← hv, if_pos (show hz_b s k = true by assumption), if_neg (fun h => absurd (by assumption) h.2)]) | exact ih (k + 1) _ (by omega) (by rw [← hv, if_neg (fun h => bb_abs h (by assumption))])
            · refine hy_const (i := 25) rfl (by decide) ?_
              refine hy_zreturn (i := 26) rfl rfl (by first | decide | exact hy_b01 _) ?_
              exact ⟨congrArg some (by rw [← hv, if_pos (show hz_b s k = true by assumption), if_pos ⟨by assumption, by assumption⟩]; rfl), rfl⟩
        · refine hy_goto (i := 11) (tt := 36) rfl ?_
          refine hy_iinc (i := 36) rfl rfl (by omega) ?_
          refine hy_goto (i := 37) (tt := 4) rfl ?_
          first | exact ih (k + 1) _ (by omega) (by rw [← hv, if_pos (show hz_b s k = true by assumption), if_neg (fun h => absurd (by assumption) h.1)]) | exact ih (k + 1) _ (by omega) (by rw [← hv, if_pos (show hz_b s k = true by assumption), if_neg (fun h => absurd (by assumption) h.2)]) | exact ih (k + 1) _ (by omega) (by rw [← hv, if_neg (fun h => bb_abs h (by assumption))])
  refine hy_const (i := 0) rfl (by decide) ?_
  refine hy_istore (i := 1) rfl ?_
  refine hy_const (i := 2) rfl (by decide) ?_
  refine hy_istore (i := 3) rfl ?_
  exact loop 12 0 (-1) rfl hG
theorem c_M_isSignal {s fr fo : Int} : hy_Ct sc hm_M_isSignal 2 [.inr (some 59), .inl s, .inl fr, .inl fo] t (hy_e (some (hy_b (ms_sigN (t 98) s fr fo 6))) t) := by
  refine hy_mk_ct ok_M_isSignal ck_M_isSignal (Nat.le_of_ble_eq_true rfl) ?_
  have loop : ∀ (m : Nat), ∀ (k : Nat), m + k = 6 → ms_sigN (t 98) s fr fo k = true → hy_W sc hm_M_isSignal 2 2 [.inr (some 59), .inl s, .inl fr, .inl fo, .inl (k : Int)] [] t (hy_e (some (hy_b (ms_sigN (t 98) s fr fo 6))) t) := by
    intro m
    induction m with
    | zero =>
      intro k hm hv
      obtain rfl : k = 6 := by omega
      refine hy_iload (i := 2) rfl rfl ?_
      refine hy_const (i := 3) rfl (by decide) ?_
      refine hy_ic_ge (i := 4) (tt := 27) rfl (fun zc1 => ?_) (fun zc1 => ?_)
      · refine hy_const (i := 27) rfl (by decide) ?_
        refine hy_zreturn (i := 28) rfl rfl (by first | decide | exact hy_b01 _) ?_
        exact ⟨congrArg some (by rw [hv]; rfl), rfl⟩
      · omega
    | succ m ih =>
      intro k hm hv
      have e1 : ms_sigN (t 98) s fr fo (k + 1) = ((!hz_b fr k || ms_tellN (t 98) k s 12 0 0) && (!hz_b fo k || ms_oneN (t 98) k s 12 0 (-1))) := by simp only [ms_sigN]; rw [hv, Bool.true_and]
      refine hy_iload (i := 2) rfl rfl ?_
      refine hy_const (i := 3) rfl (by decide) ?_
      refine hy_ic_ge (i := 4) (tt := 27) rfl (fun zc1 => ?_) (fun zc1 => ?_)
      · omega
      · refine hy_iload (i := 5) rfl rfl ?_
        refine hy_iload (i := 6) rfl rfl ?_
        refine hy_cS2e (i := 7) rfl (by decide) mj_M_has (by decide) rfl (Nat.le_of_ble_eq_true rfl) (c_M_has) ?_
        refine hy_ib_eq (i := 8) (tt := 14) rfl (fun zc2 => ?_) (fun zc2 => ?_)
        · refine hy_iload (i := 14) rfl rfl ?_
          refine hy_iload (i := 15) rfl rfl ?_
          refine hy_cS2e (i := 16) rfl (by decide) mj_M_has (by decide) rfl (Nat.le_of_ble_eq_true rfl) (c_M_has) ?_
          refine hy_ib_eq (i := 17) (tt := 25) rfl (fun zc3 => ?_) (fun zc3 => ?_)
          · refine hy_iinc (i := 25) rfl rfl (by omega) ?_
            refine hy_goto (i := 26) (tt := 2) rfl ?_
            exact ih (k + 1) (by omega) (by rw [e1]; simp only [*]; rfl)
          · refine hy_aload (i := 18) rfl rfl ?_
            refine hy_iload (i := 19) rfl rfl ?_
            refine hy_iload (i := 20) rfl rfl ?_
            refine hy_cV2e (i := 21) rfl mj_M_seesOne (by decide) rfl (Nat.le_of_ble_eq_true rfl) rfl rfl rfl (c_M_seesOne (by omega)) ?_
            refine hy_ib_ne (i := 22) (tt := 25) rfl (fun zc4 => ?_) (fun zc4 => ?_)
            · refine hy_iinc (i := 25) rfl rfl (by omega) ?_
              refine hy_goto (i := 26) (tt := 2) rfl ?_
              exact ih (k + 1) (by omega) (by rw [e1]; simp only [*]; rfl)
            · refine hy_const (i := 23) rfl (by decide) ?_
              refine hy_zreturn (i := 24) rfl rfl (by first | decide | exact hy_b01 _) ?_
              exact ⟨congrArg some (by rw [ms_sigN_le (t 98) s fr fo 6 (k + 1) (by omega) (by rw [e1]; simp only [*]; rfl)]; rfl), rfl⟩
        · refine hy_aload (i := 9) rfl rfl ?_
          refine hy_iload (i := 10) rfl rfl ?_
          refine hy_iload (i := 11) rfl rfl ?_
          refine hy_cV2e (i := 12) rfl mj_M_tellsApart (by decide) rfl (Nat.le_of_ble_eq_true rfl) rfl rfl rfl (c_M_tellsApart (by omega)) ?_
          refine hy_ib_eq (i := 13) (tt := 23) rfl (fun zc3 => ?_) (fun zc3 => ?_)
          · refine hy_const (i := 23) rfl (by decide) ?_
            refine hy_zreturn (i := 24) rfl rfl (by first | decide | exact hy_b01 _) ?_
            exact ⟨congrArg some (by rw [ms_sigN_le (t 98) s fr fo 6 (k + 1) (by omega) (by rw [e1]; simp only [*]; rfl)]; rfl), rfl⟩
          · refine hy_iload (i := 14) rfl rfl ?_
            refine hy_iload (i := 15) rfl rfl ?_
            refine hy_cS2e (i := 16) rfl (by decide) mj_M_has (by decide) rfl (Nat.le_of_ble_eq_true rfl) (c_M_has) ?_
            refine hy_ib_eq (i := 17) (tt := 25) rfl (fun zc4 => ?_) (fun zc4 => ?_)
            · refine hy_iinc (i := 25) rfl rfl (by omega) ?_
              refine hy_goto (i := 26) (tt := 2) rfl ?_
              exact ih (k + 1) (by omega) (by rw [e1]; simp only [*]; rfl)
            · refine hy_aload (i := 18) rfl rfl ?_
              refine hy_iload (i := 19) rfl rfl ?_
              refine hy_iload (i := 20) rfl rfl ?_
              refine hy_cV2e (i := 21) rfl mj_M_seesOne (by decide) rfl (Nat.le_of_ble_eq_true rfl) rfl rfl rfl (c_M_seesOne (by omega)) ?_
              refine hy_ib_ne (i := 22) (tt := 25) rfl (fun zc5 => ?_) (fun zc5 => ?_)
              · refine hy_iinc (i := 25) rfl rfl (by omega) ?_
                refine hy_goto (i := 26) (tt := 2) rfl ?_
                exact ih (k + 1) (by omega) (by rw [e1]; simp only [*]; rfl)
              · refine hy_const (i := 23) rfl (by decide) ?_
                refine hy_zreturn (i := 24) rfl rfl (by first | decide | exact hy_b01 _) ?_
                exact ⟨congrArg some (by rw [ms_sigN_le (t 98) s fr fo 6 (k + 1) (by omega) (by rw [e1]; simp only [*]; rfl)]; rfl), rfl⟩
  refine hy_const (i := 0) rfl (by decide) ?_
  refine hy_istore (i := 1) rfl ?_
  exact loop 6 0 rfl rfl
theorem c_M_signals {n fr fo q w : Int} (hk : ml_ok t) (hp : me_pal t) : hy_Ct sc hm_M_signals 8 [.inr (some 59), .inl n, .inl fr, .inl fo, .inl q, .inl w] t (fun r t' => r = some (if ms_sgc n fr fo q w then (if w = 0 then (ms_acc (t' 98) (t 59 0) n fr fo 4096).1 else if w = 1 then (ms_acc (t' 98) (t 59 0) n fr fo 4096).2.1 else (ms_acc (t' 98) (t 59 0) n fr fo 4096).2.2) else -1) ∧ hy_F sgX t t' ∧ (ms_sgc n fr fo q w → ms_by t q t')) := by
  refine hy_mk_ct ok_M_signals ck_M_signals (Nat.le_of_ble_eq_true rfl) ?_
  by_cases hq : ms_sgc n fr fo q w
  · simp only [if_pos hq]
    have loop : ∀ (t1 : hy_T), hy_F sgX t t1 → ms_by t q t1 → ∀ (m : Nat), ∀ (k : Nat), m + k = 4096 → hy_W sc hm_M_signals 8 43 [.inr (some 59), .inl n, .inl fr, .inl fo, .inl q, .inl w, .inl (ms_acc (t1 98) (t 59 0) n fr fo k).1, .inl (ms_acc (t1 98) (t 59 0) n fr fo k).2.1, .inl (ms_acc (t1 98) (t 59 0) n fr fo k).2.2, .inl (k : Int)] [] t1 (fun r t' => r = some (if w = 0 then (ms_acc (t' 98) (t 59 0) n fr fo 4096).1 else if w = 1 then (ms_acc (t' 98) (t 59 0) n fr fo 4096).2.1 else (ms_acc (t' 98) (t 59 0) n fr fo 4096).2.2) ∧ hy_F sgX t t' ∧ (ms_sgc n fr fo q w → ms_by t q t')) := by
      intro t1 hF hB m
      have e0 : t1 59 0 = t 59 0 := hF 59 0 rfl
      induction m with
      | zero =>
        intro k hm
        obtain rfl : k = 4096 := by omega
        refine hy_iload (i := 43) rfl rfl ?_
        refine hy_const (i := 44) rfl (by decide) ?_
        refine hy_ic_ge (i := 45) (tt := 88) rfl (fun zc1 => ?_) (fun zc1 => ?_)
        · refine hy_iload (i := 88) rfl rfl ?_
          refine hy_if_ne (i := 89) (tt := 92) rfl (fun zc2 => ?_) (fun zc2 => ?_)
          · refine hy_iload (i := 92) rfl rfl ?_
            refine hy_const (i := 93) rfl (by decide) ?_
            refine hy_ic_ne (i := 94) (tt := 97) rfl (fun zc3 => ?_) (fun zc3 => ?_)
            · refine hy_iload (i := 97) rfl rfl ?_
              refine hy_ireturn (i := 98) rfl rfl ?_
              refine ⟨congrArg some ?_, hF, fun _ => hB⟩
              (repeat (first | rw [if_pos (by omega)] | rw [if_neg (by omega)]))
            · refine hy_iload (i := 95) rfl rfl ?_
              refine hy_goto (i := 96) (tt := 98) rfl ?_
              refine hy_ireturn (i := 98) rfl rfl ?_
              refine ⟨congrArg some ?_, hF, fun _ => hB⟩
              (repeat (first | rw [if_pos (by omega)] | rw [if_neg (by omega)]))
          · refine hy_iload (i := 90) rfl rfl ?_
            refine hy_goto (i := 91) (tt := 98) rfl ?_
            refine hy_ireturn (i := 98) rfl rfl ?_
            refine ⟨congrArg some ?_, hF, fun _ => hB⟩
            (repeat (first | rw [if_pos (by omega)] | rw [if_neg (by omega)]))
        · omega
      | succ m ih =>
        intro k hm
        have hin := ms_acc_in (t1 98) (t 59 0) n fr fo k
        have e1 : ms_acc (t1 98) (t 59 0) n fr fo (k + 1) = if ms_good (t1 98) (t 59 0) fr fo k then
      (if mf_bitsN k 12 = n then ((ms_acc (t1 98) (t 59 0) n fr fo k).1 + 1, (if (ms_acc (t1 98) (t 59 0) n fr fo k).1 = 0 then (k : Int) else (ms_acc (t1 98) (t 59 0) n fr fo k).2.1), (if mf_bitsN k 12 < (ms_acc (t1 98) (t 59 0) n fr fo k).2.2 then (ms_acc (t1 98) (t 59 0) n fr fo k).2.2 else mf_bitsN k 12))
       else ((ms_acc (t1 98) (t 59 0) n fr fo k).1, (ms_acc (t1 98) (t 59 0) n fr fo k).2.1, (if mf_bitsN k 12 < (ms_acc (t1 98) (t 59 0) n fr fo k).2.2 then (ms_acc (t1 98) (t 59 0) n fr fo k).2.2 else mf_bitsN k 12)))
    else ms_acc (t1 98) (t 59 0) n fr fo k := rfl
        have ih' := ih (k + 1) (by omega)
        rw [e1] at ih'
        by_cases hg : ms_good (t1 98) (t 59 0) fr fo k
        · rw [if_pos hg] at ih'
          obtain ⟨g1, g2, g3⟩ := id hg
          by_cases hn : mf_bitsN k 12 = n
          · rw [if_pos hn] at ih'
            dsimp only at ih'
            refine hy_iload (i := 43) rfl rfl ?_
            refine hy_const (i := 44) rfl (by decide) ?_
            refine hy_ic_ge (i := 45) (tt := 88) rfl (fun zc1 => ?_) (fun zc1 => ?_)
            · omega
            · refine hy_iload (i := 46) rfl rfl ?_
              refine hy_aload (i := 47) rfl rfl ?_
              refine hy_get (i := 48) (fk := 0) rfl rfl rfl ?_
              rw [e0]
              refine hy_const (i := 49) rfl (by decide) ?_
              refine hy_ixor (i := 50) rfl ?_
              refine hy_iand (i := 51) rfl ?_
              refine hy_if_ne (i := 52) (tt := 86) rfl (fun zc2 => ?_) (fun zc2 => ?_)
              · exact absurd g1 (by assumption)
              · refine hy_iload (i := 53) rfl rfl ?_
                refine hy_cS1e (i := 54) rfl (by decide) mj_M_bits (by decide) rfl (Nat.le_of_ble_eq_true rfl) (c_M_bits) ?_
                refine hy_const (i := 55) rfl (by decide) ?_
                refine hy_const (i := 56) rfl (by decide) ?_
                refine hy_cS3e (i := 57) rfl (by decide) mj_M_in (by decide) rfl (Nat.le_of_ble_eq_true rfl) (c_M_in) ?_
                refine hy_ib_eq (i := 58) (tt := 86) rfl (fun zc3 => ?_) (fun zc3 => ?_)
                · simp only [decide_eq_false_iff_not] at *; omega
                · refine hy_aload (i := 59) rfl rfl ?_
                  refine hy_iload (i := 60) rfl rfl ?_
                  refine hy_iload (i := 61) rfl rfl ?_
                  refine hy_iload (i := 62) rfl rfl ?_
                  refine hy_cV3e (i := 63) rfl mj_M_isSignal (by decide) rfl (Nat.le_of_ble_eq_true rfl) rfl rfl rfl (c_M_isSignal) ?_
                  refine hy_ib_ne (i := 64) (tt := 66) rfl (fun zc4 => ?_) (fun zc4 => ?_)
                  · refine hy_iload (i := 66) rfl rfl ?_
                    refine hy_iload (i := 67) rfl rfl ?_
                    refine hy_cS1e (i := 68) rfl (by decide) mj_M_bits (by decide) rfl (Nat.le_of_ble_eq_true rfl) (c_M_bits) ?_
                    refine hy_cS2e (i := 69) rfl (by decide) mj_M_max (by decide) rfl (Nat.le_of_ble_eq_true rfl) (c_M_max) ?_
                    refine hy_istore (i := 70) rfl ?_
                    refine hy_iload (i := 71) rfl rfl ?_
                    refine hy_cS1e (i := 72) rfl (by decide) mj_M_bits (by decide) rfl (Nat.le_of_ble_eq_true rfl) (c_M_bits) ?_
                    refine hy_iload (i := 73) rfl rfl ?_
                    refine hy_ic_eq (i := 74) (tt := 76) rfl (fun zc5 => ?_) (fun zc5 => ?_)
                    · refine hy_iload (i := 76) rfl rfl ?_
                      refine hy_if_ne (i := 77) (tt := 80) rfl (fun zc6 => ?_) (fun zc6 => ?_)
                      · refine hy_iload (i := 80) rfl rfl ?_
                        refine hy_istore (i := 81) rfl ?_
                        refine hy_iload (i := 82) rfl rfl ?_
                        refine hy_const (i := 83) rfl (by decide) ?_
                        refine hy_iadd (i := 84) rfl (by omega) ?_
                        refine hy_istore (i := 85) rfl ?_
                        refine hy_iinc (i := 86) rfl rfl (by omega) ?_
                        refine hy_goto (i := 87) (tt := 43) rfl ?_
                        first | (rw [if_pos (by assumption)] at ih'; exact ih') | (rw [if_neg (by assumption)] at ih'; exact ih')
                      · refine hy_iload (i := 78) rfl rfl ?_
                        refine hy_goto (i := 79) (tt := 81) rfl ?_
                        refine hy_istore (i := 81) rfl ?_
                        refine hy_iload (i := 82) rfl rfl ?_
                        refine hy_const (i := 83) rfl (by decide) ?_
                        refine hy_iadd (i := 84) rfl (by omega) ?_
                        refine hy_istore (i := 85) rfl ?_
                        refine hy_iinc (i := 86) rfl rfl (by omega) ?_
                        refine hy_goto (i := 87) (tt := 43) rfl ?_
                        first | (rw [if_pos (by assumption)] at ih'; exact ih') | (rw [if_neg (by assumption)] at ih'; exact ih')
                    · exact absurd hn (by assumption)
                  · exact bb_abs g3 (by assumption)
          · rw [if_neg hn] at ih'
            dsimp only at ih'
            refine hy_iload (i := 43) rfl rfl ?_
            refine hy_const (i := 44) rfl (by decide) ?_
            refine hy_ic_ge (i := 45) (tt := 88) rfl (fun zc1 => ?_) (fun zc1 => ?_)
            · omega
            · refine hy_iload (i := 46) rfl rfl ?_
              refine hy_aload (i := 47) rfl rfl ?_
              refine hy_get (i := 48) (fk := 0) rfl rfl rfl ?_
              rw [e0]
              refine hy_const (i := 49) rfl (by decide) ?_
              refine hy_ixor (i := 50) rfl ?_
              refine hy_iand (i := 51) rfl ?_
              refine hy_if_ne (i := 52) (tt := 86) rfl (fun zc2 => ?_) (fun zc2 => ?_)
              · exact absurd g1 (by assumption)
              · refine hy_iload (i := 53) rfl rfl ?_
                refine hy_cS1e (i := 54) rfl (by decide) mj_M_bits (by decide) rfl (Nat.le_of_ble_eq_true rfl) (c_M_bits) ?_
                refine hy_const (i := 55) rfl (by decide) ?_
                refine hy_const (i := 56) rfl (by decide) ?_
                refine hy_cS3e (i := 57) rfl (by decide) mj_M_in (by decide) rfl (Nat.le_of_ble_eq_true rfl) (c_M_in) ?_
                refine hy_ib_eq (i := 58) (tt := 86) rfl (fun zc3 => ?_) (fun zc3 => ?_)
                · simp only [decide_eq_false_iff_not] at *; omega
                · refine hy_aload (i := 59) rfl rfl ?_
                  refine hy_iload (i := 60) rfl rfl ?_
                  refine hy_iload (i := 61) rfl rfl ?_
                  refine hy_iload (i := 62) rfl rfl ?_
                  refine hy_cV3e (i := 63) rfl mj_M_isSignal (by decide) rfl (Nat.le_of_ble_eq_true rfl) rfl rfl rfl (c_M_isSignal) ?_
                  refine hy_ib_ne (i := 64) (tt := 66) rfl (fun zc4 => ?_) (fun zc4 => ?_)
                  · refine hy_iload (i := 66) rfl rfl ?_
                    refine hy_iload (i := 67) rfl rfl ?_
                    refine hy_cS1e (i := 68) rfl (by decide) mj_M_bits (by decide) rfl (Nat.le_of_ble_eq_true rfl) (c_M_bits) ?_
                    refine hy_cS2e (i := 69) rfl (by decide) mj_M_max (by decide) rfl (Nat.le_of_ble_eq_true rfl) (c_M_max) ?_
                    refine hy_istore (i := 70) rfl ?_
                    refine hy_iload (i := 71) rfl rfl ?_
                    refine hy_cS1e (i := 72) rfl (by decide) mj_M_bits (by decide) rfl (Nat.le_of_ble_eq_true rfl) (c_M_bits) ?_
                    refine hy_iload (i := 73) rfl rfl ?_
                    refine hy_ic_eq (i := 74) (tt := 76) rfl (fun zc5 => ?_) (fun zc5 => ?_)
                    · exact absurd (by assumption) hn
                    · refine hy_goto (i := 75) (tt := 86) rfl ?_
                      refine hy_iinc (i := 86) rfl rfl (by omega) ?_
                      refine hy_goto (i := 87) (tt := 43) rfl ?_
                      exact ih'
                  · exact bb_abs g3 (by assumption)
        · rw [if_neg hg] at ih'
          refine hy_iload (i := 43) rfl rfl ?_
          refine hy_const (i := 44) rfl (by decide) ?_
          refine hy_ic_ge (i := 45) (tt := 88) rfl (fun zc1 => ?_) (fun zc1 => ?_)
          · omega
          · refine hy_iload (i := 46) rfl rfl ?_
            refine hy_aload (i := 47) rfl rfl ?_
            refine hy_get (i := 48) (fk := 0) rfl rfl rfl ?_
            rw [e0]
            refine hy_const (i := 49) rfl (by decide) ?_
            refine hy_ixor (i := 50) rfl ?_
            refine hy_iand (i := 51) rfl ?_
            refine hy_if_ne (i := 52) (tt := 86) rfl (fun zc2 => ?_) (fun zc2 => ?_)
            · refine hy_iinc (i := 86) rfl rfl (by omega) ?_
              refine hy_goto (i := 87) (tt := 43) rfl ?_
              exact ih'
            · refine hy_iload (i := 53) rfl rfl ?_
              refine hy_cS1e (i := 54) rfl (by decide) mj_M_bits (by decide) rfl (Nat.le_of_ble_eq_true rfl) (c_M_bits) ?_
              refine hy_const (i := 55) rfl (by decide) ?_
              refine hy_const (i := 56) rfl (by decide) ?_
              refine hy_cS3e (i := 57) rfl (by decide) mj_M_in (by decide) rfl (Nat.le_of_ble_eq_true rfl) (c_M_in) ?_
              refine hy_ib_eq (i := 58) (tt := 86) rfl (fun zc3 => ?_) (fun zc3 => ?_)
              · refine hy_iinc (i := 86) rfl rfl (by omega) ?_
                refine hy_goto (i := 87) (tt := 43) rfl ?_
                exact ih'
              · refine hy_aload (i := 59) rfl rfl ?_
                refine hy_iload (i := 60) rfl rfl ?_
                refine hy_iload (i := 61) rfl rfl ?_
                refine hy_iload (i := 62) rfl rfl ?_
                refine hy_cV3e (i := 63) rfl mj_M_isSignal (by decide) rfl (Nat.le_of_ble_eq_true rfl) rfl rfl rfl (c_M_isSignal) ?_
                refine hy_ib_ne (i := 64) (tt := 66) rfl (fun zc4 => ?_) (fun zc4 => ?_)
                · exact absurd ⟨by assumption, by simp only [decide_eq_true_eq] at *; omega, by assumption⟩ hg
                · refine hy_goto (i := 65) (tt := 86) rfl ?_
                  refine hy_iinc (i := 86) rfl rfl (by omega) ?_
                  refine hy_goto (i := 87) (tt := 43) rfl ?_
                  exact ih'
    refine hy_iload (i := 0) rfl rfl ?_
    refine hy_const (i := 1) rfl (by decide) ?_
    refine hy_const (i := 2) rfl (by decide) ?_
    refine hy_cS3e (i := 3) rfl (by decide) mj_M_in (by decide) rfl (Nat.le_of_ble_eq_true rfl) (c_M_in) ?_
    refine hy_ib_eq (i := 4) (tt := 30) rfl (fun zc1 => ?_) (fun zc1 => ?_)
    · simp only [decide_eq_false_iff_not] at zc1; omega
    · refine hy_iload (i := 5) rfl rfl ?_
      refine hy_const (i := 6) rfl (by decide) ?_
      refine hy_const (i := 7) rfl (by decide) ?_
      refine hy_cS3e (i := 8) rfl (by decide) mj_M_in (by decide) rfl (Nat.le_of_ble_eq_true rfl) (c_M_in) ?_
      refine hy_ib_eq (i := 9) (tt := 30) rfl (fun zc2 => ?_) (fun zc2 => ?_)
      · simp only [decide_eq_false_iff_not] at zc2; omega
      · refine hy_iload (i := 10) rfl rfl ?_
        refine hy_iload (i := 11) rfl rfl ?_
        refine hy_iand (i := 12) rfl ?_
        refine hy_if_ne (i := 13) (tt := 30) rfl (fun zc3 => ?_) (fun zc3 => ?_)
        · exact absurd hq.2.2.1 (by assumption)
        · refine hy_iload (i := 14) rfl rfl ?_
          refine hy_cS1e (i := 15) rfl (by decide) mj_M_isQuarter (by decide) rfl (Nat.le_of_ble_eq_true rfl) (c_M_isQuarter) ?_
          refine hy_ib_eq (i := 16) (tt := 30) rfl (fun zc4 => ?_) (fun zc4 => ?_)
          · simp only [decide_eq_false_iff_not] at zc4; omega
          · refine hy_iload (i := 17) rfl rfl ?_
            refine hy_const (i := 18) rfl (by decide) ?_
            refine hy_const (i := 19) rfl (by decide) ?_
            refine hy_cS3e (i := 20) rfl (by decide) mj_M_in (by decide) rfl (Nat.le_of_ble_eq_true rfl) (c_M_in) ?_
            refine hy_ib_eq (i := 21) (tt := 30) rfl (fun zc5 => ?_) (fun zc5 => ?_)
            · simp only [decide_eq_false_iff_not] at zc5; omega
            · refine hy_iload (i := 22) rfl rfl ?_
              refine hy_const (i := 23) rfl (by decide) ?_
              refine hy_ic_ge (i := 24) (tt := 32) rfl (fun zc6 => ?_) (fun zc6 => ?_)
              · refine hy_aload (i := 32) rfl rfl ?_
                refine hy_iload (i := 33) rfl rfl ?_
                refine hy_cV1 (i := 34) rfl mj_M_laysAll (by decide) rfl (Nat.le_of_ble_eq_true rfl) rfl rfl rfl (c_M_laysAll (by assumption) (by assumption) (by omega)) (fun r5_ t5_ h5 => ?_)
                obtain ⟨rfl, hF5, hB5⟩ := h5
                dsimp only [hy_st, List.nil_append]
                refine hy_const (i := 35) rfl (by decide) ?_
                refine hy_istore (i := 36) rfl ?_
                refine hy_const (i := 37) rfl (by decide) ?_
                refine hy_istore (i := 38) rfl ?_
                refine hy_const (i := 39) rfl (by decide) ?_
                refine hy_istore (i := 40) rfl ?_
                refine hy_const (i := 41) rfl (by decide) ?_
                refine hy_istore (i := 42) rfl ?_
                exact loop _ (by assumption) (by assumption) 4096 0 rfl
              · refine hy_iload (i := 25) rfl rfl ?_
                refine hy_const (i := 26) rfl (by decide) ?_
                refine hy_const (i := 27) rfl (by decide) ?_
                refine hy_cS3e (i := 28) rfl (by decide) mj_M_in (by decide) rfl (Nat.le_of_ble_eq_true rfl) (c_M_in) ?_
                refine hy_ib_ne (i := 29) (tt := 32) rfl (fun zc7 => ?_) (fun zc7 => ?_)
                · refine hy_aload (i := 32) rfl rfl ?_
                  refine hy_iload (i := 33) rfl rfl ?_
                  refine hy_cV1 (i := 34) rfl mj_M_laysAll (by decide) rfl (Nat.le_of_ble_eq_true rfl) rfl rfl rfl (c_M_laysAll (by assumption) (by assumption) (by omega)) (fun r6_ t6_ h6 => ?_)
                  obtain ⟨rfl, hF6, hB6⟩ := h6
                  dsimp only [hy_st, List.nil_append]
                  refine hy_const (i := 35) rfl (by decide) ?_
                  refine hy_istore (i := 36) rfl ?_
                  refine hy_const (i := 37) rfl (by decide) ?_
                  refine hy_istore (i := 38) rfl ?_
                  refine hy_const (i := 39) rfl (by decide) ?_
                  refine hy_istore (i := 40) rfl ?_
                  refine hy_const (i := 41) rfl (by decide) ?_
                  refine hy_istore (i := 42) rfl ?_
                  exact loop _ (by assumption) (by assumption) 4096 0 rfl
                · simp only [decide_eq_false_iff_not] at zc7; omega
  · simp only [if_neg hq]
    refine hy_iload (i := 0) rfl rfl ?_
    refine hy_const (i := 1) rfl (by decide) ?_
    refine hy_const (i := 2) rfl (by decide) ?_
    refine hy_cS3e (i := 3) rfl (by decide) mj_M_in (by decide) rfl (Nat.le_of_ble_eq_true rfl) (c_M_in) ?_
    refine hy_ib_eq (i := 4) (tt := 30) rfl (fun zc1 => ?_) (fun zc1 => ?_)
    · refine hy_const (i := 30) rfl (by decide) ?_
      refine hy_ireturn (i := 31) rfl rfl ?_
      exact ⟨rfl, hy_F.rf, fun h => absurd h hq⟩
    · refine hy_iload (i := 5) rfl rfl ?_
      refine hy_const (i := 6) rfl (by decide) ?_
      refine hy_const (i := 7) rfl (by decide) ?_
      refine hy_cS3e (i := 8) rfl (by decide) mj_M_in (by decide) rfl (Nat.le_of_ble_eq_true rfl) (c_M_in) ?_
      refine hy_ib_eq (i := 9) (tt := 30) rfl (fun zc2 => ?_) (fun zc2 => ?_)
      · refine hy_const (i := 30) rfl (by decide) ?_
        refine hy_ireturn (i := 31) rfl rfl ?_
        exact ⟨rfl, hy_F.rf, fun h => absurd h hq⟩
      · refine hy_iload (i := 10) rfl rfl ?_
        refine hy_iload (i := 11) rfl rfl ?_
        refine hy_iand (i := 12) rfl ?_
        refine hy_if_ne (i := 13) (tt := 30) rfl (fun zc3 => ?_) (fun zc3 => ?_)
        · refine hy_const (i := 30) rfl (by decide) ?_
          refine hy_ireturn (i := 31) rfl rfl ?_
          exact ⟨rfl, hy_F.rf, fun h => absurd h hq⟩
        · refine hy_iload (i := 14) rfl rfl ?_
          refine hy_cS1e (i := 15) rfl (by decide) mj_M_isQuarter (by decide) rfl (Nat.le_of_ble_eq_true rfl) (c_M_isQuarter) ?_
          refine hy_ib_eq (i := 16) (tt := 30) rfl (fun zc4 => ?_) (fun zc4 => ?_)
          · refine hy_const (i := 30) rfl (by decide) ?_
            refine hy_ireturn (i := 31) rfl rfl ?_
            exact ⟨rfl, hy_F.rf, fun h => absurd h hq⟩
          · refine hy_iload (i := 17) rfl rfl ?_
            refine hy_const (i := 18) rfl (by decide) ?_
            refine hy_const (i := 19) rfl (by decide) ?_
            refine hy_cS3e (i := 20) rfl (by decide) mj_M_in (by decide) rfl (Nat.le_of_ble_eq_true rfl) (c_M_in) ?_
            refine hy_ib_eq (i := 21) (tt := 30) rfl (fun zc5 => ?_) (fun zc5 => ?_)
            · refine hy_const (i := 30) rfl (by decide) ?_
              refine hy_ireturn (i := 31) rfl rfl ?_
              exact ⟨rfl, hy_F.rf, fun h => absurd h hq⟩
            · refine hy_iload (i := 22) rfl rfl ?_
              refine hy_const (i := 23) rfl (by decide) ?_
              refine hy_ic_ge (i := 24) (tt := 32) rfl (fun zc6 => ?_) (fun zc6 => ?_)
              · exfalso; simp only [decide_eq_true_eq] at *; exact hq ⟨by assumption, by assumption, by assumption, by assumption, by assumption, fun h => absurd h (by omega)⟩
              · refine hy_iload (i := 25) rfl rfl ?_
                refine hy_const (i := 26) rfl (by decide) ?_
                refine hy_const (i := 27) rfl (by decide) ?_
                refine hy_cS3e (i := 28) rfl (by decide) mj_M_in (by decide) rfl (Nat.le_of_ble_eq_true rfl) (c_M_in) ?_
                refine hy_ib_ne (i := 29) (tt := 32) rfl (fun zc7 => ?_) (fun zc7 => ?_)
                · exfalso; simp only [decide_eq_true_eq] at *; exact hq ⟨by assumption, by assumption, by assumption, by assumption, by assumption, fun h => by assumption⟩
                · refine hy_const (i := 30) rfl (by decide) ?_
                  refine hy_ireturn (i := 31) rfl rfl ?_
                  exact ⟨rfl, hy_F.rf, fun h => absurd h hq⟩
end MS
abbrev mby (t : hy_T) (i : Nat) : Int := hz_iand (t 65 i) 255
theorem mby_in (t : hy_T) (i : Nat) : 0 ≤ mby t i ∧ mby t i ≤ 255 := hz_iand_le (by decide)
abbrev mf_ptc (t : hy_T) (m w : Int) : Prop := (2 ≤ m ∧ m ≤ 3) ∧ ((0 ≤ w ∧ w ≤ 1) ∨ 10 ≤ w ∧ w ≤ 13) ∧ 4 * m ≤ t 59 9
section MR
variable {sc : List Int32} {t : hy_T}
theorem c_M_hasBy {m i j x : Int} (hm : 2 ≤ m ∧ m ≤ 3) (hi : 0 ≤ i ∧ i < 3) (hx : 0 ≤ x ∧ x ≤ 100) : hy_Ct sc hm_M_hasBy 0 [.inr (some 59), .inl m, .inl i, .inl j, .inl x] t (hy_p (fun y => 0 ≤ y ∧ y ≤ 1020) t) := by
  refine hy_mk_ct ok_M_hasBy ck_M_hasBy (Nat.le_of_ble_eq_true rfl) ?_
  have loop : ∀ (n : Nat), n ≤ 4 → ∀ (s l : Int), (0 ≤ s ∧ s + 255 * n ≤ 1020) → (0 ≤ l ∧ l ≤ 100) → hy_W sc hm_M_hasBy 0 6 [.inr (some 59), .inl m, .inl i, .inl j, .inl x, .inl s, .inl l, .inl ((n : Int) - 1)] [] t (hy_p (fun y => 0 ≤ y ∧ y ≤ 1020) t) := by
    intro n
    induction n with
    | zero =>
      intro hn s l hs hl
      refine hy_iload (i := 6) rfl rfl ?_
      refine hy_if_lt (i := 7) (tt := 32) rfl (fun zc1 => ?_) (fun zc1 => ?_)
      · refine hy_iload (i := 32) rfl rfl ?_
        refine hy_ireturn (i := 33) rfl rfl ?_
        exact ⟨_, rfl, by omega, rfl⟩
      · omega
    | succ n ih =>
      intro hn s l hs hl
      rw [show (((n + 1 : Nat) : Int) - 1) = (n : Int) by omega]
      have hb : 0 ≤ hz_iand (t 65 (4 * i + n).toNat) 255 ∧ hz_iand (t 65 (4 * i + n).toNat) 255 ≤ 255 := mby_in t (4 * i + n).toNat
      have hlm : 0 ≤ l / m ∧ l / m ≤ l := ⟨Int.ediv_nonneg hl.1 (by omega), Int.ediv_le_self m hl.1⟩
      refine hy_iload (i := 6) rfl rfl ?_
      refine hy_if_lt (i := 7) (tt := 32) rfl (fun zc1 => ?_) (fun zc1 => ?_)
      · omega
      · refine hy_iload (i := 8) rfl rfl ?_
        refine hy_iload (i := 9) rfl rfl ?_
        refine hy_irem (i := 10) rfl (by omega) (by omega) ?_
        refine hy_iload (i := 11) rfl rfl ?_
        refine hy_ic_ne (i := 12) (tt := 26) rfl (fun zc2 => ?_) (fun zc2 => ?_)
        · refine hy_iload (i := 26) rfl rfl ?_
          refine hy_iload (i := 27) rfl rfl ?_
          refine hy_idiv (i := 28) rfl (by omega) (by omega) ?_
          refine hy_istore (i := 29) rfl ?_
          refine hy_iinc (i := 30) rfl rfl (by omega) ?_
          refine hy_goto (i := 31) (tt := 6) rfl ?_
          rw [show (n : Int) + -1 = (n : Int) - 1 by omega]
          exact ih (by omega) _ _ (by omega) (by omega)
        · refine hy_iload (i := 13) rfl rfl ?_
          refine hy_aload (i := 14) rfl rfl ?_
          refine hy_getr (i := 15) rfl rfl ?_
          refine hy_const (i := 16) rfl (by decide) ?_
          refine hy_iload (i := 17) rfl rfl ?_
          refine hy_imul (i := 18) rfl (by omega) ?_
          refine hy_iload (i := 19) rfl rfl ?_
          refine hy_iadd (i := 20) rfl (by omega) ?_
          refine hy_bald (i := 21) rfl rfl (by decide) (by omega) rfl ?_
          refine hy_const (i := 22) rfl (by decide) ?_
          refine hy_iand (i := 23) rfl ?_
          refine hy_iadd (i := 24) rfl (by omega) ?_
          refine hy_istore (i := 25) rfl ?_
          refine hy_iload (i := 26) rfl rfl ?_
          refine hy_iload (i := 27) rfl rfl ?_
          refine hy_idiv (i := 28) rfl (by omega) (by omega) ?_
          refine hy_istore (i := 29) rfl ?_
          refine hy_iinc (i := 30) rfl rfl (by omega) ?_
          refine hy_goto (i := 31) (tt := 6) rfl ?_
          rw [show (n : Int) + -1 = (n : Int) - 1 by omega]
          exact ih (by omega) _ _ (by omega) (by omega)
  refine hy_const (i := 0) rfl (by decide) ?_
  refine hy_istore (i := 1) rfl ?_
  refine hy_iload (i := 2) rfl rfl ?_
  refine hy_istore (i := 3) rfl ?_
  refine hy_const (i := 4) rfl (by decide) ?_
  refine hy_istore (i := 5) rfl ?_
  exact loop 4 (by decide) 0 x (by decide) hx
theorem c_M_leastBy {m x : Int} (hm : 2 ≤ m ∧ m ≤ 3) (hx : 0 ≤ x ∧ x ≤ 100) : hy_Ct sc hm_M_leastBy 1 [.inr (some 59), .inl m, .inl x] t (hy_p (fun _ => True) t) := by
  refine hy_mk_ct ok_M_leastBy ck_M_leastBy (Nat.le_of_ble_eq_true rfl) ?_
  have loop : ∀ (n : Nat), ∀ (k : Nat) (l : Int), n + k = m.toNat → hy_W sc hm_M_leastBy 1 4 [.inr (some 59), .inl m, .inl x, .inl l, .inl (k : Int)] [] t (hy_p (fun _ => True) t) := by
    intro n
    induction n with
    | zero =>
      intro k l hn
      refine hy_iload (i := 4) rfl rfl ?_
      refine hy_iload (i := 5) rfl rfl ?_
      refine hy_ic_ge (i := 6) (tt := 18) rfl (fun zc1 => ?_) (fun zc1 => ?_)
      · refine hy_iload (i := 18) rfl rfl ?_
        refine hy_ireturn (i := 19) rfl rfl ?_
        exact ⟨_, rfl, trivial, rfl⟩
      · omega
    | succ n ih =>
      intro k l hn
      refine hy_iload (i := 4) rfl rfl ?_
      refine hy_iload (i := 5) rfl rfl ?_
      refine hy_ic_ge (i := 6) (tt := 18) rfl (fun zc1 => ?_) (fun zc1 => ?_)
      · omega
      · refine hy_iload (i := 7) rfl rfl ?_
        refine hy_aload (i := 8) rfl rfl ?_
        refine hy_iload (i := 9) rfl rfl ?_
        refine hy_iload (i := 10) rfl rfl ?_
        refine hy_iload (i := 11) rfl rfl ?_
        refine hy_iload (i := 12) rfl rfl ?_
        refine hy_cV4 (i := 13) rfl mj_M_hasBy (by decide) rfl (Nat.le_of_ble_eq_true rfl) rfl rfl rfl (c_M_hasBy hm (by omega) hx) (fun r1_ t1_ h1 => ?_)
        obtain ⟨x1, rfl, hx1, rfl⟩ := h1
        dsimp only [hy_st, List.cons_append, List.nil_append]
        refine hy_cS2e (i := 14) rfl (by decide) mj_M_min (by decide) rfl (Nat.le_of_ble_eq_true rfl) (c_M_min) ?_
        refine hy_istore (i := 15) rfl ?_
        refine hy_iinc (i := 16) rfl rfl (by omega) ?_
        refine hy_goto (i := 17) (tt := 4) rfl ?_
        exact ih (k + 1) _ (by omega)
  refine hy_const (i := 0) rfl (by decide) ?_
  refine hy_istore (i := 1) rfl ?_
  refine hy_const (i := 2) rfl (by decide) ?_
  refine hy_istore (i := 3) rfl ?_
  exact loop m.toNat 0 _ rfl
theorem c_M_parted {m w : Int} (hl : 0 ≤ t 59 9 ∧ t 59 9 ≤ 260) : hy_Ct sc hm_M_parted 2 [.inr (some 59), .inl m, .inl w] t (fun r t' => (∃ x : Int, r = some x) ∧ t' = if mf_ptc t m w then hy_up t 59 9 0 else t) := by
  refine hy_mk_ct ok_M_parted ck_M_parted (Nat.le_of_ble_eq_true rfl) ?_
  by_cases hq : mf_ptc t m w
  · simp only [if_pos hq]
    have hm := hq.1
    generalize hu : hy_up t 59 9 0 = u
    have fin : ∀ (v4 v5 v6 : hy_V) (b : Int), (0 ≤ b ∧ b ≤ 100) → hy_W sc hm_M_parted 2 71 [.inr (some 59), .inl m, .inl w, .inl b, v4, v5, v6] [] u (fun r t' => (∃ x : Int, r = some x) ∧ t' = u) := by
      intro v4 v5 v6 b hb
      have envy : ∀ (n : Nat), ∀ (k : Nat) (y : Int) (v6 : hy_V), n + k = m.toNat → (0 ≤ y ∧ y ≤ 3 * k) → hy_W sc hm_M_parted 2 85 [.inr (some 59), .inl m, .inl w, .inl b, .inl y, .inl (k : Int), v6] [] u (fun r t' => (∃ x : Int, r = some x) ∧ t' = u) := by
        intro n
        induction n with
        | zero =>
          intro k y v6 hn hy
          refine hy_iload (i := 85) rfl rfl ?_
          refine hy_iload (i := 86) rfl rfl ?_
          refine hy_ic_ge (i := 87) (tt := 116) rfl (fun zc1 => ?_) (fun zc1 => ?_)
          · refine hy_iload (i := 116) rfl rfl ?_
            refine hy_ireturn (i := 117) rfl rfl ?_
            exact ⟨⟨_, rfl⟩, rfl⟩
          · omega
        | succ n ih =>
          intro k y v6 hn hy
          have inner : ∀ (n2 : Nat), ∀ (j : Nat) (y : Int), n2 + j = m.toNat → (0 ≤ y ∧ y ≤ 3 * k + j) → hy_W sc hm_M_parted 2 90 [.inr (some 59), .inl m, .inl w, .inl b, .inl y, .inl (k : Int), .inl (j : Int)] [] u (fun r t' => (∃ x : Int, r = some x) ∧ t' = u) := by
            intro n2
            induction n2 with
            | zero =>
              intro j y hn2 hy
              refine hy_iload (i := 90) rfl rfl ?_
              refine hy_iload (i := 91) rfl rfl ?_
              refine hy_ic_ge (i := 92) (tt := 114) rfl (fun zc1 => ?_) (fun zc1 => ?_)
              · refine hy_iinc (i := 114) rfl rfl (by omega) ?_
                refine hy_goto (i := 115) (tt := 85) rfl ?_
                exact ih (k + 1) _ _ (by omega) (by omega)
              · omega
            | succ n2 ih2 =>
              intro j y hn2 hy
              refine hy_iload (i := 90) rfl rfl ?_
              refine hy_iload (i := 91) rfl rfl ?_
              refine hy_ic_ge (i := 92) (tt := 114) rfl (fun zc1 => ?_) (fun zc1 => ?_)
              · omega
              · refine hy_iload (i := 93) rfl rfl ?_
                refine hy_aload (i := 94) rfl rfl ?_
                refine hy_iload (i := 95) rfl rfl ?_
                refine hy_iload (i := 96) rfl rfl ?_
                refine hy_iload (i := 97) rfl rfl ?_
                refine hy_iload (i := 98) rfl rfl ?_
                refine hy_cV4 (i := 99) rfl mj_M_hasBy (by decide) rfl (Nat.le_of_ble_eq_true rfl) rfl rfl rfl (c_M_hasBy (by assumption) (by omega) (by assumption)) (fun r1_ t1_ h1 => ?_)
                obtain ⟨x1, rfl, hx1, rfl⟩ := h1
                dsimp only [hy_st, List.cons_append, List.nil_append]
                refine hy_aload (i := 100) rfl rfl ?_
                refine hy_iload (i := 101) rfl rfl ?_
                refine hy_iload (i := 102) rfl rfl ?_
                refine hy_iload (i := 103) rfl rfl ?_
                refine hy_iload (i := 104) rfl rfl ?_
                refine hy_cV4 (i := 105) rfl mj_M_hasBy (by decide) rfl (Nat.le_of_ble_eq_true rfl) rfl rfl rfl (c_M_hasBy (by assumption) (by omega) (by assumption)) (fun r2_ t2_ h2 => ?_)
                obtain ⟨x2, rfl, hx2, rfl⟩ := h2
                dsimp only [hy_st, List.cons_append, List.nil_append]
                refine hy_ic_le (i := 106) (tt := 109) rfl (fun zc2 => ?_) (fun zc2 => ?_)
                · refine hy_const (i := 109) rfl (by decide) ?_
                  refine hy_iadd (i := 110) rfl (by omega) ?_
                  refine hy_istore (i := 111) rfl ?_
                  refine hy_iinc (i := 112) rfl rfl (by omega) ?_
                  refine hy_goto (i := 113) (tt := 90) rfl ?_
                  exact ih2 (j + 1) _ (by omega) (by omega)
                · refine hy_const (i := 107) rfl (by decide) ?_
                  refine hy_goto (i := 108) (tt := 110) rfl ?_
                  refine hy_iadd (i := 110) rfl (by omega) ?_
                  refine hy_istore (i := 111) rfl ?_
                  refine hy_iinc (i := 112) rfl rfl (by omega) ?_
                  refine hy_goto (i := 113) (tt := 90) rfl ?_
                  exact ih2 (j + 1) _ (by omega) (by omega)
          refine hy_iload (i := 85) rfl rfl ?_
          refine hy_iload (i := 86) rfl rfl ?_
          refine hy_ic_ge (i := 87) (tt := 116) rfl (fun zc1 => ?_) (fun zc1 => ?_)
          · omega
          · refine hy_const (i := 88) rfl (by decide) ?_
            refine hy_istore (i := 89) rfl ?_
            exact inner m.toNat 0 _ (by omega) (by omega)
      have left : (10 ≤ w ∧ w ≤ 13) → ∀ (n : Nat), ∀ (l k : Int), k ≤ 3 → -1 ≤ k → n = (k + 1).toNat → (0 ≤ l ∧ l ≤ 100) → hy_W sc hm_M_parted 2 122 [.inr (some 59), .inl m, .inl w, .inl b, .inl l, .inl k, v6] [] u (fun r t' => (∃ x : Int, r = some x) ∧ t' = u) := by
        intro hw n
        induction n with
        | zero =>
          intro l k h3 h0 hn hl
          refine hy_iload (i := 122) rfl rfl ?_
          refine hy_iload (i := 123) rfl rfl ?_
          refine hy_const (i := 124) rfl (by decide) ?_
          refine hy_isub (i := 125) rfl (by omega) ?_
          refine hy_ic_le (i := 126) (tt := 133) rfl (fun zc1 => ?_) (fun zc1 => ?_)
          · refine hy_iload (i := 133) rfl rfl ?_
            refine hy_iload (i := 134) rfl rfl ?_
            refine hy_irem (i := 135) rfl (by omega) (by omega) ?_
            refine hy_ireturn (i := 136) rfl rfl ?_
            exact ⟨⟨_, rfl⟩, rfl⟩
          · omega
        | succ n ih =>
          intro l k h3 h0 hn hl
          have hlm : 0 ≤ l / m ∧ l / m ≤ l := ⟨Int.ediv_nonneg hl.1 (by omega), Int.ediv_le_self m hl.1⟩
          refine hy_iload (i := 122) rfl rfl ?_
          refine hy_iload (i := 123) rfl rfl ?_
          refine hy_const (i := 124) rfl (by decide) ?_
          refine hy_isub (i := 125) rfl (by omega) ?_
          refine hy_ic_le (i := 126) (tt := 133) rfl (fun zc1 => ?_) (fun zc1 => ?_)
          · refine hy_iload (i := 133) rfl rfl ?_
            refine hy_iload (i := 134) rfl rfl ?_
            refine hy_irem (i := 135) rfl (by omega) (by omega) ?_
            refine hy_ireturn (i := 136) rfl rfl ?_
            exact ⟨⟨_, rfl⟩, rfl⟩
          · refine hy_iload (i := 127) rfl rfl ?_
            refine hy_iload (i := 128) rfl rfl ?_
            refine hy_idiv (i := 129) rfl (by omega) (by omega) ?_
            refine hy_istore (i := 130) rfl ?_
            refine hy_iinc (i := 131) rfl rfl (by omega) ?_
            refine hy_goto (i := 132) (tt := 122) rfl ?_
            exact ih _ _ (by omega) (by omega) (by omega) (by omega)
      refine hy_iload (i := 71) rfl rfl ?_
      refine hy_if_ne (i := 72) (tt := 78) rfl (fun zc1 => ?_) (fun zc1 => ?_)
      · refine hy_iload (i := 78) rfl rfl ?_
        refine hy_const (i := 79) rfl (by decide) ?_
        refine hy_ic_ne (i := 80) (tt := 118) rfl (fun zc2 => ?_) (fun zc2 => ?_)
        · refine hy_iload (i := 118) rfl rfl ?_
          refine hy_istore (i := 119) rfl ?_
          refine hy_const (i := 120) rfl (by decide) ?_
          refine hy_istore (i := 121) rfl ?_
          exact left (by omega) 4 b 3 (by decide) (by decide) rfl hb
        · refine hy_const (i := 81) rfl (by decide) ?_
          refine hy_istore (i := 82) rfl ?_
          refine hy_const (i := 83) rfl (by decide) ?_
          refine hy_istore (i := 84) rfl ?_
          exact envy m.toNat 0 0 _ rfl (by omega)
      · refine hy_aload (i := 73) rfl rfl ?_
        refine hy_iload (i := 74) rfl rfl ?_
        refine hy_iload (i := 75) rfl rfl ?_
        refine hy_cV2 (i := 76) rfl mj_M_leastBy (by decide) rfl (Nat.le_of_ble_eq_true rfl) rfl rfl rfl (c_M_leastBy (by assumption) (by assumption)) (fun r1_ t1_ h1 => ?_)
        obtain ⟨x1, rfl, hx1, rfl⟩ := h1
        dsimp only [hy_st, List.cons_append, List.nil_append]
        refine hy_ireturn (i := 77) rfl rfl ?_
        exact ⟨⟨_, rfl⟩, rfl⟩
    have mm : (16 ≤ m * m * m * m ∧ m * m * m * m ≤ 81) ∧ (m * m * m = 8 ∨ m * m * m = 27) ∧ (m * m = 4 ∨ m * m = 9) := by
      rcases (show m = 2 ∨ m = 3 by omega) with rfl | rfl <;> decide
    have best : ∀ (n : Nat), ∀ (b k : Int) (v5 v6 : hy_V), n = (m * m * m * m - k).toNat → (1 ≤ k ∧ k ≤ m * m * m * m) → (0 ≤ b ∧ b ≤ 100) → hy_W sc hm_M_parted 2 49 [.inr (some 59), .inl m, .inl w, .inl b, .inl k, v5, v6] [] u (fun r t' => (∃ x : Int, r = some x) ∧ t' = u) := by
      intro n
      induction n with
      | zero =>
        intro b k v5 v6 hn hk hb
        refine hy_iload (i := 49) rfl rfl ?_
        refine hy_iload (i := 50) rfl rfl ?_
        refine hy_iload (i := 51) rfl rfl ?_
        refine hy_imul (i := 52) rfl (by omega) ?_
        refine hy_iload (i := 53) rfl rfl ?_
        refine hy_imul (i := 54) rfl (by omega) ?_
        refine hy_iload (i := 55) rfl rfl ?_
        refine hy_imul (i := 56) rfl (by omega) ?_
        refine hy_ic_ge (i := 57) (tt := 71) rfl (fun zc1 => ?_) (fun zc1 => ?_)
        · exact fin _ _ _ b hb
        · omega
      | succ n ih =>
        intro b k v5 v6 hn hk hb
        refine hy_iload (i := 49) rfl rfl ?_
        refine hy_iload (i := 50) rfl rfl ?_
        refine hy_iload (i := 51) rfl rfl ?_
        refine hy_imul (i := 52) rfl (by omega) ?_
        refine hy_iload (i := 53) rfl rfl ?_
        refine hy_imul (i := 54) rfl (by omega) ?_
        refine hy_iload (i := 55) rfl rfl ?_
        refine hy_imul (i := 56) rfl (by omega) ?_
        refine hy_ic_ge (i := 57) (tt := 71) rfl (fun zc1 => ?_) (fun zc1 => ?_)
        · omega
        · refine hy_aload (i := 58) rfl rfl ?_
          refine hy_iload (i := 59) rfl rfl ?_
          refine hy_iload (i := 60) rfl rfl ?_
          refine hy_cV2 (i := 61) rfl mj_M_leastBy (by decide) rfl (Nat.le_of_ble_eq_true rfl) rfl rfl rfl (c_M_leastBy hm (by omega)) (fun r1_ t1_ h1 => ?_)
          obtain ⟨x1, rfl, hx1, rfl⟩ := h1
          dsimp only [hy_st, List.cons_append, List.nil_append]
          refine hy_aload (i := 62) rfl rfl ?_
          refine hy_iload (i := 63) rfl rfl ?_
          refine hy_iload (i := 64) rfl rfl ?_
          refine hy_cV2 (i := 65) rfl mj_M_leastBy (by decide) rfl (Nat.le_of_ble_eq_true rfl) rfl rfl rfl (c_M_leastBy (by assumption) (by assumption)) (fun r2_ t2_ h2 => ?_)
          obtain ⟨x2, rfl, hx2, rfl⟩ := h2
          dsimp only [hy_st, List.cons_append, List.nil_append]
          refine hy_ic_le (i := 66) (tt := 69) rfl (fun zc2 => ?_) (fun zc2 => ?_)
          · refine hy_iinc (i := 69) rfl rfl (by omega) ?_
            refine hy_goto (i := 70) (tt := 49) rfl ?_
            exact ih _ _ _ _ (by omega) (by omega) (by omega)
          · refine hy_iload (i := 67) rfl rfl ?_
            refine hy_istore (i := 68) rfl ?_
            refine hy_iinc (i := 69) rfl rfl (by omega) ?_
            refine hy_goto (i := 70) (tt := 49) rfl ?_
            exact ih _ _ _ _ (by omega) (by omega) (by omega)
    have shown : ∀ (n : Nat), ∀ (k : Nat) (v4 v5 v6 : hy_V), n + k = (4 * m).toNat → hy_W sc hm_M_parted 2 28 [.inr (some 59), .inl m, .inl w, .inl (k : Int), v4, v5, v6] [] u (fun r t' => (∃ x : Int, r = some x) ∧ t' = u) := by
      intro n
      induction n with
      | zero =>
        intro k v4 v5 v6 hn
        refine hy_iload (i := 28) rfl rfl ?_
        refine hy_const (i := 29) rfl (by decide) ?_
        refine hy_iload (i := 30) rfl rfl ?_
        refine hy_imul (i := 31) rfl (by omega) ?_
        refine hy_ic_ge (i := 32) (tt := 45) rfl (fun zc1 => ?_) (fun zc1 => ?_)
        · refine hy_const (i := 45) rfl (by decide) ?_
          refine hy_istore (i := 46) rfl ?_
          refine hy_const (i := 47) rfl (by decide) ?_
          refine hy_istore (i := 48) rfl ?_
          exact best (m * m * m * m - 1).toNat 0 1 _ _ rfl (by omega) (by decide)
        · omega
      | succ n ih =>
        intro k v4 v5 v6 hn
        refine hy_iload (i := 28) rfl rfl ?_
        refine hy_const (i := 29) rfl (by decide) ?_
        refine hy_iload (i := 30) rfl rfl ?_
        refine hy_imul (i := 31) rfl (by omega) ?_
        refine hy_ic_ge (i := 32) (tt := 45) rfl (fun zc1 => ?_) (fun zc1 => ?_)
        · omega
        · refine hy_aload (i := 33) rfl rfl ?_
          refine hy_getr (i := 34) rfl rfl ?_
          refine hy_iload (i := 35) rfl rfl ?_
          refine hy_bald (i := 36) rfl rfl (by decide) (by omega) rfl ?_
          refine hy_const (i := 37) rfl (by decide) ?_
          refine hy_iand (i := 38) rfl ?_
          refine hy_const (i := 39) rfl (by decide) ?_
          refine hy_ic_le (i := 40) (tt := 43) rfl (fun zc2 => ?_) (fun zc2 => ?_)
          · refine hy_iinc (i := 43) rfl rfl (by omega) ?_
            refine hy_goto (i := 44) (tt := 28) rfl ?_
            exact ih (k + 1) _ _ _ (by omega)
          · refine hy_const (i := 41) rfl (by decide) ?_
            refine hy_ireturn (i := 42) rfl rfl ?_
            exact ⟨⟨_, rfl⟩, rfl⟩
    refine hy_iload (i := 0) rfl rfl ?_
    refine hy_const (i := 1) rfl (by decide) ?_
    refine hy_const (i := 2) rfl (by decide) ?_
    refine hy_cS3e (i := 3) rfl (by decide) mj_M_in (by decide) rfl (Nat.le_of_ble_eq_true rfl) (c_M_in) ?_
    refine hy_ib_eq (i := 4) (tt := 21) rfl (fun zc1 => ?_) (fun zc1 => ?_)
    · simp only [decide_eq_false_iff_not] at zc1; omega
    · refine hy_iload (i := 5) rfl rfl ?_
      refine hy_const (i := 6) rfl (by decide) ?_
      refine hy_const (i := 7) rfl (by decide) ?_
      refine hy_cS3e (i := 8) rfl (by decide) mj_M_in (by decide) rfl (Nat.le_of_ble_eq_true rfl) (c_M_in) ?_
      refine hy_ib_ne (i := 9) (tt := 15) rfl (fun zc2 => ?_) (fun zc2 => ?_)
      · refine hy_const (i := 15) rfl (by decide) ?_
        refine hy_iload (i := 16) rfl rfl ?_
        refine hy_imul (i := 17) rfl (by omega) ?_
        refine hy_aload (i := 18) rfl rfl ?_
        refine hy_get (i := 19) (fk := 9) rfl rfl rfl ?_
        refine hy_ic_le (i := 20) (tt := 23) rfl (fun zc3 => ?_) (fun zc3 => ?_)
        · refine hy_aload (i := 23) rfl rfl ?_
          refine hy_const (i := 24) rfl (by decide) ?_
          refine hy_put (i := 25) (fk := 9) rfl rfl rfl rfl ?_
          rw [hu]
          refine hy_const (i := 26) rfl (by decide) ?_
          refine hy_istore (i := 27) rfl ?_
          exact shown (4 * m).toNat 0 _ _ _ rfl
        · omega
      · refine hy_iload (i := 10) rfl rfl ?_
        refine hy_const (i := 11) rfl (by decide) ?_
        refine hy_const (i := 12) rfl (by decide) ?_
        refine hy_cS3e (i := 13) rfl (by decide) mj_M_in (by decide) rfl (Nat.le_of_ble_eq_true rfl) (c_M_in) ?_
        refine hy_ib_eq (i := 14) (tt := 21) rfl (fun zc3 => ?_) (fun zc3 => ?_)
        · exfalso; simp only [decide_eq_false_iff_not] at *; omega
        · refine hy_const (i := 15) rfl (by decide) ?_
          refine hy_iload (i := 16) rfl rfl ?_
          refine hy_imul (i := 17) rfl (by omega) ?_
          refine hy_aload (i := 18) rfl rfl ?_
          refine hy_get (i := 19) (fk := 9) rfl rfl rfl ?_
          refine hy_ic_le (i := 20) (tt := 23) rfl (fun zc4 => ?_) (fun zc4 => ?_)
          · refine hy_aload (i := 23) rfl rfl ?_
            refine hy_const (i := 24) rfl (by decide) ?_
            refine hy_put (i := 25) (fk := 9) rfl rfl rfl rfl ?_
            rw [hu]
            refine hy_const (i := 26) rfl (by decide) ?_
            refine hy_istore (i := 27) rfl ?_
            exact shown (4 * m).toNat 0 _ _ _ rfl
          · omega
  · simp only [if_neg hq]
    refine hy_iload (i := 0) rfl rfl ?_
    refine hy_const (i := 1) rfl (by decide) ?_
    refine hy_const (i := 2) rfl (by decide) ?_
    refine hy_cS3e (i := 3) rfl (by decide) mj_M_in (by decide) rfl (Nat.le_of_ble_eq_true rfl) (c_M_in) ?_
    refine hy_ib_eq (i := 4) (tt := 21) rfl (fun zc1 => ?_) (fun zc1 => ?_)
    · refine hy_const (i := 21) rfl (by decide) ?_
      refine hy_ireturn (i := 22) rfl rfl ?_
      exact ⟨⟨_, rfl⟩, rfl⟩
    · refine hy_iload (i := 5) rfl rfl ?_
      refine hy_const (i := 6) rfl (by decide) ?_
      refine hy_const (i := 7) rfl (by decide) ?_
      refine hy_cS3e (i := 8) rfl (by decide) mj_M_in (by decide) rfl (Nat.le_of_ble_eq_true rfl) (c_M_in) ?_
      refine hy_ib_ne (i := 9) (tt := 15) rfl (fun zc2 => ?_) (fun zc2 => ?_)
      · refine hy_const (i := 15) rfl (by decide) ?_
        refine hy_iload (i := 16) rfl rfl ?_
        refine hy_imul (i := 17) rfl (by simp only [decide_eq_true_eq] at *; omega) ?_
        refine hy_aload (i := 18) rfl rfl ?_
        refine hy_get (i := 19) (fk := 9) rfl rfl rfl ?_
        refine hy_ic_le (i := 20) (tt := 23) rfl (fun zc3 => ?_) (fun zc3 => ?_)
        · exfalso; simp only [decide_eq_true_eq] at *; first | exact hq ⟨by assumption, .inl (by assumption), by omega⟩ | exact hq ⟨by assumption, .inr (by assumption), by omega⟩
        · refine hy_const (i := 21) rfl (by decide) ?_
          refine hy_ireturn (i := 22) rfl rfl ?_
          exact ⟨⟨_, rfl⟩, rfl⟩
      · refine hy_iload (i := 10) rfl rfl ?_
        refine hy_const (i := 11) rfl (by decide) ?_
        refine hy_const (i := 12) rfl (by decide) ?_
        refine hy_cS3e (i := 13) rfl (by decide) mj_M_in (by decide) rfl (Nat.le_of_ble_eq_true rfl) (c_M_in) ?_
        refine hy_ib_eq (i := 14) (tt := 21) rfl (fun zc3 => ?_) (fun zc3 => ?_)
        · refine hy_const (i := 21) rfl (by decide) ?_
          refine hy_ireturn (i := 22) rfl rfl ?_
          exact ⟨⟨_, rfl⟩, rfl⟩
        · refine hy_const (i := 15) rfl (by decide) ?_
          refine hy_iload (i := 16) rfl rfl ?_
          refine hy_imul (i := 17) rfl (by simp only [decide_eq_true_eq] at *; omega) ?_
          refine hy_aload (i := 18) rfl rfl ?_
          refine hy_get (i := 19) (fk := 9) rfl rfl rfl ?_
          refine hy_ic_le (i := 20) (tt := 23) rfl (fun zc4 => ?_) (fun zc4 => ?_)
          · exfalso; simp only [decide_eq_true_eq] at *; first | exact hq ⟨by assumption, .inl (by assumption), by omega⟩ | exact hq ⟨by assumption, .inr (by assumption), by omega⟩
          · refine hy_const (i := 21) rfl (by decide) ?_
            refine hy_ireturn (i := 22) rfl rfl ?_
            exact ⟨⟨_, rfl⟩, rfl⟩
end MR
/-! the model: spies -/
def ms_shownN (t : hy_T) : Nat → Bool
  | 0 => true
  | k + 1 => ms_shownN t k && ((sp_told (t 59 0) (mby t (3 * k)) && decide (mby t (3 * k + 1) ≤ 3)) && decide (mby t (3 * k + 2) ≤ 1))
theorem ms_shownN_le (t : hy_T) : ∀ (n m : Nat), m ≤ n → ms_shownN t n = true → ms_shownN t m = true
  | 0, m, h, hf => by obtain rfl : m = 0 := (by omega); exact hf
  | n + 1, m, h, hf => by
    by_cases hm : m = n + 1
    · rw [hm]; exact hf
    · simp only [ms_shownN, Bool.and_eq_true] at hf
      exact ms_shownN_le t n m (by omega) hf.1
theorem ms_shown_at {t : hy_T} {n k : Nat} (h : ms_shownN t n = true) (hk : k < n) : sp_told (t 59 0) (mby t (3 * k)) = true ∧ mby t (3 * k + 1) ≤ 3 ∧ mby t (3 * k + 2) ≤ 1 := by
  have h1 := ms_shownN_le t n (k + 1) (by omega) h
  simp only [ms_shownN, Bool.and_eq_true, decide_eq_true_eq] at h1
  exact ⟨h1.2.1.1, h1.2.1.2, h1.2.2⟩
theorem ms_shown_no {t : hy_T} {n k : Nat} (hk : k ≤ n) (h : ms_shownN t k = false) : ms_shownN t n = false := by
  cases h1 : ms_shownN t n
  · rfl
  · exact bb_abs (ms_shownN_le t n k hk h1) h
def ms_stop (t : hy_T) (e c q : Int) : Bool := decide (mq_as t e q c.toNat ≠ 12)
def ms_fitN (t : hy_T) (e : Int) : Nat → Bool
  | 0 => true
  | k + 1 => ms_fitN t e k && (ms_stop t e (mby t (3 * k)) (mby t (3 * k + 1)) == decide (t 65 (3 * k + 2) = 1))
theorem ms_fit_no {t : hy_T} {e : Int} : ∀ (n k : Nat), k ≤ n → ms_fitN t e k = false → ms_fitN t e n = false
  | 0, k, h, hf => by obtain rfl : k = 0 := (by omega); exact hf
  | n + 1, k, h, hf => by
    by_cases hk : k = n + 1
    · rw [← hk]; exact hf
    · simp only [ms_fitN, ms_fit_no n k (by omega) hf, Bool.false_and]
def ms_setN (t : hy_T) (n : Nat) : Nat → Int
  | 0 => 0
  | e + 1 => if ms_fitN t e n = true then hz_ior (ms_setN t n e) (hz_ishl 1 e) else ms_setN t n e
def ms_cntN (t : hy_T) (s c q : Int) : Nat → Int
  | 0 => 0
  | e + 1 => ms_cntN t s c q e + (if hz_b s e = true ∧ ms_stop t e c q = true then 1 else 0)
theorem ms_cntN_in (t : hy_T) (s c q : Int) : ∀ n : Nat, 0 ≤ ms_cntN t s c q n ∧ ms_cntN t s c q n ≤ n
  | 0 => by simp [ms_cntN]
  | n + 1 => by
    have h := ms_cntN_in t s c q n
    simp only [ms_cntN]
    split <;> omega
def ms_great (t : hy_T) (s c q : Int) : Int := if mf_bitsN s 12 - ms_cntN t s c q 6 < ms_cntN t s c q 6 then ms_cntN t s c q 6 else mf_bitsN s 12 - ms_cntN t s c q 6
def ms_bestN (t : hy_T) (s : Int) : Nat → Int × Int
  | 0 => (-1, 1000000000)
  | k + 1 => if sp_told (t 59 0) ((k : Int) / 4) = true ∧ ms_great t s ((k : Int) / 4) ((k : Int) % 4) < (ms_bestN t s k).2 then ((k : Int), ms_great t s ((k : Int) / 4) ((k : Int) % 4)) else ms_bestN t s k
def ms_spy (t : hy_T) (n : Nat) (w : Int) : Int := if ms_shownN t n = true then (if w = 0 then ms_setN t n 6 else if w = 1 then hz_div (ms_bestN t (ms_setN t n 6) 48).1 4 else hz_rem (ms_bestN t (ms_setN t n 6) 48).1 4) else -2
abbrev ms_spc (t : hy_T) (n w : Int) : Prop := (1 ≤ n ∧ n ≤ 10) ∧ (0 ≤ w ∧ w ≤ 2) ∧ 3 * n ≤ t 59 9
theorem ms_stop_F {X : Nat → Nat → Bool} {t t1 : hy_T} (h : hy_F X t t1) (hX : ∀ r j, meqX r j = true → X r j = false) (e c q : Int) : ms_stop t1 e c q = ms_stop t e c q := by
  unfold ms_stop
  rw [mq_as_F h hX]
theorem ms_eqb {S : Bool} {v : Int} : (S == decide (v = 1)) = decide (hy_b S = (if v = 1 then 1 else 0)) := by
  by_cases h : v = 1
  · rw [if_pos h, decide_eq_true h]; cases S <;> rfl
  · rw [if_neg h, decide_eq_false h]; cases S <;> rfl
section MY
variable {sc : List Int32} {t : hy_T}
theorem c_M_stops {e c q : Int} (hk : ml_ok t) (hp : me_pal t) (hc : 0 ≤ c ∧ c < 13) (hq : 0 ≤ q ∧ q < 4) : hy_Ct sc hm_M_stops 7 [.inr (some 59), .inl e, .inl c, .inl q] t (fun r t' => r = some (hy_b (ms_stop t e c q)) ∧ hy_F meX t t') := by
  refine hy_mk_ct ok_M_stops ck_M_stops (Nat.le_of_ble_eq_true rfl) ?_
  refine hy_aload (i := 0) rfl rfl ?_
  refine hy_iload (i := 1) rfl rfl ?_
  refine hy_iload (i := 2) rfl rfl ?_
  refine hy_cV2 (i := 3) rfl mj_M_laysAs (by decide) rfl (Nat.le_of_ble_eq_true rfl) rfl rfl rfl (c_M_laysAs (by assumption) (by assumption) (by omega)) (fun r1_ t1_ h1 => ?_)
  obtain ⟨rfl, hF1, hA1⟩ := h1
  dsimp only [hy_st, List.nil_append]
  refine hy_aload (i := 4) rfl rfl ?_
  refine hy_getr (i := 5) rfl rfl ?_
  refine hy_iload (i := 6) rfl rfl ?_
  refine hy_iald (i := 7) rfl rfl (by omega) rfl ?_
  rw [hA1 _ (by omega)]
  refine hy_const (i := 8) rfl (by decide) ?_
  refine hy_ic_eq (i := 9) (tt := 12) rfl (fun zc1 => ?_) (fun zc1 => ?_)
  · refine hy_const (i := 12) rfl (by decide) ?_
    refine hy_zreturn (i := 13) rfl rfl (by first | decide | exact hy_b01 _) ?_
    refine ⟨congrArg some ?_, hF1⟩
    unfold ms_stop
    first | (rw [decide_eq_true (by assumption)]; rfl) | (rw [decide_eq_false (fun h => h (by assumption))]; rfl)
  · refine hy_const (i := 10) rfl (by decide) ?_
    refine hy_goto (i := 11) (tt := 13) rfl ?_
    refine hy_zreturn (i := 13) rfl rfl (by first | decide | exact hy_b01 _) ?_
    refine ⟨congrArg some ?_, hF1⟩
    unfold ms_stop
    first | (rw [decide_eq_true (by assumption)]; rfl) | (rw [decide_eq_false (fun h => h (by assumption))]; rfl)
theorem c_M_areShown {n : Int} (hn : n ≤ 10) : hy_Ct sc hm_M_areShown 2 [.inr (some 59), .inl n] t (hy_e (some (hy_b (ms_shownN t n.toNat))) t) := by
  refine hy_mk_ct ok_M_areShown ck_M_areShown (Nat.le_of_ble_eq_true rfl) ?_
  have loop : ∀ (m : Nat), ∀ (k : Nat), m + k = n.toNat → ms_shownN t k = true → hy_W sc hm_M_areShown 2 2 [.inr (some 59), .inl n, .inl (k : Int)] [] t (hy_e (some (hy_b (ms_shownN t n.toNat))) t) := by
    intro m
    induction m with
    | zero =>
      intro k hm hv
      obtain rfl : k = n.toNat := by omega
      refine hy_iload (i := 2) rfl rfl ?_
      refine hy_iload (i := 3) rfl rfl ?_
      refine hy_ic_ge (i := 4) (tt := 44) rfl (fun zc1 => ?_) (fun zc1 => ?_)
      · refine hy_const (i := 44) rfl (by decide) ?_
        refine hy_zreturn (i := 45) rfl rfl (by first | decide | exact hy_b01 _) ?_
        exact ⟨congrArg some (by rw [hv]; rfl), rfl⟩
      · omega
    | succ m ih =>
      intro k hm hv
      have e1 : ms_shownN t (k + 1) = ((sp_told (t 59 0) (mby t (3 * k)) && decide (mby t (3 * k + 1) ≤ 3)) && decide (mby t (3 * k + 2) ≤ 1)) := by simp only [ms_shownN]; rw [hv, Bool.true_and]
      refine hy_iload (i := 2) rfl rfl ?_
      refine hy_iload (i := 3) rfl rfl ?_
      refine hy_ic_ge (i := 4) (tt := 44) rfl (fun zc1 => ?_) (fun zc1 => ?_)
      · omega
      · refine hy_aload (i := 5) rfl rfl ?_
        refine hy_aload (i := 6) rfl rfl ?_
        refine hy_getr (i := 7) rfl rfl ?_
        refine hy_const (i := 8) rfl (by decide) ?_
        refine hy_iload (i := 9) rfl rfl ?_
        refine hy_imul (i := 10) rfl (by omega) ?_
        refine hy_bald (i := 11) rfl rfl (by decide) (by omega) (k := 3 * k) (by omega) ?_
        refine hy_const (i := 12) rfl (by decide) ?_
        refine hy_iand (i := 13) rfl ?_
        refine hy_cV1e (i := 14) rfl mj_M_isColour (by decide) rfl (Nat.le_of_ble_eq_true rfl) rfl rfl rfl (c_M_isColour) ?_
        refine hy_ib_eq (i := 15) (tt := 40) rfl (fun zc2 => ?_) (fun zc2 => ?_)
        · refine hy_const (i := 40) rfl (by decide) ?_
          refine hy_zreturn (i := 41) rfl rfl (by first | decide | exact hy_b01 _) ?_
          exact ⟨congrArg some (by rw [ms_shown_no (n := n.toNat) (k := k + 1) (by omega) (by rw [e1]; first | (rw [show sp_told (t 59 0) (mby t (3 * k)) = false by assumption]; rfl) | (rw [decide_eq_false (show ¬ mby t (3 * k + 1) ≤ 3 from (by omega : ¬ hz_iand (t 65 (3 * k + 1)) 255 ≤ 3)), Bool.and_false]; rfl) | (rw [decide_eq_false (show ¬ mby t (3 * k + 2) ≤ 1 from (by omega : ¬ hz_iand (t 65 (3 * k + 2)) 255 ≤ 1)), Bool.and_false]))]; rfl), rfl⟩
        · refine hy_aload (i := 16) rfl rfl ?_
          refine hy_getr (i := 17) rfl rfl ?_
          refine hy_const (i := 18) rfl (by decide) ?_
          refine hy_iload (i := 19) rfl rfl ?_
          refine hy_imul (i := 20) rfl (by omega) ?_
          refine hy_const (i := 21) rfl (by decide) ?_
          refine hy_iadd (i := 22) rfl (by omega) ?_
          refine hy_bald (i := 23) rfl rfl (by decide) (by omega) (k := 3 * k + 1) (by omega) ?_
          refine hy_const (i := 24) rfl (by decide) ?_
          refine hy_iand (i := 25) rfl ?_
          refine hy_const (i := 26) rfl (by decide) ?_
          refine hy_ic_gt (i := 27) (tt := 40) rfl (fun zc3 => ?_) (fun zc3 => ?_)
          · refine hy_const (i := 40) rfl (by decide) ?_
            refine hy_zreturn (i := 41) rfl rfl (by first | decide | exact hy_b01 _) ?_
            exact ⟨congrArg some (by rw [ms_shown_no (n := n.toNat) (k := k + 1) (by omega) (by rw [e1]; first | (rw [show sp_told (t 59 0) (mby t (3 * k)) = false by assumption]; rfl) | (rw [decide_eq_false (show ¬ mby t (3 * k + 1) ≤ 3 from (by omega : ¬ hz_iand (t 65 (3 * k + 1)) 255 ≤ 3)), Bool.and_false]; rfl) | (rw [decide_eq_false (show ¬ mby t (3 * k + 2) ≤ 1 from (by omega : ¬ hz_iand (t 65 (3 * k + 2)) 255 ≤ 1)), Bool.and_false]))]; rfl), rfl⟩
          · refine hy_aload (i := 28) rfl rfl ?_
            refine hy_getr (i := 29) rfl rfl ?_
            refine hy_const (i := 30) rfl (by decide) ?_
            refine hy_iload (i := 31) rfl rfl ?_
            refine hy_imul (i := 32) rfl (by omega) ?_
            refine hy_const (i := 33) rfl (by decide) ?_
            refine hy_iadd (i := 34) rfl (by omega) ?_
            refine hy_bald (i := 35) rfl rfl (by decide) (by omega) (k := 3 * k + 2) (by omega) ?_
            refine hy_const (i := 36) rfl (by decide) ?_
            refine hy_iand (i := 37) rfl ?_
            refine hy_const (i := 38) rfl (by decide) ?_
            refine hy_ic_le (i := 39) (tt := 42) rfl (fun zc4 => ?_) (fun zc4 => ?_)
            · refine hy_iinc (i := 42) rfl rfl (by omega) ?_
              refine hy_goto (i := 43) (tt := 2) rfl ?_
              exact ih (k + 1) (by omega) (by rw [e1, show sp_told (t 59 0) (mby t (3 * k)) = true by assumption, decide_eq_true (show mby t (3 * k + 1) ≤ 3 from (by omega : hz_iand (t 65 (3 * k + 1)) 255 ≤ 3)), decide_eq_true (show mby t (3 * k + 2) ≤ 1 from (by omega : hz_iand (t 65 (3 * k + 2)) 255 ≤ 1))]; rfl)
            · refine hy_const (i := 40) rfl (by decide) ?_
              refine hy_zreturn (i := 41) rfl rfl (by first | decide | exact hy_b01 _) ?_
              exact ⟨congrArg some (by rw [ms_shown_no (n := n.toNat) (k := k + 1) (by omega) (by rw [e1]; first | (rw [show sp_told (t 59 0) (mby t (3 * k)) = false by assumption]; rfl) | (rw [decide_eq_false (show ¬ mby t (3 * k + 1) ≤ 3 from (by omega : ¬ hz_iand (t 65 (3 * k + 1)) 255 ≤ 3)), Bool.and_false]; rfl) | (rw [decide_eq_false (show ¬ mby t (3 * k + 2) ≤ 1 from (by omega : ¬ hz_iand (t 65 (3 * k + 2)) 255 ≤ 1)), Bool.and_false]))]; rfl), rfl⟩
  refine hy_const (i := 0) rfl (by decide) ?_
  refine hy_istore (i := 1) rfl ?_
  exact loop n.toNat 0 rfl rfl
theorem c_M_fitting {n : Int} (hk : ml_ok t) (hp : me_pal t) (hn : 0 ≤ n ∧ n ≤ 10) (hs : ms_shownN t n.toNat = true) : hy_Ct sc hm_M_fitting 8 [.inr (some 59), .inl n] t (fun r t' => r = some (ms_setN t n.toNat 6) ∧ hy_F meX t t') := by
  refine hy_mk_ct ok_M_fitting ck_M_fitting (Nat.le_of_ble_eq_true rfl) ?_
  have loop : ∀ (m : Nat), ∀ (e : Nat) (t1 : hy_T) (v4 v5 : hy_V), m + e = 6 → hy_F meX t t1 → hy_W sc hm_M_fitting 8 4 [.inr (some 59), .inl n, .inl (ms_setN t n.toNat e), .inl (e : Int), v4, v5] [] t1 (fun r t' => r = some (ms_setN t n.toNat 6) ∧ hy_F meX t t') := by
    intro m
    induction m with
    | zero =>
      intro e t1 v4 v5 hm hF
      obtain rfl : e = 6 := by omega
      refine hy_iload (i := 4) rfl rfl ?_
      refine hy_const (i := 5) rfl (by decide) ?_
      refine hy_ic_ge (i := 6) (tt := 69) rfl (fun zc1 => ?_) (fun zc1 => ?_)
      · refine hy_iload (i := 69) rfl rfl ?_
        refine hy_ireturn (i := 70) rfl rfl ?_
        exact ⟨rfl, hF⟩
      · omega
    | succ m ih =>
      intro e t1 v4 v5 hm hF
      have e1 : ms_setN t n.toNat (e + 1) = if ms_fitN t e n.toNat = true then hz_ior (ms_setN t n.toNat e) (hz_ishl 1 e) else ms_setN t n.toNat e := rfl
      have ih' := ih (e + 1)
      rw [e1] at ih'
      have out : ∀ (t2 : hy_T) (x : Bool) (v5 : hy_V), hy_F meX t t2 → x = ms_fitN t e n.toNat → hy_W sc hm_M_fitting 8 57 [.inr (some 59), .inl n, .inl (ms_setN t n.toNat e), .inl (e : Int), .inl (hy_b x), v5] [] t2 (fun r t' => r = some (ms_setN t n.toNat 6) ∧ hy_F meX t t') := by
        intro t2 x v5 hF2 hx
        rw [← hx] at ih'
        refine hy_iload (i := 57) rfl rfl ?_
        refine hy_ib_eq (i := 58) (tt := 65) rfl (fun zc1 => ?_) (fun zc1 => ?_)
        · refine hy_iload (i := 65) rfl rfl ?_
          refine hy_istore (i := 66) rfl ?_
          refine hy_iinc (i := 67) rfl rfl (by omega) ?_
          refine hy_goto (i := 68) (tt := 4) rfl ?_
          first | (rw [if_pos (by assumption)] at ih'; exact ih' _ _ _ (by omega) hF2) | (rw [if_neg (fun h => bb_abs h (by assumption))] at ih'; exact ih' _ _ _ (by omega) hF2)
        · refine hy_iload (i := 59) rfl rfl ?_
          refine hy_const (i := 60) rfl (by decide) ?_
          refine hy_iload (i := 61) rfl rfl ?_
          refine hy_ishl (i := 62) rfl ?_
          refine hy_ior (i := 63) rfl ?_
          refine hy_goto (i := 64) (tt := 66) rfl ?_
          refine hy_istore (i := 66) rfl ?_
          refine hy_iinc (i := 67) rfl rfl (by omega) ?_
          refine hy_goto (i := 68) (tt := 4) rfl ?_
          first | (rw [if_pos (by assumption)] at ih'; exact ih' _ _ _ (by omega) hF2) | (rw [if_neg (fun h => bb_abs h (by assumption))] at ih'; exact ih' _ _ _ (by omega) hF2)
      have inner : ∀ (m2 : Nat), ∀ (k : Nat) (t2 : hy_T) (x : Bool), m2 + k = n.toNat → hy_F meX t t2 → x = ms_fitN t e k → hy_W sc hm_M_fitting 8 11 [.inr (some 59), .inl n, .inl (ms_setN t n.toNat e), .inl (e : Int), .inl (hy_b x), .inl (k : Int)] [] t2 (fun r t' => r = some (ms_setN t n.toNat 6) ∧ hy_F meX t t') := by
        intro m2
        induction m2 with
        | zero =>
          intro k t2 x hm2 hF2 hx
          obtain rfl : k = n.toNat := by omega
          refine hy_iload (i := 11) rfl rfl ?_
          refine hy_iload (i := 12) rfl rfl ?_
          refine hy_ic_ge (i := 13) (tt := 57) rfl (fun zc1 => ?_) (fun zc1 => ?_)
          · exact out t2 x _ hF2 hx
          · omega
        | succ m2 ih2 =>
          intro k t2 x hm2 hF2 hx
          have hb := ms_shown_at hs (k := k) (by omega)
          have hc := sp_told_in hb.1
          have hb2 := mby_in t (3 * k + 1)
          have hcA : 0 ≤ hz_iand (t 65 (3 * k)) 255 ∧ hz_iand (t 65 (3 * k)) 255 < 12 := hc
          have hbA : 0 ≤ hz_iand (t 65 (3 * k + 1)) 255 ∧ hz_iand (t 65 (3 * k + 1)) 255 ≤ 3 := ⟨hb2.1, hb.2.1⟩
          have hk2 := ml_ok_F hF2 (meq_law meX_meq) hk
          have hp2 := me_pal_F hF2 rfl (fun _ => rfl) (fun _ => rfl) hp
          have g : ∀ j, t2 65 j = t 65 j := fun j => hF2 65 j rfl
          have e2 : ms_fitN t e (k + 1) = (ms_fitN t e k && (ms_stop t e (mby t (3 * k)) (mby t (3 * k + 1)) == decide (t 65 (3 * k + 2) = 1))) := rfl
          refine hy_iload (i := 11) rfl rfl ?_
          refine hy_iload (i := 12) rfl rfl ?_
          refine hy_ic_ge (i := 13) (tt := 57) rfl (fun zc1 => ?_) (fun zc1 => ?_)
          · omega
          · refine hy_iload (i := 14) rfl rfl ?_
            refine hy_ib_eq (i := 15) (tt := 57) rfl (fun zc2 => ?_) (fun zc2 => ?_)
            · exact out t2 x _ hF2 (by rw [show x = false by assumption]; exact (ms_fit_no n.toNat k (by omega) (hx.symm.trans (by assumption))).symm)
            · refine hy_aload (i := 16) rfl rfl ?_
              refine hy_iload (i := 17) rfl rfl ?_
              refine hy_aload (i := 18) rfl rfl ?_
              refine hy_getr (i := 19) rfl rfl ?_
              refine hy_const (i := 20) rfl (by decide) ?_
              refine hy_iload (i := 21) rfl rfl ?_
              refine hy_imul (i := 22) rfl (by omega) ?_
              refine hy_bald (i := 23) rfl rfl (by decide) (by omega) (k := 3 * k) (by omega) ?_
              rw [g]
              refine hy_const (i := 24) rfl (by decide) ?_
              refine hy_iand (i := 25) rfl ?_
              refine hy_aload (i := 26) rfl rfl ?_
              refine hy_getr (i := 27) rfl rfl ?_
              refine hy_const (i := 28) rfl (by decide) ?_
              refine hy_iload (i := 29) rfl rfl ?_
              refine hy_imul (i := 30) rfl (by omega) ?_
              refine hy_const (i := 31) rfl (by decide) ?_
              refine hy_iadd (i := 32) rfl (by omega) ?_
              refine hy_bald (i := 33) rfl rfl (by decide) (by omega) (k := 3 * k + 1) (by omega) ?_
              rw [g]
              refine hy_const (i := 34) rfl (by decide) ?_
              refine hy_iand (i := 35) rfl ?_
              refine hy_cV3 (i := 36) rfl mj_M_stops (by decide) rfl (Nat.le_of_ble_eq_true rfl) rfl rfl rfl (c_M_stops hk2 hp2 (by omega) (by omega)) (fun r1_ t1_ h1 => ?_)
              obtain ⟨rfl, hF1⟩ := h1
              dsimp only [hy_st, List.cons_append, List.nil_append]
              rw [ms_stop_F hF2 meX_meq]
              refine hy_aload (i := 37) rfl rfl ?_
              refine hy_getr (i := 38) rfl rfl ?_
              refine hy_const (i := 39) rfl (by decide) ?_
              refine hy_iload (i := 40) rfl rfl ?_
              refine hy_imul (i := 41) rfl (by omega) ?_
              refine hy_const (i := 42) rfl (by decide) ?_
              refine hy_iadd (i := 43) rfl (by omega) ?_
              refine hy_bald (i := 44) rfl rfl (by decide) (by omega) (k := 3 * k + 2) (by omega) ?_
              rw [show t1_ 65 (3 * k + 2) = t 65 (3 * k + 2) from (hF1 65 _ rfl).trans (g _)]
              refine hy_const (i := 45) rfl (by decide) ?_
              refine hy_ic_ne (i := 46) (tt := 49) rfl (fun zc3 => ?_) (fun zc3 => ?_)
              · refine hy_const (i := 49) rfl (by decide) ?_
                refine hy_ic_ne (i := 50) (tt := 53) rfl (fun zc4 => ?_) (fun zc4 => ?_)
                · refine hy_const (i := 53) rfl (by decide) ?_
                  refine hy_istore (i := 54) rfl ?_
                  refine hy_iinc (i := 55) rfl rfl (by omega) ?_
                  refine hy_goto (i := 56) (tt := 11) rfl ?_
                  first | exact ih2 (k + 1) _ true (by omega) (hF2.tr' hF1) (by rw [e2, ← hx, show x = true by assumption, Bool.true_and, ms_eqb, if_pos (by assumption), decide_eq_true (by assumption)]) | exact ih2 (k + 1) _ true (by omega) (hF2.tr' hF1) (by rw [e2, ← hx, show x = true by assumption, Bool.true_and, ms_eqb, if_neg (by assumption), decide_eq_true (by assumption)]) | exact ih2 (k + 1) _ false (by omega) (hF2.tr' hF1) (by rw [e2, ← hx, show x = true by assumption, Bool.true_and, ms_eqb, if_pos (by assumption), decide_eq_false (by assumption)]) | exact ih2 (k + 1) _ false (by omega) (hF2.tr' hF1) (by rw [e2, ← hx, show x = true by assumption, Bool.true_and, ms_eqb, if_neg (by assumption), decide_eq_false (by assumption)])
                · refine hy_const (i := 51) rfl (by decide) ?_
                  refine hy_goto (i := 52) (tt := 54) rfl ?_
                  refine hy_istore (i := 54) rfl ?_
                  refine hy_iinc (i := 55) rfl rfl (by omega) ?_
                  refine hy_goto (i := 56) (tt := 11) rfl ?_
                  first | exact ih2 (k + 1) _ true (by omega) (hF2.tr' hF1) (by rw [e2, ← hx, show x = true by assumption, Bool.true_and, ms_eqb, if_pos (by assumption), decide_eq_true (by assumption)]) | exact ih2 (k + 1) _ true (by omega) (hF2.tr' hF1) (by rw [e2, ← hx, show x = true by assumption, Bool.true_and, ms_eqb, if_neg (by assumption), decide_eq_true (by assumption)]) | exact ih2 (k + 1) _ false (by omega) (hF2.tr' hF1) (by rw [e2, ← hx, show x = true by assumption, Bool.true_and, ms_eqb, if_pos (by assumption), decide_eq_false (by assumption)]) | exact ih2 (k + 1) _ false (by omega) (hF2.tr' hF1) (by rw [e2, ← hx, show x = true by assumption, Bool.true_and, ms_eqb, if_neg (by assumption), decide_eq_false (by assumption)])
              · refine hy_const (i := 47) rfl (by decide) ?_
                refine hy_goto (i := 48) (tt := 50) rfl ?_
                refine hy_ic_ne (i := 50) (tt := 53) rfl (fun zc4 => ?_) (fun zc4 => ?_)
                · refine hy_const (i := 53) rfl (by decide) ?_
                  refine hy_istore (i := 54) rfl ?_
                  refine hy_iinc (i := 55) rfl rfl (by omega) ?_
                  refine hy_goto (i := 56) (tt := 11) rfl ?_
                  first | exact ih2 (k + 1) _ true (by omega) (hF2.tr' hF1) (by rw [e2, ← hx, show x = true by assumption, Bool.true_and, ms_eqb, if_pos (by assumption), decide_eq_true (by assumption)]) | exact ih2 (k + 1) _ true (by omega) (hF2.tr' hF1) (by rw [e2, ← hx, show x = true by assumption, Bool.true_and, ms_eqb, if_neg (by assumption), decide_eq_true (by assumption)]) | exact ih2 (k + 1) _ false (by omega) (hF2.tr' hF1) (by rw [e2, ← hx, show x = true by assumption, Bool.true_and, ms_eqb, if_pos (by assumption), decide_eq_false (by assumption)]) | exact ih2 (k + 1) _ false (by omega) (hF2.tr' hF1) (by rw [e2, ← hx, show x = true by assumption, Bool.true_and, ms_eqb, if_neg (by assumption), decide_eq_false (by assumption)])
                · refine hy_const (i := 51) rfl (by decide) ?_
                  refine hy_goto (i := 52) (tt := 54) rfl ?_
                  refine hy_istore (i := 54) rfl ?_
                  refine hy_iinc (i := 55) rfl rfl (by omega) ?_
                  refine hy_goto (i := 56) (tt := 11) rfl ?_
                  first | exact ih2 (k + 1) _ true (by omega) (hF2.tr' hF1) (by rw [e2, ← hx, show x = true by assumption, Bool.true_and, ms_eqb, if_pos (by assumption), decide_eq_true (by assumption)]) | exact ih2 (k + 1) _ true (by omega) (hF2.tr' hF1) (by rw [e2, ← hx, show x = true by assumption, Bool.true_and, ms_eqb, if_neg (by assumption), decide_eq_true (by assumption)]) | exact ih2 (k + 1) _ false (by omega) (hF2.tr' hF1) (by rw [e2, ← hx, show x = true by assumption, Bool.true_and, ms_eqb, if_pos (by assumption), decide_eq_false (by assumption)]) | exact ih2 (k + 1) _ false (by omega) (hF2.tr' hF1) (by rw [e2, ← hx, show x = true by assumption, Bool.true_and, ms_eqb, if_neg (by assumption), decide_eq_false (by assumption)])
      refine hy_iload (i := 4) rfl rfl ?_
      refine hy_const (i := 5) rfl (by decide) ?_
      refine hy_ic_ge (i := 6) (tt := 69) rfl (fun zc1 => ?_) (fun zc1 => ?_)
      · omega
      · refine hy_const (i := 7) rfl (by decide) ?_
        refine hy_istore (i := 8) rfl ?_
        refine hy_const (i := 9) rfl (by decide) ?_
        refine hy_istore (i := 10) rfl ?_
        exact inner n.toNat 0 t1 true (by omega) hF rfl
  refine hy_const (i := 0) rfl (by decide) ?_
  refine hy_istore (i := 1) rfl ?_
  refine hy_const (i := 2) rfl (by decide) ?_
  refine hy_istore (i := 3) rfl ?_
  exact loop 6 0 t _ _ rfl hy_F.rf
theorem c_M_greaterBy {s c q : Int} (hk : ml_ok t) (hp : me_pal t) (hc : 0 ≤ c ∧ c < 13) (hq : 0 ≤ q ∧ q < 4) : hy_Ct sc hm_M_greaterBy 8 [.inr (some 59), .inl s, .inl c, .inl q] t (fun r t' => r = some (ms_great t s c q) ∧ hy_F meX t t') := by
  refine hy_mk_ct ok_M_greaterBy ck_M_greaterBy (Nat.le_of_ble_eq_true rfl) ?_
  have hb := mf_bitsN_in s 12
  have loop : ∀ (m : Nat), ∀ (e : Nat) (t1 : hy_T), m + e = 6 → hy_F meX t t1 → hy_W sc hm_M_greaterBy 8 4 [.inr (some 59), .inl s, .inl c, .inl q, .inl (ms_cntN t s c q e), .inl (e : Int)] [] t1 (fun r t' => r = some (ms_great t s c q) ∧ hy_F meX t t') := by
    intro m
    induction m with
    | zero =>
      intro e t1 hm hF
      obtain rfl : e = 6 := by omega
      have hin := ms_cntN_in t s c q 6
      refine hy_iload (i := 4) rfl rfl ?_
      refine hy_const (i := 5) rfl (by decide) ?_
      refine hy_ic_ge (i := 6) (tt := 25) rfl (fun zc1 => ?_) (fun zc1 => ?_)
      · refine hy_iload (i := 25) rfl rfl ?_
        refine hy_iload (i := 26) rfl rfl ?_
        refine hy_cS1e (i := 27) rfl (by decide) mj_M_bits (by decide) rfl (Nat.le_of_ble_eq_true rfl) (c_M_bits) ?_
        refine hy_iload (i := 28) rfl rfl ?_
        refine hy_isub (i := 29) rfl (by omega) ?_
        refine hy_cS2e (i := 30) rfl (by decide) mj_M_max (by decide) rfl (Nat.le_of_ble_eq_true rfl) (c_M_max) ?_
        refine hy_ireturn (i := 31) rfl rfl ?_
        exact ⟨rfl, hF⟩
      · omega
    | succ m ih =>
      intro e t1 hm hF
      have hin := ms_cntN_in t s c q e
      have hk1 := ml_ok_F hF (meq_law meX_meq) hk
      have hp1 := me_pal_F hF rfl (fun _ => rfl) (fun _ => rfl) hp
      have e1 : ms_cntN t s c q (e + 1) = ms_cntN t s c q e + (if hz_b s e = true ∧ ms_stop t e c q = true then 1 else 0) := rfl
      have ih' := ih (e + 1)
      rw [e1] at ih'
      refine hy_iload (i := 4) rfl rfl ?_
      refine hy_const (i := 5) rfl (by decide) ?_
      refine hy_ic_ge (i := 6) (tt := 25) rfl (fun zc1 => ?_) (fun zc1 => ?_)
      · omega
      · refine hy_iload (i := 7) rfl rfl ?_
        refine hy_iload (i := 8) rfl rfl ?_
        refine hy_iload (i := 9) rfl rfl ?_
        refine hy_cS2e (i := 10) rfl (by decide) mj_M_has (by decide) rfl (Nat.le_of_ble_eq_true rfl) (c_M_has) ?_
        refine hy_ib_eq (i := 11) (tt := 20) rfl (fun zc2 => ?_) (fun zc2 => ?_)
        · refine hy_const (i := 20) rfl (by decide) ?_
          refine hy_iadd (i := 21) rfl (by omega) ?_
          refine hy_istore (i := 22) rfl ?_
          refine hy_iinc (i := 23) rfl rfl (by omega) ?_
          refine hy_goto (i := 24) (tt := 4) rfl ?_
          first | (rw [if_pos ⟨by assumption, by assumption⟩] at ih'; exact ih' _ (by omega) (hF.tr' (by assumption))) | (rw [if_neg (fun h => bb_abs h.2 (by assumption))] at ih'; exact ih' _ (by omega) (hF.tr' (by assumption))) | (rw [if_neg (fun h => bb_abs h.1 (by assumption))] at ih'; exact ih' _ (by omega) hF)
        · refine hy_aload (i := 12) rfl rfl ?_
          refine hy_iload (i := 13) rfl rfl ?_
          refine hy_iload (i := 14) rfl rfl ?_
          refine hy_iload (i := 15) rfl rfl ?_
          refine hy_cV3 (i := 16) rfl mj_M_stops (by decide) rfl (Nat.le_of_ble_eq_true rfl) rfl rfl rfl (c_M_stops hk1 hp1 hc hq) (fun r2_ t2_ h2 => ?_)
          obtain ⟨rfl, hF2⟩ := h2
          dsimp only [hy_st, List.cons_append, List.nil_append]
          rw [ms_stop_F hF meX_meq]
          refine hy_ib_eq (i := 17) (tt := 20) rfl (fun zc3 => ?_) (fun zc3 => ?_)
          · refine hy_const (i := 20) rfl (by decide) ?_
            refine hy_iadd (i := 21) rfl (by omega) ?_
            refine hy_istore (i := 22) rfl ?_
            refine hy_iinc (i := 23) rfl rfl (by omega) ?_
            refine hy_goto (i := 24) (tt := 4) rfl ?_
            first | (rw [if_pos ⟨by assumption, by assumption⟩] at ih'; exact ih' _ (by omega) (hF.tr' (by assumption))) | (rw [if_neg (fun h => bb_abs h.2 (by assumption))] at ih'; exact ih' _ (by omega) (hF.tr' (by assumption))) | (rw [if_neg (fun h => bb_abs h.1 (by assumption))] at ih'; exact ih' _ (by omega) hF)
          · refine hy_const (i := 18) rfl (by decide) ?_
            refine hy_goto (i := 19) (tt := 21) rfl ?_
            refine hy_iadd (i := 21) rfl (by omega) ?_
            refine hy_istore (i := 22) rfl ?_
            refine hy_iinc (i := 23) rfl rfl (by omega) ?_
            refine hy_goto (i := 24) (tt := 4) rfl ?_
            first | (rw [if_pos ⟨by assumption, by assumption⟩] at ih'; exact ih' _ (by omega) (hF.tr' (by assumption))) | (rw [if_neg (fun h => bb_abs h.2 (by assumption))] at ih'; exact ih' _ (by omega) (hF.tr' (by assumption))) | (rw [if_neg (fun h => bb_abs h.1 (by assumption))] at ih'; exact ih' _ (by omega) hF)
  refine hy_const (i := 0) rfl (by decide) ?_
  refine hy_istore (i := 1) rfl ?_
  refine hy_const (i := 2) rfl (by decide) ?_
  refine hy_istore (i := 3) rfl ?_
  exact loop 6 0 t rfl hy_F.rf
theorem ms_great_F {X : Nat → Nat → Bool} {t t1 : hy_T} (h : hy_F X t t1) (hX : ∀ r j, meqX r j = true → X r j = false) (s c q : Int) : ms_great t1 s c q = ms_great t s c q := by
  have h1 : ∀ n, ms_cntN t1 s c q n = ms_cntN t s c q n := by
    intro n
    induction n with
    | zero => rfl
    | succ n ih => simp only [ms_cntN, ih, ms_stop_F h hX]
  unfold ms_great
  rw [h1]
theorem ms_great_R (t : hy_T) (s c q : Int) : 0 ≤ ms_great t s c q + 12 ∧ ms_great t s c q ≤ 12 := by
  have h1 := mf_bitsN_in s 12
  have h2 := ms_cntN_in t s c q 6
  unfold ms_great
  split <;> omega
theorem ms_bestN_in (t : hy_T) (s : Int) : ∀ n : Nat, -1 ≤ (ms_bestN t s n).1 ∧ (ms_bestN t s n).1 ≤ n
  | 0 => by simp [ms_bestN]
  | n + 1 => by
    have h := ms_bestN_in t s n
    simp only [ms_bestN]
    split
    · dsimp only; omega
    · omega
theorem c_M_spies {n w : Int} (hk : ml_ok t) (hp : me_pal t) (hl : 0 ≤ t 59 9 ∧ t 59 9 ≤ 260) : hy_Ct sc hm_M_spies 9 [.inr (some 59), .inl n, .inl w] t (fun r t' => r = some (if ms_spc t n w then ms_spy (hy_up t 59 9 0) n.toNat w else -1) ∧ hy_F meX (if ms_spc t n w then hy_up t 59 9 0 else t) t') := by
  refine hy_mk_ct ok_M_spies ck_M_spies (Nat.le_of_ble_eq_true rfl) ?_
  by_cases hq : ms_spc t n w
  · rw [if_pos hq]
    simp only [if_pos hq]
    have hku := ml_ok_F (hy_F.rf.up (X := fun r j => r == 59 && j == 9) (t := t) (r := 59) (j := 9) (v := 0) rfl) (fun r j h => by revert h; simp [mlawX]; omega) hk
    have hpu := me_pal_F (hy_F.rf.up (X := fun r j => r == 59 && j == 9) (t := t) (r := 59) (j := 9) (v := 0) rfl) rfl (fun _ => rfl) (fun _ => rfl) hp
    generalize hu : hy_up t 59 9 0 = u at hku hpu ⊢
    have best : ms_shownN u n.toNat = true → w ≠ 0 → ∀ (m : Nat), ∀ (k : Nat) (t1 : hy_T) (v7 : hy_V), m + k = 48 → hy_F meX u t1 → hy_W sc hm_M_spies 9 41 [.inr (some 59), .inl n, .inl w, .inl (ms_setN u n.toNat 6), .inl (ms_bestN u (ms_setN u n.toNat 6) k).1, .inl (ms_bestN u (ms_setN u n.toNat 6) k).2, .inl (k : Int), v7] [] t1 (fun r t' => r = some (ms_spy u n.toNat w) ∧ hy_F meX u t') := by
      intro hs hw m
      induction m with
      | zero =>
        intro k t1 v7 hm hF
        obtain rfl : k = 48 := by omega
        refine hy_iload (i := 41) rfl rfl ?_
        refine hy_const (i := 42) rfl (by decide) ?_
        refine hy_ic_ge (i := 43) (tt := 71) rfl (fun zc1 => ?_) (fun zc1 => ?_)
        · refine hy_iload (i := 71) rfl rfl ?_
          refine hy_const (i := 72) rfl (by decide) ?_
          refine hy_ic_ne (i := 73) (tt := 78) rfl (fun zc2 => ?_) (fun zc2 => ?_)
          · refine hy_iload (i := 78) rfl rfl ?_
            refine hy_const (i := 79) rfl (by decide) ?_
            refine hy_iremw (i := 80) rfl (by decide) ?_
            refine hy_ireturn (i := 81) rfl rfl ?_
            refine ⟨congrArg some ?_, hF⟩
            unfold ms_spy
            rw [if_pos hs, if_neg hw]
            first | (rw [if_pos (by assumption)]; done) | (rw [if_neg (by assumption)]; done)
          · refine hy_iload (i := 74) rfl rfl ?_
            refine hy_const (i := 75) rfl (by decide) ?_
            refine hy_idivw (i := 76) rfl (by decide) ?_
            refine hy_goto (i := 77) (tt := 81) rfl ?_
            refine hy_ireturn (i := 81) rfl rfl ?_
            refine ⟨congrArg some ?_, hF⟩
            unfold ms_spy
            rw [if_pos hs, if_neg hw]
            first | (rw [if_pos (by assumption)]; done) | (rw [if_neg (by assumption)]; done)
        · omega
      | succ m ih =>
        intro k t1 v7 hm hF
        have hk1 := ml_ok_F hF (meq_law meX_meq) hku
        have hp1 := me_pal_F hF rfl (fun _ => rfl) (fun _ => rfl) hpu
        have e0 : t1 59 0 = u 59 0 := hF 59 0 rfl
        have e1 : ms_bestN u (ms_setN u n.toNat 6) (k + 1) = if sp_told (u 59 0) ((k : Int) / 4) = true ∧ ms_great u (ms_setN u n.toNat 6) ((k : Int) / 4) ((k : Int) % 4) < (ms_bestN u (ms_setN u n.toNat 6) k).2 then ((k : Int), ms_great u (ms_setN u n.toNat 6) ((k : Int) / 4) ((k : Int) % 4)) else ms_bestN u (ms_setN u n.toNat 6) k := rfl
        have ih' := ih (k + 1)
        rw [e1] at ih'
        refine hy_iload (i := 41) rfl rfl ?_
        refine hy_const (i := 42) rfl (by decide) ?_
        refine hy_ic_ge (i := 43) (tt := 71) rfl (fun zc1 => ?_) (fun zc1 => ?_)
        · omega
        · refine hy_aload (i := 44) rfl rfl ?_
          refine hy_iload (i := 45) rfl rfl ?_
          refine hy_const (i := 46) rfl (by decide) ?_
          refine hy_idiv (i := 47) rfl (by omega) (by omega) ?_
          refine hy_cV1e (i := 48) rfl mj_M_isColour (by decide) rfl (Nat.le_of_ble_eq_true rfl) rfl rfl rfl (c_M_isColour) ?_
          rw [e0]
          refine hy_ib_ne (i := 49) (tt := 51) rfl (fun zc2 => ?_) (fun zc2 => ?_)
          · refine hy_aload (i := 51) rfl rfl ?_
            refine hy_iload (i := 52) rfl rfl ?_
            refine hy_iload (i := 53) rfl rfl ?_
            refine hy_const (i := 54) rfl (by decide) ?_
            refine hy_idiv (i := 55) rfl (by omega) (by omega) ?_
            refine hy_iload (i := 56) rfl rfl ?_
            refine hy_const (i := 57) rfl (by decide) ?_
            refine hy_irem (i := 58) rfl (by omega) (by omega) ?_
            refine hy_cV3 (i := 59) rfl mj_M_greaterBy (by decide) rfl (Nat.le_of_ble_eq_true rfl) rfl rfl rfl (c_M_greaterBy hk1 hp1 (by omega) (by omega)) (fun r2_ t2_ h2 => ?_)
            obtain ⟨rfl, hF2⟩ := h2
            dsimp only [hy_st, List.cons_append, List.nil_append]
            rw [ms_great_F hF meX_meq]
            refine hy_istore (i := 60) rfl ?_
            refine hy_iload (i := 61) rfl rfl ?_
            refine hy_iload (i := 62) rfl rfl ?_
            refine hy_ic_lt (i := 63) (tt := 65) rfl (fun zc3 => ?_) (fun zc3 => ?_)
            · refine hy_iload (i := 65) rfl rfl ?_
              refine hy_istore (i := 66) rfl ?_
              refine hy_iload (i := 67) rfl rfl ?_
              refine hy_istore (i := 68) rfl ?_
              refine hy_iinc (i := 69) rfl rfl (by omega) ?_
              refine hy_goto (i := 70) (tt := 41) rfl ?_
              first | (rw [if_pos ⟨by assumption, by assumption⟩] at ih'; exact ih' _ _ (by omega) (hF.tr' (by assumption))) | (rw [if_neg (fun h => absurd h.2 (by assumption))] at ih'; exact ih' _ _ (by omega) (hF.tr' (by assumption))) | (rw [if_neg (fun h => bb_abs h.1 (by assumption))] at ih'; exact ih' _ _ (by omega) hF)
            · refine hy_goto (i := 64) (tt := 69) rfl ?_
              refine hy_iinc (i := 69) rfl rfl (by omega) ?_
              refine hy_goto (i := 70) (tt := 41) rfl ?_
              first | (rw [if_pos ⟨by assumption, by assumption⟩] at ih'; exact ih' _ _ (by omega) (hF.tr' (by assumption))) | (rw [if_neg (fun h => absurd h.2 (by assumption))] at ih'; exact ih' _ _ (by omega) (hF.tr' (by assumption))) | (rw [if_neg (fun h => bb_abs h.1 (by assumption))] at ih'; exact ih' _ _ (by omega) hF)
          · refine hy_goto (i := 50) (tt := 69) rfl ?_
            refine hy_iinc (i := 69) rfl rfl (by omega) ?_
            refine hy_goto (i := 70) (tt := 41) rfl ?_
            first | (rw [if_pos ⟨by assumption, by assumption⟩] at ih'; exact ih' _ _ (by omega) (hF.tr' (by assumption))) | (rw [if_neg (fun h => absurd h.2 (by assumption))] at ih'; exact ih' _ _ (by omega) (hF.tr' (by assumption))) | (rw [if_neg (fun h => bb_abs h.1 (by assumption))] at ih'; exact ih' _ _ (by omega) hF)
    refine hy_iload (i := 0) rfl rfl ?_
    refine hy_const (i := 1) rfl (by decide) ?_
    refine hy_const (i := 2) rfl (by decide) ?_
    refine hy_cS3e (i := 3) rfl (by decide) mj_M_in (by decide) rfl (Nat.le_of_ble_eq_true rfl) (c_M_in) ?_
    refine hy_ib_eq (i := 4) (tt := 16) rfl (fun zc1 => ?_) (fun zc1 => ?_)
    · simp only [decide_eq_false_iff_not] at zc1; omega
    · refine hy_iload (i := 5) rfl rfl ?_
      refine hy_const (i := 6) rfl (by decide) ?_
      refine hy_const (i := 7) rfl (by decide) ?_
      refine hy_cS3e (i := 8) rfl (by decide) mj_M_in (by decide) rfl (Nat.le_of_ble_eq_true rfl) (c_M_in) ?_
      refine hy_ib_eq (i := 9) (tt := 16) rfl (fun zc2 => ?_) (fun zc2 => ?_)
      · simp only [decide_eq_false_iff_not] at zc2; omega
      · refine hy_const (i := 10) rfl (by decide) ?_
        refine hy_iload (i := 11) rfl rfl ?_
        refine hy_imul (i := 12) rfl (by omega) ?_
        refine hy_aload (i := 13) rfl rfl ?_
        refine hy_get (i := 14) (fk := 9) rfl rfl rfl ?_
        refine hy_ic_le (i := 15) (tt := 18) rfl (fun zc3 => ?_) (fun zc3 => ?_)
        · refine hy_aload (i := 18) rfl rfl ?_
          refine hy_const (i := 19) rfl (by decide) ?_
          refine hy_put (i := 20) (fk := 9) rfl rfl rfl rfl ?_
          rw [hu]
          refine hy_aload (i := 21) rfl rfl ?_
          refine hy_iload (i := 22) rfl rfl ?_
          refine hy_cV1e (i := 23) rfl mj_M_areShown (by decide) rfl (Nat.le_of_ble_eq_true rfl) rfl rfl rfl (c_M_areShown (by omega)) ?_
          refine hy_ib_ne (i := 24) (tt := 27) rfl (fun zc4 => ?_) (fun zc4 => ?_)
          · refine hy_aload (i := 27) rfl rfl ?_
            refine hy_iload (i := 28) rfl rfl ?_
            refine hy_cV1 (i := 29) rfl mj_M_fitting (by decide) rfl (Nat.le_of_ble_eq_true rfl) rfl rfl rfl (c_M_fitting (by assumption) (by assumption) (by omega) (by assumption)) (fun r4_ t4_ h4 => ?_)
            obtain ⟨rfl, hF4⟩ := h4
            dsimp only [hy_st, List.cons_append, List.nil_append]
            refine hy_istore (i := 30) rfl ?_
            refine hy_iload (i := 31) rfl rfl ?_
            refine hy_if_ne (i := 32) (tt := 35) rfl (fun zc5 => ?_) (fun zc5 => ?_)
            · refine hy_const (i := 35) rfl (by decide) ?_
              refine hy_istore (i := 36) rfl ?_
              refine hy_const (i := 37) rfl (by decide) ?_
              refine hy_istore (i := 38) rfl ?_
              refine hy_const (i := 39) rfl (by decide) ?_
              refine hy_istore (i := 40) rfl ?_
              exact best (by assumption) (by assumption) 48 0 _ _ rfl (by assumption)
            · refine hy_iload (i := 33) rfl rfl ?_
              refine hy_ireturn (i := 34) rfl rfl ?_
              first | exact ⟨congrArg some (by unfold ms_spy; rw [if_neg (fun h => bb_abs h (by assumption))]), hy_F.rf⟩ | exact ⟨congrArg some (by unfold ms_spy; rw [if_pos (by assumption), if_pos (by assumption)]), by assumption⟩
          · refine hy_const (i := 25) rfl (by decide) ?_
            refine hy_ireturn (i := 26) rfl rfl ?_
            first | exact ⟨congrArg some (by unfold ms_spy; rw [if_neg (fun h => bb_abs h (by assumption))]), hy_F.rf⟩ | exact ⟨congrArg some (by unfold ms_spy; rw [if_pos (by assumption), if_pos (by assumption)]), by assumption⟩
        · omega
  · rw [if_neg hq]
    simp only [if_neg hq]
    refine hy_iload (i := 0) rfl rfl ?_
    refine hy_const (i := 1) rfl (by decide) ?_
    refine hy_const (i := 2) rfl (by decide) ?_
    refine hy_cS3e (i := 3) rfl (by decide) mj_M_in (by decide) rfl (Nat.le_of_ble_eq_true rfl) (c_M_in) ?_
    refine hy_ib_eq (i := 4) (tt := 16) rfl (fun zc1 => ?_) (fun zc1 => ?_)
    · refine hy_const (i := 16) rfl (by decide) ?_
      refine hy_ireturn (i := 17) rfl rfl ?_
      exact ⟨rfl, hy_F.rf⟩
    · refine hy_iload (i := 5) rfl rfl ?_
      refine hy_const (i := 6) rfl (by decide) ?_
      refine hy_const (i := 7) rfl (by decide) ?_
      refine hy_cS3e (i := 8) rfl (by decide) mj_M_in (by decide) rfl (Nat.le_of_ble_eq_true rfl) (c_M_in) ?_
      refine hy_ib_eq (i := 9) (tt := 16) rfl (fun zc2 => ?_) (fun zc2 => ?_)
      · refine hy_const (i := 16) rfl (by decide) ?_
        refine hy_ireturn (i := 17) rfl rfl ?_
        exact ⟨rfl, hy_F.rf⟩
      · refine hy_const (i := 10) rfl (by decide) ?_
        refine hy_iload (i := 11) rfl rfl ?_
        refine hy_imul (i := 12) rfl (by simp only [decide_eq_true_eq] at *; omega) ?_
        refine hy_aload (i := 13) rfl rfl ?_
        refine hy_get (i := 14) (fk := 9) rfl rfl rfl ?_
        refine hy_ic_le (i := 15) (tt := 18) rfl (fun zc3 => ?_) (fun zc3 => ?_)
        · exfalso; simp only [decide_eq_true_eq] at *; exact hq ⟨by assumption, by assumption, by omega⟩
        · refine hy_const (i := 16) rfl (by decide) ?_
          refine hy_ireturn (i := 17) rfl rfl ?_
          exact ⟨rfl, hy_F.rf⟩
end MY
/-! the model: texts, lines -/
def mp_here (t : hy_T) : Int := if t 59 10 < t 59 11 then hz_iand (t 65 (t 59 10).toNat) 255 else -1
def mp_dig (t : hy_T) : Bool := decide (48 ≤ mp_here t ∧ mp_here t ≤ 57)
def mp_wr (t : hy_T) (n w : Int) : hy_T := hy_up t 59 12 (-1000 * n - w)
def mp_st (t : hy_T) : hy_T := hy_up t 59 10 (t 59 10 + 1)
def mp_take (t : hy_T) (c : Int) : Bool × hy_T := if mp_here t = c then (true, mp_st t) else (false, mp_wr t 1 (t 59 10))
/-- a text is read -/
def mp_ok (t : hy_T) : Prop := (0 ≤ t 59 10 ∧ t 59 10 ≤ 260) ∧ t 59 11 ≤ 260
abbrev mpX : Nat → Nat → Bool := fun r j => r == 59 && (j == 10 || j == 12)
theorem mp_here_in (t : hy_T) : -1 ≤ mp_here t ∧ mp_here t ≤ 255 := by
  have h := mby_in t (t 59 10).toNat
  unfold mp_here
  split
  · exact ⟨Int.le_trans (by decide) h.1, h.2⟩
  · decide
theorem mp_here_p {t : hy_T} (h : 0 ≤ mp_here t) : t 59 10 < t 59 11 := by
  unfold mp_here at h
  split at h
  · assumption
  · omega
theorem mp_st_ok {t : hy_T} (h : mp_ok t) (hn : 0 ≤ mp_here t) : mp_ok (mp_st t) := by
  have h1 := mp_here_p hn
  obtain ⟨h2, h3⟩ := h
  exact ⟨⟨by show 0 ≤ t 59 10 + 1; omega, by show t 59 10 + 1 ≤ 260; omega⟩, h3⟩
theorem mp_ok_F {X : Nat → Nat → Bool} {t t1 : hy_T} (h : hy_F X t t1) (h0 : X 59 10 = false) (h1 : X 59 11 = false) (hk : mp_ok t) : mp_ok t1 := by
  unfold mp_ok
  rw [h 59 10 h0, h 59 11 h1]
  exact hk
theorem mp_ok_wr {t : hy_T} (h : mp_ok t) (n w : Int) : mp_ok (mp_wr t n w) := h
theorem mp_dig_h {t : hy_T} (h : mp_dig t = true) : 48 ≤ mp_here t ∧ mp_here t ≤ 57 := of_decide_eq_true h
theorem mp_dig_n {t : hy_T} (h : mp_dig t = false) : ¬ (48 ≤ mp_here t ∧ mp_here t ≤ 57) := of_decide_eq_false h
section MX
variable {sc : List Int32} {t : hy_T}
theorem c_M_here (h : mp_ok t) : hy_Ct sc hm_M_here 0 [.inr (some 59)] t (hy_e (some (mp_here t)) t) := by
  refine hy_mk_ct ok_M_here ck_M_here (Nat.le_of_ble_eq_true rfl) ?_
  obtain ⟨h1, h2⟩ := h
  refine hy_aload (i := 0) rfl rfl ?_
  refine hy_get (i := 1) (fk := 10) rfl rfl rfl ?_
  refine hy_aload (i := 2) rfl rfl ?_
  refine hy_get (i := 3) (fk := 11) rfl rfl rfl ?_
  refine hy_ic_ge (i := 4) (tt := 13) rfl (fun zc1 => ?_) (fun zc1 => ?_)
  · refine hy_const (i := 13) rfl (by decide) ?_
    refine hy_ireturn (i := 14) rfl rfl ?_
    exact ⟨congrArg some (by unfold mp_here; first | rw [if_pos (by omega)] | rw [if_neg (by omega)]), rfl⟩
  · refine hy_aload (i := 5) rfl rfl ?_
    refine hy_getr (i := 6) rfl rfl ?_
    refine hy_aload (i := 7) rfl rfl ?_
    refine hy_get (i := 8) (fk := 10) rfl rfl rfl ?_
    refine hy_bald (i := 9) rfl rfl (by decide) (by omega) rfl ?_
    refine hy_const (i := 10) rfl (by decide) ?_
    refine hy_iand (i := 11) rfl ?_
    refine hy_goto (i := 12) (tt := 14) rfl ?_
    refine hy_ireturn (i := 14) rfl rfl ?_
    exact ⟨congrArg some (by unfold mp_here; first | rw [if_pos (by omega)] | rw [if_neg (by omega)]), rfl⟩
theorem c_M_isDigit (h : mp_ok t) : hy_Ct sc hm_M_isDigit 1 [.inr (some 59)] t (hy_e (some (hy_b (mp_dig t))) t) := by
  refine hy_mk_ct ok_M_isDigit ck_M_isDigit (Nat.le_of_ble_eq_true rfl) ?_
  refine hy_aload (i := 0) rfl rfl ?_
  refine hy_cV0e (i := 1) rfl mj_M_here (by decide) rfl (Nat.le_of_ble_eq_true rfl) rfl rfl rfl (c_M_here (by assumption)) ?_
  refine hy_const (i := 2) rfl (by decide) ?_
  refine hy_ic_lt (i := 3) (tt := 10) rfl (fun zc1 => ?_) (fun zc1 => ?_)
  · refine hy_const (i := 10) rfl (by decide) ?_
    refine hy_zreturn (i := 11) rfl rfl (by first | decide | exact hy_b01 _) ?_
    exact ⟨congrArg some (by unfold mp_dig; first | (rw [decide_eq_true (by omega)]; rfl) | (rw [decide_eq_false (by omega)]; rfl)), rfl⟩
  · refine hy_aload (i := 4) rfl rfl ?_
    refine hy_cV0e (i := 5) rfl mj_M_here (by decide) rfl (Nat.le_of_ble_eq_true rfl) rfl rfl rfl (c_M_here (by assumption)) ?_
    refine hy_const (i := 6) rfl (by decide) ?_
    refine hy_ic_gt (i := 7) (tt := 10) rfl (fun zc2 => ?_) (fun zc2 => ?_)
    · refine hy_const (i := 10) rfl (by decide) ?_
      refine hy_zreturn (i := 11) rfl rfl (by first | decide | exact hy_b01 _) ?_
      exact ⟨congrArg some (by unfold mp_dig; first | (rw [decide_eq_true (by omega)]; rfl) | (rw [decide_eq_false (by omega)]; rfl)), rfl⟩
    · refine hy_const (i := 8) rfl (by decide) ?_
      refine hy_goto (i := 9) (tt := 11) rfl ?_
      refine hy_zreturn (i := 11) rfl rfl (by first | decide | exact hy_b01 _) ?_
      exact ⟨congrArg some (by unfold mp_dig; first | (rw [decide_eq_true (by omega)]; rfl) | (rw [decide_eq_false (by omega)]; rfl)), rfl⟩
theorem c_M_wrongAt {n w : Int} (hn : 0 ≤ n ∧ n < 10) (hw : 0 ≤ w ∧ w ≤ 260) : hy_Ct sc hm_M_wrongAt 0 [.inr (some 59), .inl n, .inl w] t (hy_e (some (hy_b false)) (mp_wr t n w)) := by
  refine hy_mk_ct ok_M_wrongAt ck_M_wrongAt (Nat.le_of_ble_eq_true rfl) ?_
  refine hy_aload (i := 0) rfl rfl ?_
  refine hy_const (i := 1) rfl (by decide) ?_
  refine hy_iload (i := 2) rfl rfl ?_
  refine hy_imul (i := 3) rfl (by omega) ?_
  refine hy_iload (i := 4) rfl rfl ?_
  refine hy_isub (i := 5) rfl (by omega) ?_
  refine hy_put (i := 6) (fk := 12) rfl rfl rfl rfl ?_
  refine hy_const (i := 7) rfl (by decide) ?_
  refine hy_zreturn (i := 8) rfl rfl (by first | decide | exact hy_b01 _) ?_
  exact ⟨rfl, rfl⟩
theorem c_M_takes {c : Int} (h : mp_ok t) : hy_Ct sc hm_M_takes 1 [.inr (some 59), .inl c] t (hy_e (some (hy_b (mp_take t c).1)) (mp_take t c).2) := by
  refine hy_mk_ct ok_M_takes ck_M_takes (Nat.le_of_ble_eq_true rfl) ?_
  have hp := h.1
  refine hy_aload (i := 0) rfl rfl ?_
  refine hy_cV0e (i := 1) rfl mj_M_here (by decide) rfl (Nat.le_of_ble_eq_true rfl) rfl rfl rfl (c_M_here (by assumption)) ?_
  refine hy_iload (i := 2) rfl rfl ?_
  refine hy_ic_eq (i := 3) (tt := 10) rfl (fun zc1 => ?_) (fun zc1 => ?_)
  · refine hy_aload (i := 10) rfl rfl ?_
    refine hy_aload (i := 11) rfl rfl ?_
    refine hy_get (i := 12) (fk := 10) rfl rfl rfl ?_
    refine hy_const (i := 13) rfl (by decide) ?_
    refine hy_iadd (i := 14) rfl (by omega) ?_
    refine hy_put (i := 15) (fk := 10) rfl rfl rfl rfl ?_
    refine hy_const (i := 16) rfl (by decide) ?_
    refine hy_zreturn (i := 17) rfl rfl (by first | decide | exact hy_b01 _) ?_
    unfold mp_take
    first | (rw [if_pos (by assumption)]; exact ⟨rfl, rfl⟩) | (rw [if_neg (by assumption)]; exact ⟨rfl, rfl⟩)
  · refine hy_aload (i := 4) rfl rfl ?_
    refine hy_const (i := 5) rfl (by decide) ?_
    refine hy_aload (i := 6) rfl rfl ?_
    refine hy_get (i := 7) (fk := 10) rfl rfl rfl ?_
    refine hy_cV2e (i := 8) rfl mj_M_wrongAt (by decide) rfl (Nat.le_of_ble_eq_true rfl) rfl rfl rfl (c_M_wrongAt (by decide) hp) ?_
    refine hy_zreturn (i := 9) rfl rfl (by first | decide | exact hy_b01 _) ?_
    unfold mp_take
    first | (rw [if_pos (by assumption)]; exact ⟨rfl, rfl⟩) | (rw [if_neg (by assumption)]; exact ⟨rfl, rfl⟩)
end MX
theorem mp_take_s {t : hy_T} (h : mp_ok t) {c : Int} (hc : 0 ≤ c) : mp_ok (mp_take t c).2 ∧ hy_F mpX t (mp_take t c).2 ∧ t 59 10 ≤ (mp_take t c).2 59 10 ∧ ((mp_take t c).1 = true → t 59 10 < (mp_take t c).2 59 10) := by
  unfold mp_take
  split
  · exact ⟨mp_st_ok h (by omega), hy_F.rf.up rfl, by show t 59 10 ≤ t 59 10 + 1; omega, fun _ => by show t 59 10 < t 59 10 + 1; omega⟩
  · exact ⟨mp_ok_wr h _ _, hy_F.rf.up rfl, Int.le_refl _, fun h => by cases h⟩
def ml_colN : Nat → hy_T → hy_T
  | 0, t => t
  | n + 1, t => if mp_dig t = true then ml_colN n (mp_st (hy_up t 59 13 (10 * t 59 13 + mp_here t - 48))) else t
def ml_col (t : hy_T) : Bool × hy_T :=
  if ml_colN 2 (hy_up t 59 13 0) 59 13 < 12 then mp_take (hy_up (ml_colN 2 (hy_up t 59 13 0)) 80 (t 59 33).toNat (ml_colN 2 (hy_up t 59 13 0) 59 13)) 64
  else (false, mp_wr (ml_colN 2 (hy_up t 59 13 0)) 3 (t 59 10))
def ml_quaE (t : hy_T) (s : Int) : Bool × hy_T := if 0 < s then (true, hy_up t 81 (t 59 33).toNat s) else (false, mp_wr (hy_up t 81 (t 59 33).toNat s) 1 (t 59 10))
def ml_quaN : Nat → hy_T → Int → Int → Bool × hy_T
  | 0, t, _, _ => (false, t)
  | n + 1, t, s, l => if 48 ≤ mp_here t ∧ mp_here t ≤ 51 then (if mp_here t - 48 ≤ l then (false, mp_wr t 6 (t 59 10)) else ml_quaN n (mp_st t) (hz_ior s (hz_ishl 1 (mp_here t - 48))) (mp_here t - 48)) else ml_quaE t s
def ml_qua (t : hy_T) : Bool × hy_T := ml_quaN 5 t 0 (-1)
def ml_emp (t : hy_T) (o : Int) : Bool × hy_T :=
  if mp_dig t = true then
    (if mp_here t - 48 < 6 then (if mp_here t - 48 = o then (false, mp_wr (hy_up t 59 13 (mp_here t - 48)) 6 (t 59 10)) else (true, mp_st (hy_up t 59 13 (mp_here t - 48))))
     else (false, mp_wr (hy_up t 59 13 (mp_here t - 48)) 3 (t 59 10)))
  else (false, mp_wr t 1 (t 59 10))
def ml_sgn (t : hy_T) : hy_T := mp_st (hy_up t 84 (t 59 33).toNat (if mp_here t = 43 then 1 else 0))
def ml_end (t : hy_T) : hy_T := hy_up (hy_up t 83 (t 59 33).toNat (t 59 13)) 59 33 (t 59 33 + 1)
def ml_from (t : hy_T) : hy_T := hy_up t 82 (t 59 33).toNat (t 59 13)
def ml_two (p : Bool × hy_T) : Bool × hy_T :=
  if p.1 = true then (if (ml_emp (ml_from p.2) (p.2 59 13)).1 = true then (true, ml_end (ml_emp (ml_from p.2) (p.2 59 13)).2) else (false, (ml_emp (ml_from p.2) (p.2 59 13)).2)) else (false, p.2)
def ml_tail (t : hy_T) : Bool × hy_T :=
  if mp_here t = 62 ∨ mp_here t = 43 then ml_two (ml_emp (ml_sgn t) (-1)) else (false, mp_wr t 1 (t 59 10))
def ml_line (t : hy_T) : Bool × hy_T :=
  if mp_dig t = true then
    (if t 59 33 = 8 then (false, mp_wr t 4 (t 59 10))
     else if (ml_col t).1 = true then (if (ml_qua (ml_col t).2).1 = true then ml_tail (ml_qua (ml_col t).2).2 else (false, (ml_qua (ml_col t).2).2)) else (false, (ml_col t).2))
  else (false, mp_wr t 1 (t 59 10))
def ml_linesN : Nat → Bool × hy_T → Bool × hy_T
  | 0, p => p
  | n + 1, p => if p.1 = true ∧ p.2 59 10 < p.2 59 11 then ml_linesN n (if (mp_take p.2 44).1 = true then ml_line (mp_take p.2 44).2 else (false, (mp_take p.2 44).2)) else p
def ml_lines (t : hy_T) (n : Int) : Bool × hy_T := ((ml_linesN 261 (ml_line (hy_up (hy_up (hy_up t 59 10 0) 59 11 n) 59 33 0))).1, hy_up (ml_linesN 261 (ml_line (hy_up (hy_up (hy_up t 59 10 0) 59 11 n) 59 33 0))).2 59 9 0)
/-- what a step of the reading leaves -/
abbrev mlnX : Nat → Nat → Bool := fun r j => r == 80 || r == 81 || r == 82 || r == 83 || r == 84 || (r == 59 && (j == 10 || j == 12 || j == 13))
/-- a step of the reading of a line: it goes on, and writes in this line alone -/
def ml_s (t t1 : hy_T) : Prop := mp_ok t1 ∧ (hy_F mlnX t t1) ∧ t 59 10 ≤ t1 59 10 ∧ ∀ r j, 80 ≤ r → r ≤ 84 → j ≠ (t 59 33).toNat → t1 r j = t r j
theorem ml_s.rf {t : hy_T} (h : mp_ok t) : ml_s t t := ⟨h, hy_F.rf, Int.le_refl _, fun _ _ _ _ _ => rfl⟩
theorem ml_s.tr {a b c : hy_T} (h : ml_s a b) (k : ml_s b c) : ml_s a c := by
  obtain ⟨_, h2, h3, h4⟩ := h
  obtain ⟨k1, k2, k3, k4⟩ := k
  have e : b 59 33 = a 59 33 := h2 59 33 rfl
  exact ⟨k1, h2.tr' k2, by omega, fun r j h8 h9 hj => by rw [k4 r j h8 h9 (by rw [e]; exact hj), h4 r j h8 h9 hj]⟩
theorem ml_s_st {t : hy_T} (h : mp_ok t) (hn : 0 ≤ mp_here t) : ml_s t (mp_st t) := ⟨mp_st_ok h hn, hy_F.rf.up rfl, by show t 59 10 ≤ t 59 10 + 1; omega, fun r j h8 _ _ => hy_up_ne (by omega)⟩
theorem ml_s_wr {t : hy_T} (h : mp_ok t) (n w : Int) : ml_s t (mp_wr t n w) := ⟨h, hy_F.rf.up rfl, Int.le_refl _, fun r j h8 _ _ => hy_up_ne (by omega)⟩
theorem ml_s_num {t : hy_T} (h : mp_ok t) (v : Int) : ml_s t (hy_up t 59 13 v) := ⟨h, hy_F.rf.up rfl, Int.le_refl _, fun r j h8 _ _ => hy_up_ne (by omega)⟩
theorem ml_s_row {t : hy_T} (h : mp_ok t) {r : Nat} (h8 : 80 ≤ r) (h9 : r ≤ 84) (v : Int) : ml_s t (hy_up t r (t 59 33).toNat v) :=
  ⟨mp_ok_F (X := fun r' _ => r' == r) (hy_F.rf.up (by simp)) (by simp; omega) (by simp; omega) h, hy_F.rf.up (by simp [mlnX]; omega), by rw [hy_up_ne (by omega)]; exact Int.le_refl _, fun r' j _ _ hj => by simp only [hy_up]; rw [if_neg (fun q => hj q.2)]⟩
theorem ml_colN_s : ∀ (n : Nat) {t : hy_T} {m : Int}, mp_ok t → (0 ≤ t 59 13 ∧ t 59 13 ≤ m) → ml_s t (ml_colN n t) ∧ 0 ≤ ml_colN n t 59 13
  | 0, t, m, h, hc => ⟨ml_s.rf h, hc.1⟩
  | n + 1, t, m, h, hc => by
    simp only [ml_colN]
    split
    · next hd =>
      have hd2 := mp_dig_h hd
      have a1 := ml_s_num h (10 * t 59 13 + mp_here t - 48)
      have e : mp_here (hy_up t 59 13 (10 * t 59 13 + mp_here t - 48)) = mp_here t := rfl
      have a2 := a1.tr (ml_s_st a1.1 (by rw [e]; omega))
      obtain ⟨b1, b2⟩ := ml_colN_s n (t := mp_st (hy_up t 59 13 (10 * t 59 13 + mp_here t - 48))) (m := 10 * t 59 13 + mp_here t - 48) a2.1 (by show 0 ≤ 10 * t 59 13 + mp_here t - 48 ∧ 10 * t 59 13 + mp_here t - 48 ≤ _; omega)
      exact ⟨a2.tr b1, b2⟩
    · exact ⟨ml_s.rf h, hc.1⟩
theorem ml_col_s {t : hy_T} (h : mp_ok t) : ml_s t (ml_col t).2 ∧ ((ml_col t).1 = true → 0 ≤ (ml_col t).2 80 (t 59 33).toNat ∧ (ml_col t).2 80 (t 59 33).toNat < 12) := by
  have a1 := ml_s_num h 0
  obtain ⟨b1, b2⟩ := ml_colN_s 2 (t := hy_up t 59 13 0) (m := 0) a1.1 (by show (0 : Int) ≤ 0 ∧ (0 : Int) ≤ 0; decide)
  have b3 := a1.tr b1
  have e : ml_colN 2 (hy_up t 59 13 0) 59 33 = t 59 33 := b3.2.1 59 33 rfl
  unfold ml_col
  split
  · next hc =>
    have c1 := ml_s_row b3.1 (r := 80) (by decide) (by decide) (ml_colN 2 (hy_up t 59 13 0) 59 13)
    rw [e] at c1
    obtain ⟨d1, d2, d3, -⟩ := mp_take_s (c := 64) c1.1 (by decide)
    have d4 : ml_s _ _ := ⟨d1, d2.w (fun r j q => by revert q; simp [mlnX, mpX]; omega), d3, fun r j h8 _ _ => d2 r j (by simp [mpX]; omega)⟩
    refine ⟨(b3.tr c1).tr d4, fun _ => ?_⟩
    rw [d2 80 _ rfl]
    simp only [hy_up, true_and, if_true]
    exact ⟨b2, hc⟩
  · exact ⟨b3.tr (ml_s_wr b3.1 _ _), fun q => by cases q⟩
theorem ml_bits {s q : Int} (hs : 0 ≤ s ∧ s ≤ 15) (hq : 0 ≤ q ∧ q < 4) : 0 < hz_ior s (hz_ishl 1 q) ∧ hz_ior s (hz_ishl 1 q) ≤ 15 := by
  have key : ∀ a : Nat, a < 16 → ∀ b : Nat, b < 4 → 0 < hz_ior (a : Int) (hz_ishl 1 (b : Int)) ∧ hz_ior (a : Int) (hz_ishl 1 (b : Int)) ≤ 15 := by decide +kernel
  have := key s.toNat (by omega) q.toNat (by omega)
  rw [show ((s.toNat : Nat) : Int) = s by omega, show ((q.toNat : Nat) : Int) = q by omega] at this
  exact this
theorem ml_quaE_s {t : hy_T} (h : mp_ok t) {s : Int} (hs : 0 ≤ s ∧ s ≤ 15) : ml_s t (ml_quaE t s).2 ∧ ((ml_quaE t s).1 = true → 1 ≤ (ml_quaE t s).2 81 (t 59 33).toNat ∧ (ml_quaE t s).2 81 (t 59 33).toNat ≤ 15) := by
  have c1 := ml_s_row h (r := 81) (by decide) (by decide) s
  unfold ml_quaE
  split
  · refine ⟨c1, fun _ => ?_⟩
    simp only [hy_up, true_and, if_true]
    omega
  · exact ⟨c1.tr (ml_s_wr c1.1 _ _), fun q => by cases q⟩
theorem ml_quaN_s : ∀ (n : Nat) {t : hy_T} {s l : Int}, mp_ok t → (0 ≤ s ∧ s ≤ 15) → ml_s t (ml_quaN n t s l).2 ∧ ((ml_quaN n t s l).1 = true → 1 ≤ (ml_quaN n t s l).2 81 (t 59 33).toNat ∧ (ml_quaN n t s l).2 81 (t 59 33).toNat ≤ 15)
  | 0, t, s, l, h, hs => ⟨ml_s.rf h, fun q => by cases q⟩
  | n + 1, t, s, l, h, hs => by
    simp only [ml_quaN]
    split
    · next hc =>
      split
      · exact ⟨ml_s_wr h _ _, fun q => by cases q⟩
      · have a1 := ml_s_st h (by omega)
        have hb := ml_bits hs (q := mp_here t - 48) (by omega)
        obtain ⟨b1, b2⟩ := ml_quaN_s n (t := mp_st t) (s := hz_ior s (hz_ishl 1 (mp_here t - 48))) (l := mp_here t - 48) a1.1 (by omega)
        exact ⟨a1.tr b1, b2⟩
    · exact ml_quaE_s h hs
theorem ml_emp_s {t : hy_T} (h : mp_ok t) (o : Int) : ml_s t (ml_emp t o).2 ∧ ((ml_emp t o).1 = true → 0 ≤ (ml_emp t o).2 59 13 ∧ (ml_emp t o).2 59 13 < 6) := by
  unfold ml_emp
  split
  · next hd =>
    have hd2 := mp_dig_h hd
    have a1 := ml_s_num h (mp_here t - 48)
    have e : mp_here (hy_up t 59 13 (mp_here t - 48)) = mp_here t := rfl
    split
    · split
      · exact ⟨a1.tr (ml_s_wr a1.1 _ _), fun q => by cases q⟩
      · refine ⟨a1.tr (ml_s_st a1.1 (by rw [e]; omega)), fun _ => ?_⟩
        show 0 ≤ mp_here t - 48 ∧ mp_here t - 48 < 6
        omega
    · exact ⟨a1.tr (ml_s_wr a1.1 _ _), fun q => by cases q⟩
  · exact ⟨ml_s_wr h _ _, fun q => by cases q⟩
/-- a line that is well read -/
def ml_row (t : hy_T) (k : Nat) : Prop := (0 ≤ t 80 k ∧ t 80 k < 12) ∧ (1 ≤ t 81 k ∧ t 81 k ≤ 15) ∧ (0 ≤ t 82 k ∧ t 82 k < 6) ∧ (0 ≤ t 83 k ∧ t 83 k < 6) ∧ (t 84 k = 0 ∨ t 84 k = 1)
def ml_good (t : hy_T) : Prop := (0 ≤ t 59 33 ∧ t 59 33 ≤ 8) ∧ ∀ k : Nat, (k : Int) < t 59 33 → ml_row t k
abbrev mlmX : Nat → Nat → Bool := fun r j => mlnX r j || (r == 59 && j == 33)
theorem ml_line_s {t : hy_T} (h : mp_ok t) (hg : ml_good t) : mp_ok (ml_line t).2 ∧ hy_F mlmX t (ml_line t).2 ∧ t 59 10 ≤ (ml_line t).2 59 10 ∧ ml_good (ml_line t).2 := by
  have fin : ∀ t1, ml_s t t1 → mp_ok t1 ∧ hy_F mlmX t t1 ∧ t 59 10 ≤ t1 59 10 ∧ ml_good t1 := fun t1 hs => by
    obtain ⟨s1, s2, s3, s4⟩ := hs
    refine ⟨s1, s2.w (fun r j q => by revert q; simp [mlmX, mlnX]; omega), s3, ?_⟩
    obtain ⟨g1, g2⟩ := hg
    have e : t1 59 33 = t 59 33 := s2 59 33 rfl
    refine ⟨by rw [e]; exact g1, fun k hk => ?_⟩
    rw [e] at hk
    have hne : k ≠ (t 59 33).toNat := by omega
    unfold ml_row
    rw [s4 80 k (by decide) (by decide) hne, s4 81 k (by decide) (by decide) hne, s4 82 k (by decide) (by decide) hne, s4 83 k (by decide) (by decide) hne, s4 84 k (by decide) (by decide) hne]
    exact g2 k hk
  unfold ml_line
  split
  · split
    · exact fin _ (ml_s_wr h _ _)
    · next h8 =>
      have hm := hg.1
      obtain ⟨a1, a2⟩ := ml_col_s h
      split
      · next hc =>
        have a3 := a2 hc
        have ea : (ml_col t).2 59 33 = t 59 33 := a1.2.1 59 33 rfl
        obtain ⟨b1, b2⟩ := ml_quaN_s 5 (t := (ml_col t).2) (s := 0) (l := -1) a1.1 (by decide)
        split
        · next hq =>
          have b3 := b2 hq
          rw [ea] at b3
          have ab := a1.tr b1
          change ml_s t (ml_qua (ml_col t).2).2 at ab
          change 1 ≤ (ml_qua (ml_col t).2).2 81 _ ∧ (ml_qua (ml_col t).2).2 81 _ ≤ 15 at b3
          have b80 : (ml_qua (ml_col t).2).2 80 (t 59 33).toNat = (ml_col t).2 80 (t 59 33).toNat ∨ True := .inr trivial
          have q80 : ∀ (n : Nat) (u : hy_T) (s l : Int) (j : Nat), (ml_quaN n u s l).2 80 j = u 80 j := by
            intro n
            induction n with
            | zero => intro u s l j; rfl
            | succ n ih =>
              intro u s l j
              simp only [ml_quaN, ml_quaE]
              split
              · split
                · rfl
                · rw [ih]; rfl
              · split
                · rfl
                · rfl
          have c80 : 0 ≤ (ml_qua (ml_col t).2).2 80 (t 59 33).toNat ∧ (ml_qua (ml_col t).2).2 80 (t 59 33).toNat < 12 := by
            unfold ml_qua
            rw [q80]
            exact a3
          revert ab b3 c80
          generalize (ml_qua (ml_col t).2).2 = u
          intro ab b3 c80
          have eu : u 59 33 = t 59 33 := ab.2.1 59 33 rfl
          unfold ml_tail
          split
          · next hs =>
            have d1 := ml_s_row ab.1 (r := 84) (by decide) (by decide) (if mp_here u = 43 then 1 else 0)
            have eh : mp_here (hy_up u 84 (u 59 33).toNat (if mp_here u = 43 then 1 else 0)) = mp_here u := rfl
            have d2 := d1.tr (ml_s_st d1.1 (by rw [eh]; omega))
            change ml_s u (ml_sgn u) at d2
            have d84 : ml_sgn u 84 (t 59 33).toNat = if mp_here u = 43 then 1 else 0 := by
              show hy_up u 84 (u 59 33).toNat _ 84 (t 59 33).toNat = _
              rw [eu]
              simp [hy_up]
            obtain ⟨e1, e2⟩ := ml_emp_s d2.1 (-1)
            have f1 := (ab.tr d2).tr e1
            unfold ml_two
            split
            · next he =>
              have e3 := e2 he
              have p8 : ∀ (u : hy_T) (o : Int) (r j : Nat), r ≠ 59 → (ml_emp u o).2 r j = u r j := by
                intro u o r j hr
                unfold ml_emp
                split
                · split
                  · split
                    · show hy_up (hy_up u 59 13 _) 59 12 _ r j = _; rw [hy_up_ne hr, hy_up_ne hr]
                    · show hy_up (hy_up u 59 13 _) 59 10 _ r j = _; rw [hy_up_ne hr, hy_up_ne hr]
                  · show hy_up (hy_up u 59 13 _) 59 12 _ r j = _; rw [hy_up_ne hr, hy_up_ne hr]
                · show hy_up u 59 12 _ r j = _; rw [hy_up_ne hr]
              have v80 : (ml_emp (ml_sgn u) (-1)).2 80 (t 59 33).toNat = u 80 (t 59 33).toNat := by
                rw [p8 _ _ _ _ (by decide)]; unfold ml_sgn mp_st; rw [hy_up_ne (by decide), hy_up_ne (by decide)]
              have v81 : (ml_emp (ml_sgn u) (-1)).2 81 (t 59 33).toNat = u 81 (t 59 33).toNat := by
                rw [p8 _ _ _ _ (by decide)]; unfold ml_sgn mp_st; rw [hy_up_ne (by decide), hy_up_ne (by decide)]
              have v84 : (ml_emp (ml_sgn u) (-1)).2 84 (t 59 33).toNat = 0 ∨ (ml_emp (ml_sgn u) (-1)).2 84 (t 59 33).toNat = 1 := by
                rw [p8 _ _ _ _ (by decide), d84]; split
                · exact .inr rfl
                · exact .inl rfl
              revert f1 e3 v80 v81 v84
              generalize (ml_emp (ml_sgn u) (-1)).2 = y
              intro f1 e3 v80 v81 v84
              have ey : y 59 33 = t 59 33 := f1.2.1 59 33 rfl
              have g1 := ml_s_row f1.1 (r := 82) (by decide) (by decide) (y 59 13)
              change ml_s y (ml_from y) at g1
              obtain ⟨i1, i2⟩ := ml_emp_s g1.1 (y 59 13)
              have k1 := (f1.tr g1).tr i1
              split
              · next hz =>
                have i3 := i2 hz
                have w : ∀ r, r ≠ 59 → r ≠ 82 → (ml_emp (ml_from y) (y 59 13)).2 r (t 59 33).toNat = y r (t 59 33).toNat := fun r h1 h2 => by
                  rw [p8 _ _ _ _ h1]; exact hy_up_ne h2
                have w82 : (ml_emp (ml_from y) (y 59 13)).2 82 (t 59 33).toNat = y 59 13 := by
                  rw [p8 _ _ _ _ (by decide)]
                  show hy_up y 82 (y 59 33).toNat (y 59 13) 82 (t 59 33).toNat = _
                  rw [ey]; simp [hy_up]
                have x80 := w 80 (by decide) (by decide)
                have x81 := w 81 (by decide) (by decide)
                have x84 := w 84 (by decide) (by decide)
                revert k1 i3 w82 x80 x81 x84
                generalize (ml_emp (ml_from y) (y 59 13)).2 = z
                intro k1 i3 w82 x80 x81 x84
                have ez : z 59 33 = t 59 33 := k1.2.1 59 33 rfl
                have l1 := k1.tr (ml_s_row k1.1 (r := 83) (by decide) (by decide) (z 59 13))
                have em : ml_end z 59 33 = t 59 33 + 1 := by show z 59 33 + 1 = _; rw [ez]
                have er : ∀ r j, r ≠ 59 → ml_end z r j = hy_up z 83 (z 59 33).toNat (z 59 13) r j := fun r j hr => hy_up_ne hr
                refine ⟨l1.1, ?_, l1.2.2.1, ⟨by dsimp only; omega, fun k hk => ?_⟩⟩
                · exact (l1.2.1.w (fun r j q => by revert q; simp [mlmX, mlnX]; omega)).up (r := 59) (j := 33) rfl
                · unfold ml_row
                  dsimp only
                  rw [er 80 k (by decide), er 81 k (by decide), er 82 k (by decide), er 83 k (by decide), er 84 k (by decide)]
                  dsimp only at hk
                  by_cases hkk : k = (t 59 33).toNat
                  · subst hkk
                    rw [hy_up_ne (r' := 80) (by decide), hy_up_ne (r' := 81) (by decide), hy_up_ne (r' := 82) (by decide), hy_up_ne (r' := 84) (by decide), w82, x80, x81, x84, v80, v81, show hy_up z 83 (z 59 33).toNat (z 59 13) 83 (t 59 33).toNat = z 59 13 by rw [ez]; simp [hy_up]]
                    exact ⟨c80, b3, e3, i3, v84⟩
                  · have hk2 : (k : Int) < t 59 33 := by omega
                    obtain ⟨-, -, -, s4⟩ := l1
                    rw [s4 80 k (by decide) (by decide) hkk, s4 81 k (by decide) (by decide) hkk, s4 82 k (by decide) (by decide) hkk, s4 83 k (by decide) (by decide) hkk, s4 84 k (by decide) (by decide) hkk]
                    exact hg.2 k hk2
              · exact fin _ k1
            · exact fin _ f1
          · exact fin _ (ab.tr (ml_s_wr ab.1 _ _))
        · exact fin _ (a1.tr b1)
      · exact fin _ a1
  · exact fin _ (ml_s_wr h _ _)

theorem ml_linesN_s : ∀ (n : Nat) {p : Bool × hy_T}, mp_ok p.2 → ml_good p.2 → mp_ok (ml_linesN n p).2 ∧ hy_F mlmX p.2 (ml_linesN n p).2 ∧ ml_good (ml_linesN n p).2
  | 0, p, h, hg => ⟨h, hy_F.rf, hg⟩
  | n + 1, p, h, hg => by
    simp only [ml_linesN]
    split
    · obtain ⟨a1, a2, a3, a4⟩ := mp_take_s (c := 44) h (by decide)
      have a5 : hy_F mlmX p.2 (mp_take p.2 44).2 := a2.w (fun r j q => by revert q; simp [mlmX, mlnX, mpX]; omega)
      have a6 : ml_good (mp_take p.2 44).2 := by
        unfold ml_good ml_row
        simp only [a2 59 33 rfl, a2 80 _ rfl, a2 81 _ rfl, a2 82 _ rfl, a2 83 _ rfl, a2 84 _ rfl]
        exact hg
      split
      · obtain ⟨b1, b2, b3, b4⟩ := ml_line_s a1 a6
        obtain ⟨c1, c2, c3⟩ := ml_linesN_s n (p := ml_line (mp_take p.2 44).2) b1 b4
        exact ⟨c1, (a5.tr' b2).tr' c2, c3⟩
      · obtain ⟨c1, c2, c3⟩ := ml_linesN_s n (p := (false, (mp_take p.2 44).2)) a1 a6
        exact ⟨c1, a5.tr' c2, c3⟩
    · exact ⟨h, hy_F.rf, hg⟩
abbrev mlsX : Nat → Nat → Bool := fun r j => r == 80 || r == 81 || r == 82 || r == 83 || r == 84 || (r == 59 && (j == 9 || j == 10 || j == 11 || j == 12 || j == 13 || j == 33))
def ml_t0 (t : hy_T) (n : Int) : hy_T := hy_up (hy_up (hy_up t 59 10 0) 59 11 n) 59 33 0
theorem ml_t0_s (t : hy_T) {n : Int} (hn : n ≤ 260) : mp_ok (ml_t0 t n) ∧ ml_good (ml_t0 t n) ∧ hy_F mlsX t (ml_t0 t n) := by
  refine ⟨⟨⟨?_, ?_⟩, ?_⟩, ⟨⟨?_, ?_⟩, fun k hk => ?_⟩, ((hy_F.rf.up rfl).up rfl).up rfl⟩
  · show (0 : Int) ≤ 0; decide
  · show (0 : Int) ≤ 260; decide
  · exact hn
  · show (0 : Int) ≤ 0; decide
  · show (0 : Int) ≤ 8; decide
  · have hk' : (k : Int) < 0 := hk
    omega
theorem ml_lines_s (t : hy_T) {n : Int} (hn : n ≤ 260) : ml_good (ml_lines t n).2 ∧ hy_F mlsX t (ml_lines t n).2 := by
  obtain ⟨a1, a2, a3⟩ := ml_t0_s t hn
  obtain ⟨b1, b2, b3, b4⟩ := ml_line_s a1 a2
  obtain ⟨c1, c2, c3⟩ := ml_linesN_s 261 (p := ml_line (ml_t0 t n)) b1 b4
  refine ⟨c3, ?_⟩
  refine ((a3.tr' (b2.w (fun r j q => ?_))).tr' (c2.w (fun r j q => ?_))).up rfl
  · revert q; simp [mlsX, mlmX, mlnX]; omega
  · revert q; simp [mlsX, mlmX, mlnX]; omega
section MZ
variable {sc : List Int32} {t : hy_T}
theorem c_M_readsColour (h : mp_ok t) (hm : 0 ≤ t 59 33 ∧ t 59 33 < 8) : hy_Ct sc hm_M_readsColour 2 [.inr (some 59)] t (hy_e (some (hy_b (ml_col t).1)) (ml_col t).2) := by
  refine hy_mk_ct ok_M_readsColour ck_M_readsColour (Nat.le_of_ble_eq_true rfl) ?_
  have hp := h.1
  generalize hG : ml_col t = G
  have out : ∀ (t1 : hy_T), ml_s t t1 → t1 = ml_colN 2 (hy_up t 59 13 0) → hy_W sc hm_M_readsColour 2 33 [.inr (some 59), .inl (t 59 10)] [] t1 (hy_e (some (hy_b G.1)) G.2) := by
    intro t1 hs ht
    have e : t1 59 33 = t 59 33 := hs.2.1 59 33 rfl
    have hok := hs.1
    by_cases hc : t1 59 13 < 12
    · have eG : mp_take (hy_up t1 80 (t1 59 33).toNat (t1 59 13)) 64 = G := by rw [← hG]; unfold ml_col; rw [← ht, if_pos hc, e]
      have hr := (ml_s_row hok (r := 80) (by decide) (by decide) (t1 59 13)).1
      refine hy_aload (i := 33) rfl rfl ?_
      refine hy_get (i := 34) (fk := 13) rfl rfl rfl ?_
      refine hy_const (i := 35) rfl (by decide) ?_
      refine hy_ic_lt (i := 36) (tt := 42) rfl (fun zc1 => ?_) (fun zc1 => ?_)
      · refine hy_aload (i := 42) rfl rfl ?_
        refine hy_getr (i := 43) rfl rfl ?_
        refine hy_aload (i := 44) rfl rfl ?_
        refine hy_get (i := 45) (fk := 33) rfl rfl rfl ?_
        refine hy_aload (i := 46) rfl rfl ?_
        refine hy_get (i := 47) (fk := 13) rfl rfl rfl ?_
        refine hy_iast (i := 48) rfl rfl (by omega) rfl ?_
        refine hy_aload (i := 49) rfl rfl ?_
        refine hy_const (i := 50) rfl (by decide) ?_
        refine hy_cV1e (i := 51) rfl mj_M_takes (by decide) rfl (Nat.le_of_ble_eq_true rfl) rfl rfl rfl (c_M_takes (by assumption)) ?_
        refine hy_zreturn (i := 52) rfl rfl (by first | decide | exact hy_b01 _) ?_
        rw [← eG]; exact ⟨rfl, rfl⟩
      · omega
    · have eG : (false, mp_wr t1 3 (t 59 10)) = G := by rw [← hG]; unfold ml_col; rw [← ht, if_neg hc]
      refine hy_aload (i := 33) rfl rfl ?_
      refine hy_get (i := 34) (fk := 13) rfl rfl rfl ?_
      refine hy_const (i := 35) rfl (by decide) ?_
      refine hy_ic_lt (i := 36) (tt := 42) rfl (fun zc1 => ?_) (fun zc1 => ?_)
      · omega
      · refine hy_aload (i := 37) rfl rfl ?_
        refine hy_const (i := 38) rfl (by decide) ?_
        refine hy_iload (i := 39) rfl rfl ?_
        refine hy_cV2e (i := 40) rfl mj_M_wrongAt (by decide) rfl (Nat.le_of_ble_eq_true rfl) rfl rfl rfl (c_M_wrongAt (by decide) hp) ?_
        refine hy_zreturn (i := 41) rfl rfl (by first | decide | exact hy_b01 _) ?_
        rw [← eG]; exact ⟨rfl, rfl⟩
  have loop : ∀ (m : Nat), ∀ (t1 : hy_T), m ≤ 2 → t1 59 10 + m = t 59 10 + 2 → (0 ≤ t1 59 13 ∧ t1 59 13 ≤ 100000) → (m = 2 → t1 59 13 = 0) → (m = 1 → t1 59 13 ≤ 9) → ml_s t t1 → ml_colN m t1 = ml_colN 2 (hy_up t 59 13 0) → hy_W sc hm_M_readsColour 2 6 [.inr (some 59), .inl (t 59 10)] [] t1 (hy_e (some (hy_b G.1)) G.2) := by
    intro m
    induction m with
    | zero =>
      intro t1 hm2 hm h13 h2 h1 hs hv
      have hok := hs.1
      refine hy_aload (i := 6) rfl rfl ?_
      refine hy_cV0e (i := 7) rfl mj_M_isDigit (by decide) rfl (Nat.le_of_ble_eq_true rfl) rfl rfl rfl (c_M_isDigit (by assumption)) ?_
      refine hy_ib_eq (i := 8) (tt := 33) rfl (fun zc1 => ?_) (fun zc1 => ?_)
      · exact out t1 hs hv
      · refine hy_aload (i := 9) rfl rfl ?_
        refine hy_get (i := 10) (fk := 10) rfl rfl rfl ?_
        refine hy_iload (i := 11) rfl rfl ?_
        refine hy_const (i := 12) rfl (by decide) ?_
        refine hy_iadd (i := 13) rfl (by omega) ?_
        refine hy_ic_ge (i := 14) (tt := 33) rfl (fun zc2 => ?_) (fun zc2 => ?_)
        · exact out t1 hs hv
        · omega
    | succ m ih =>
      intro t1 hm2 hm h13 h2 h1 hs hv
      have hok := hs.1
      simp only [ml_colN] at hv
      by_cases hd : mp_dig t1 = true
      · rw [if_pos hd] at hv
        have hd2 := mp_dig_h hd
        have a1 := ml_s_num hok (10 * t1 59 13 + mp_here t1 - 48)
        have eh : mp_here (hy_up t1 59 13 (10 * t1 59 13 + mp_here t1 - 48)) = mp_here t1 := rfl
        have a2 := hs.tr (a1.tr (ml_s_st a1.1 (by rw [eh]; omega)))
        have hp1 := hok.1
        refine hy_aload (i := 6) rfl rfl ?_
        refine hy_cV0e (i := 7) rfl mj_M_isDigit (by decide) rfl (Nat.le_of_ble_eq_true rfl) rfl rfl rfl (c_M_isDigit (by assumption)) ?_
        refine hy_ib_eq (i := 8) (tt := 33) rfl (fun zc1 => ?_) (fun zc1 => ?_)
        · exact bb_abs hd zc1
        · refine hy_aload (i := 9) rfl rfl ?_
          refine hy_get (i := 10) (fk := 10) rfl rfl rfl ?_
          refine hy_iload (i := 11) rfl rfl ?_
          refine hy_const (i := 12) rfl (by decide) ?_
          refine hy_iadd (i := 13) rfl (by omega) ?_
          refine hy_ic_ge (i := 14) (tt := 33) rfl (fun zc2 => ?_) (fun zc2 => ?_)
          · omega
          · refine hy_aload (i := 15) rfl rfl ?_
            refine hy_const (i := 16) rfl (by decide) ?_
            refine hy_aload (i := 17) rfl rfl ?_
            refine hy_get (i := 18) (fk := 13) rfl rfl rfl ?_
            refine hy_imul (i := 19) rfl (by omega) ?_
            refine hy_aload (i := 20) rfl rfl ?_
            refine hy_cV0e (i := 21) rfl mj_M_here (by decide) rfl (Nat.le_of_ble_eq_true rfl) rfl rfl rfl (c_M_here (by assumption)) ?_
            refine hy_iadd (i := 22) rfl (by omega) ?_
            refine hy_const (i := 23) rfl (by decide) ?_
            refine hy_isub (i := 24) rfl (by omega) ?_
            refine hy_put (i := 25) (fk := 13) rfl rfl rfl rfl ?_
            refine hy_aload (i := 26) rfl rfl ?_
            refine hy_aload (i := 27) rfl rfl ?_
            refine hy_get (i := 28) (fk := 10) rfl rfl rfl ?_
            refine hy_const (i := 29) rfl (by decide) ?_
            rw [show hy_up t1 59 13 (10 * t1 59 13 + mp_here t1 - 48) 59 10 = t1 59 10 from rfl]
            refine hy_iadd (i := 30) rfl (by omega) ?_
            refine hy_put (i := 31) (fk := 10) rfl rfl rfl rfl ?_
            refine hy_goto (i := 32) (tt := 6) rfl ?_
            exact ih _ (by omega) (by show t1 59 10 + 1 + (m : Int) = _; omega) (by show 0 ≤ 10 * t1 59 13 + mp_here t1 - 48 ∧ 10 * t1 59 13 + mp_here t1 - 48 ≤ 100000; omega) (fun h => by omega) (fun h => by show 10 * t1 59 13 + mp_here t1 - 48 ≤ 9; have := h2 (by omega); omega) a2 hv
      · rw [if_neg hd] at hv
        refine hy_aload (i := 6) rfl rfl ?_
        refine hy_cV0e (i := 7) rfl mj_M_isDigit (by decide) rfl (Nat.le_of_ble_eq_true rfl) rfl rfl rfl (c_M_isDigit (by assumption)) ?_
        refine hy_ib_eq (i := 8) (tt := 33) rfl (fun zc1 => ?_) (fun zc1 => ?_)
        · exact out t1 hs hv
        · exact absurd zc1 hd
  have s0 := ml_s_num h 0
  refine hy_aload (i := 0) rfl rfl ?_
  refine hy_get (i := 1) (fk := 10) rfl rfl rfl ?_
  refine hy_istore (i := 2) rfl ?_
  refine hy_aload (i := 3) rfl rfl ?_
  refine hy_const (i := 4) rfl (by decide) ?_
  refine hy_put (i := 5) (fk := 13) rfl rfl rfl rfl ?_
  exact loop 2 _ (by decide) rfl (by show (0 : Int) ≤ 0 ∧ (0 : Int) ≤ 100000; decide) (fun _ => rfl) (fun h => by omega) s0 rfl
theorem c_M_readsQuarters (h : mp_ok t) (hm : 0 ≤ t 59 33 ∧ t 59 33 < 8) : hy_Ct sc hm_M_readsQuarters 1 [.inr (some 59)] t (hy_e (some (hy_b (ml_qua t).1)) (ml_qua t).2) := by
  refine hy_mk_ct ok_M_readsQuarters ck_M_readsQuarters (Nat.le_of_ble_eq_true rfl) ?_
  generalize hG : ml_qua t = G
  have loop : ∀ (m : Nat), ∀ (t1 : hy_T) (s l : Int) (v3 : hy_V), (-1 ≤ l ∧ l ≤ 3) → 4 ≤ l + m → ml_s t t1 → ml_quaN m t1 s l = G → hy_W sc hm_M_readsQuarters 1 4 [.inr (some 59), .inl s, .inl l, v3] [] t1 (hy_e (some (hy_b G.1)) G.2) := by
    intro m
    induction m with
    | zero =>
      intro t1 s l v3 hl hm h1 hv
      omega
    | succ m ih =>
      intro t1 s l v3 hl hm hs hv
      have hok := hs.1
      have hp1 := hok.1
      have e : t1 59 33 = t 59 33 := hs.2.1 59 33 rfl
      simp only [ml_quaN] at hv
      by_cases hc : 48 ≤ mp_here t1 ∧ mp_here t1 ≤ 51
      · rw [if_pos hc] at hv
        by_cases hq : mp_here t1 - 48 ≤ l
        · rw [if_pos hq] at hv
          refine hy_aload (i := 4) rfl rfl ?_
          refine hy_cV0e (i := 5) rfl mj_M_here (by decide) rfl (Nat.le_of_ble_eq_true rfl) rfl rfl rfl (c_M_here (by assumption)) ?_
          refine hy_const (i := 6) rfl (by decide) ?_
          refine hy_const (i := 7) rfl (by decide) ?_
          refine hy_cS3e (i := 8) rfl (by decide) mj_M_in (by decide) rfl (Nat.le_of_ble_eq_true rfl) (c_M_in) ?_
          refine hy_ib_eq (i := 9) (tt := 39) rfl (fun zc1 => ?_) (fun zc1 => ?_)
          · simp only [decide_eq_false_iff_not] at zc1; omega
          · refine hy_aload (i := 10) rfl rfl ?_
            refine hy_cV0e (i := 11) rfl mj_M_here (by decide) rfl (Nat.le_of_ble_eq_true rfl) rfl rfl rfl (c_M_here (by assumption)) ?_
            refine hy_const (i := 12) rfl (by decide) ?_
            refine hy_isub (i := 13) rfl (by omega) ?_
            refine hy_istore (i := 14) rfl ?_
            refine hy_iload (i := 15) rfl rfl ?_
            refine hy_iload (i := 16) rfl rfl ?_
            refine hy_ic_gt (i := 17) (tt := 24) rfl (fun zc2 => ?_) (fun zc2 => ?_)
            · omega
            · refine hy_aload (i := 18) rfl rfl ?_
              refine hy_const (i := 19) rfl (by decide) ?_
              refine hy_aload (i := 20) rfl rfl ?_
              refine hy_get (i := 21) (fk := 10) rfl rfl rfl ?_
              refine hy_cV2e (i := 22) rfl mj_M_wrongAt (by decide) rfl (Nat.le_of_ble_eq_true rfl) rfl rfl rfl (c_M_wrongAt (by decide) hp1) ?_
              refine hy_zreturn (i := 23) rfl rfl (by first | decide | exact hy_b01 _) ?_
              rw [← hv]; exact ⟨rfl, rfl⟩
        · rw [if_neg hq] at hv
          have a2 := hs.tr (ml_s_st hok (by omega))
          refine hy_aload (i := 4) rfl rfl ?_
          refine hy_cV0e (i := 5) rfl mj_M_here (by decide) rfl (Nat.le_of_ble_eq_true rfl) rfl rfl rfl (c_M_here (by assumption)) ?_
          refine hy_const (i := 6) rfl (by decide) ?_
          refine hy_const (i := 7) rfl (by decide) ?_
          refine hy_cS3e (i := 8) rfl (by decide) mj_M_in (by decide) rfl (Nat.le_of_ble_eq_true rfl) (c_M_in) ?_
          refine hy_ib_eq (i := 9) (tt := 39) rfl (fun zc1 => ?_) (fun zc1 => ?_)
          · simp only [decide_eq_false_iff_not] at zc1; omega
          · refine hy_aload (i := 10) rfl rfl ?_
            refine hy_cV0e (i := 11) rfl mj_M_here (by decide) rfl (Nat.le_of_ble_eq_true rfl) rfl rfl rfl (c_M_here (by assumption)) ?_
            refine hy_const (i := 12) rfl (by decide) ?_
            refine hy_isub (i := 13) rfl (by omega) ?_
            refine hy_istore (i := 14) rfl ?_
            refine hy_iload (i := 15) rfl rfl ?_
            refine hy_iload (i := 16) rfl rfl ?_
            refine hy_ic_gt (i := 17) (tt := 24) rfl (fun zc2 => ?_) (fun zc2 => ?_)
            · refine hy_iload (i := 24) rfl rfl ?_
              refine hy_istore (i := 25) rfl ?_
              refine hy_iload (i := 26) rfl rfl ?_
              refine hy_const (i := 27) rfl (by decide) ?_
              refine hy_iload (i := 28) rfl rfl ?_
              refine hy_ishl (i := 29) rfl ?_
              refine hy_ior (i := 30) rfl ?_
              refine hy_istore (i := 31) rfl ?_
              refine hy_aload (i := 32) rfl rfl ?_
              refine hy_aload (i := 33) rfl rfl ?_
              refine hy_get (i := 34) (fk := 10) rfl rfl rfl ?_
              refine hy_const (i := 35) rfl (by decide) ?_
              refine hy_iadd (i := 36) rfl (by omega) ?_
              refine hy_put (i := 37) (fk := 10) rfl rfl rfl rfl ?_
              refine hy_goto (i := 38) (tt := 4) rfl ?_
              exact ih _ _ _ _ (by omega) (by omega) a2 hv
            · omega
      · rw [if_neg hc] at hv
        unfold ml_quaE at hv
        by_cases h0 : 0 < s
        · rw [if_pos h0] at hv
          refine hy_aload (i := 4) rfl rfl ?_
          refine hy_cV0e (i := 5) rfl mj_M_here (by decide) rfl (Nat.le_of_ble_eq_true rfl) rfl rfl rfl (c_M_here (by assumption)) ?_
          refine hy_const (i := 6) rfl (by decide) ?_
          refine hy_const (i := 7) rfl (by decide) ?_
          refine hy_cS3e (i := 8) rfl (by decide) mj_M_in (by decide) rfl (Nat.le_of_ble_eq_true rfl) (c_M_in) ?_
          refine hy_ib_eq (i := 9) (tt := 39) rfl (fun zc1 => ?_) (fun zc1 => ?_)
          · refine hy_aload (i := 39) rfl rfl ?_
            refine hy_getr (i := 40) rfl rfl ?_
            refine hy_aload (i := 41) rfl rfl ?_
            refine hy_get (i := 42) (fk := 33) rfl rfl rfl ?_
            refine hy_iload (i := 43) rfl rfl ?_
            refine hy_iast (i := 44) rfl rfl (by omega) rfl ?_
            refine hy_iload (i := 45) rfl rfl ?_
            refine hy_if_gt (i := 46) (tt := 53) rfl (fun zc2 => ?_) (fun zc2 => ?_)
            · refine hy_const (i := 53) rfl (by decide) ?_
              refine hy_goto (i := 54) (tt := 56) rfl ?_
              refine hy_zreturn (i := 56) rfl rfl (by first | decide | exact hy_b01 _) ?_
              rw [← hv]; exact ⟨rfl, rfl⟩
            · omega
          · simp only [decide_eq_true_eq] at zc1; omega
        · rw [if_neg h0] at hv
          refine hy_aload (i := 4) rfl rfl ?_
          refine hy_cV0e (i := 5) rfl mj_M_here (by decide) rfl (Nat.le_of_ble_eq_true rfl) rfl rfl rfl (c_M_here (by assumption)) ?_
          refine hy_const (i := 6) rfl (by decide) ?_
          refine hy_const (i := 7) rfl (by decide) ?_
          refine hy_cS3e (i := 8) rfl (by decide) mj_M_in (by decide) rfl (Nat.le_of_ble_eq_true rfl) (c_M_in) ?_
          refine hy_ib_eq (i := 9) (tt := 39) rfl (fun zc1 => ?_) (fun zc1 => ?_)
          · refine hy_aload (i := 39) rfl rfl ?_
            refine hy_getr (i := 40) rfl rfl ?_
            refine hy_aload (i := 41) rfl rfl ?_
            refine hy_get (i := 42) (fk := 33) rfl rfl rfl ?_
            refine hy_iload (i := 43) rfl rfl ?_
            refine hy_iast (i := 44) rfl rfl (by omega) rfl ?_
            refine hy_iload (i := 45) rfl rfl ?_
            refine hy_if_gt (i := 46) (tt := 53) rfl (fun zc2 => ?_) (fun zc2 => ?_)
            · omega
            · refine hy_aload (i := 47) rfl rfl ?_
              refine hy_const (i := 48) rfl (by decide) ?_
              refine hy_aload (i := 49) rfl rfl ?_
              refine hy_get (i := 50) (fk := 10) rfl rfl rfl ?_
              refine hy_cV2e (i := 51) rfl mj_M_wrongAt (by decide) rfl (Nat.le_of_ble_eq_true rfl) rfl rfl rfl (c_M_wrongAt (by decide) (by first | exact hp1 | exact hok.1)) ?_
              refine hy_ib_eq (i := 52) (tt := 55) rfl (fun zc3 => ?_) (fun zc3 => ?_)
              · refine hy_const (i := 55) rfl (by decide) ?_
                refine hy_zreturn (i := 56) rfl rfl (by first | decide | exact hy_b01 _) ?_
                rw [← hv]; exact ⟨rfl, rfl⟩
              · cases zc3
          · simp only [decide_eq_true_eq] at zc1; omega
  refine hy_const (i := 0) rfl (by decide) ?_
  refine hy_istore (i := 1) rfl ?_
  refine hy_const (i := 2) rfl (by decide) ?_
  refine hy_istore (i := 3) rfl ?_
  exact loop 5 t 0 (-1) _ (by decide) (by decide) (ml_s.rf h) hG
theorem c_M_readsEmpire {o : Int} (h : mp_ok t) : hy_Ct sc hm_M_readsEmpire 2 [.inr (some 59), .inl o] t (hy_e (some (hy_b (ml_emp t o).1)) (ml_emp t o).2) := by
  refine hy_mk_ct ok_M_readsEmpire ck_M_readsEmpire (Nat.le_of_ble_eq_true rfl) ?_
  have hp := h.1
  by_cases hd : mp_dig t = true
  · have hd2 := mp_dig_h hd
    by_cases h6 : mp_here t - 48 < 6
    · by_cases ho : mp_here t - 48 = o
      · rw [show ml_emp t o = (false, mp_wr (hy_up t 59 13 (mp_here t - 48)) 6 (t 59 10)) by unfold ml_emp; rw [if_pos hd, if_pos h6, if_pos ho]]
        refine hy_aload (i := 0) rfl rfl ?_
        refine hy_cV0e (i := 1) rfl mj_M_isDigit (by decide) rfl (Nat.le_of_ble_eq_true rfl) rfl rfl rfl (c_M_isDigit (by assumption)) ?_
        refine hy_ib_ne (i := 2) (tt := 9) rfl (fun zc1 => ?_) (fun zc1 => ?_)
        · refine hy_aload (i := 9) rfl rfl ?_
          refine hy_aload (i := 10) rfl rfl ?_
          refine hy_cV0e (i := 11) rfl mj_M_here (by decide) rfl (Nat.le_of_ble_eq_true rfl) rfl rfl rfl (c_M_here (by assumption)) ?_
          refine hy_const (i := 12) rfl (by decide) ?_
          refine hy_isub (i := 13) rfl (by omega) ?_
          refine hy_put (i := 14) (fk := 13) rfl rfl rfl rfl ?_
          refine hy_aload (i := 15) rfl rfl ?_
          refine hy_get (i := 16) (fk := 13) rfl rfl rfl ?_
          refine hy_const (i := 17) rfl (by decide) ?_
          rw [show hy_up t 59 13 (mp_here t - 48) 59 13 = mp_here t - 48 from rfl]
          refine hy_ic_lt (i := 18) (tt := 25) rfl (fun zc2 => ?_) (fun zc2 => ?_)
          · refine hy_aload (i := 25) rfl rfl ?_
            refine hy_get (i := 26) (fk := 13) rfl rfl rfl ?_
            refine hy_iload (i := 27) rfl rfl ?_
            rw [show hy_up t 59 13 (mp_here t - 48) 59 13 = mp_here t - 48 from rfl]
            refine hy_ic_ne (i := 28) (tt := 35) rfl (fun zc3 => ?_) (fun zc3 => ?_)
            · omega
            · refine hy_aload (i := 29) rfl rfl ?_
              refine hy_const (i := 30) rfl (by decide) ?_
              refine hy_aload (i := 31) rfl rfl ?_
              refine hy_get (i := 32) (fk := 10) rfl rfl rfl ?_
              refine hy_cV2e (i := 33) rfl mj_M_wrongAt (by decide) rfl (Nat.le_of_ble_eq_true rfl) rfl rfl rfl (c_M_wrongAt (by decide) (show 0 ≤ t 59 10 ∧ t 59 10 ≤ 260 from hp)) ?_
              refine hy_zreturn (i := 34) rfl rfl (by first | decide | exact hy_b01 _) ?_
              exact ⟨rfl, rfl⟩
          · omega
        · exact bb_abs hd zc1
      · rw [show ml_emp t o = (true, mp_st (hy_up t 59 13 (mp_here t - 48))) by unfold ml_emp; rw [if_pos hd, if_pos h6, if_neg ho]]
        refine hy_aload (i := 0) rfl rfl ?_
        refine hy_cV0e (i := 1) rfl mj_M_isDigit (by decide) rfl (Nat.le_of_ble_eq_true rfl) rfl rfl rfl (c_M_isDigit (by assumption)) ?_
        refine hy_ib_ne (i := 2) (tt := 9) rfl (fun zc1 => ?_) (fun zc1 => ?_)
        · refine hy_aload (i := 9) rfl rfl ?_
          refine hy_aload (i := 10) rfl rfl ?_
          refine hy_cV0e (i := 11) rfl mj_M_here (by decide) rfl (Nat.le_of_ble_eq_true rfl) rfl rfl rfl (c_M_here (by assumption)) ?_
          refine hy_const (i := 12) rfl (by decide) ?_
          refine hy_isub (i := 13) rfl (by omega) ?_
          refine hy_put (i := 14) (fk := 13) rfl rfl rfl rfl ?_
          refine hy_aload (i := 15) rfl rfl ?_
          refine hy_get (i := 16) (fk := 13) rfl rfl rfl ?_
          refine hy_const (i := 17) rfl (by decide) ?_
          rw [show hy_up t 59 13 (mp_here t - 48) 59 13 = mp_here t - 48 from rfl]
          refine hy_ic_lt (i := 18) (tt := 25) rfl (fun zc2 => ?_) (fun zc2 => ?_)
          · refine hy_aload (i := 25) rfl rfl ?_
            refine hy_get (i := 26) (fk := 13) rfl rfl rfl ?_
            refine hy_iload (i := 27) rfl rfl ?_
            rw [show hy_up t 59 13 (mp_here t - 48) 59 13 = mp_here t - 48 from rfl]
            refine hy_ic_ne (i := 28) (tt := 35) rfl (fun zc3 => ?_) (fun zc3 => ?_)
            · refine hy_aload (i := 35) rfl rfl ?_
              refine hy_aload (i := 36) rfl rfl ?_
              refine hy_get (i := 37) (fk := 10) rfl rfl rfl ?_
              refine hy_const (i := 38) rfl (by decide) ?_
              rw [show hy_up t 59 13 (mp_here t - 48) 59 10 = t 59 10 from rfl]
              refine hy_iadd (i := 39) rfl (by omega) ?_
              refine hy_put (i := 40) (fk := 10) rfl rfl rfl rfl ?_
              refine hy_const (i := 41) rfl (by decide) ?_
              refine hy_zreturn (i := 42) rfl rfl (by first | decide | exact hy_b01 _) ?_
              exact ⟨rfl, rfl⟩
            · omega
          · omega
        · exact bb_abs hd zc1
    · rw [show ml_emp t o = (false, mp_wr (hy_up t 59 13 (mp_here t - 48)) 3 (t 59 10)) by unfold ml_emp; rw [if_pos hd, if_neg h6]]
      refine hy_aload (i := 0) rfl rfl ?_
      refine hy_cV0e (i := 1) rfl mj_M_isDigit (by decide) rfl (Nat.le_of_ble_eq_true rfl) rfl rfl rfl (c_M_isDigit (by assumption)) ?_
      refine hy_ib_ne (i := 2) (tt := 9) rfl (fun zc1 => ?_) (fun zc1 => ?_)
      · refine hy_aload (i := 9) rfl rfl ?_
        refine hy_aload (i := 10) rfl rfl ?_
        refine hy_cV0e (i := 11) rfl mj_M_here (by decide) rfl (Nat.le_of_ble_eq_true rfl) rfl rfl rfl (c_M_here (by assumption)) ?_
        refine hy_const (i := 12) rfl (by decide) ?_
        refine hy_isub (i := 13) rfl (by omega) ?_
        refine hy_put (i := 14) (fk := 13) rfl rfl rfl rfl ?_
        refine hy_aload (i := 15) rfl rfl ?_
        refine hy_get (i := 16) (fk := 13) rfl rfl rfl ?_
        refine hy_const (i := 17) rfl (by decide) ?_
        rw [show hy_up t 59 13 (mp_here t - 48) 59 13 = mp_here t - 48 from rfl]
        refine hy_ic_lt (i := 18) (tt := 25) rfl (fun zc2 => ?_) (fun zc2 => ?_)
        · omega
        · refine hy_aload (i := 19) rfl rfl ?_
          refine hy_const (i := 20) rfl (by decide) ?_
          refine hy_aload (i := 21) rfl rfl ?_
          refine hy_get (i := 22) (fk := 10) rfl rfl rfl ?_
          refine hy_cV2e (i := 23) rfl mj_M_wrongAt (by decide) rfl (Nat.le_of_ble_eq_true rfl) rfl rfl rfl (c_M_wrongAt (by decide) (show 0 ≤ t 59 10 ∧ t 59 10 ≤ 260 from hp)) ?_
          refine hy_zreturn (i := 24) rfl rfl (by first | decide | exact hy_b01 _) ?_
          exact ⟨rfl, rfl⟩
      · exact bb_abs hd zc1
  · rw [show ml_emp t o = (false, mp_wr t 1 (t 59 10)) by unfold ml_emp; rw [if_neg hd]]
    refine hy_aload (i := 0) rfl rfl ?_
    refine hy_cV0e (i := 1) rfl mj_M_isDigit (by decide) rfl (Nat.le_of_ble_eq_true rfl) rfl rfl rfl (c_M_isDigit (by assumption)) ?_
    refine hy_ib_ne (i := 2) (tt := 9) rfl (fun zc1 => ?_) (fun zc1 => ?_)
    · exact absurd zc1 hd
    · refine hy_aload (i := 3) rfl rfl ?_
      refine hy_const (i := 4) rfl (by decide) ?_
      refine hy_aload (i := 5) rfl rfl ?_
      refine hy_get (i := 6) (fk := 10) rfl rfl rfl ?_
      refine hy_cV2e (i := 7) rfl mj_M_wrongAt (by decide) rfl (Nat.le_of_ble_eq_true rfl) rfl rfl rfl (c_M_wrongAt (by decide) hp) ?_
      refine hy_zreturn (i := 8) rfl rfl (by first | decide | exact hy_b01 _) ?_
      exact ⟨rfl, rfl⟩
end MZ
/-! the model: lines, made and judged -/
section NA
variable {sc : List Int32} {t : hy_T}
theorem c_M_readsLine (h : mp_ok t) (hm : 0 ≤ t 59 33 ∧ t 59 33 ≤ 8) : hy_Ct sc hm_M_readsLine 3 [.inr (some 59)] t (hy_e (some (hy_b (ml_line t).1)) (ml_line t).2) := by
  refine hy_mk_ct ok_M_readsLine ck_M_readsLine (Nat.le_of_ble_eq_true rfl) ?_
  have hp := h.1
  generalize hG : ml_line t = G
  have tail : ∀ u, mp_ok u → (0 ≤ u 59 33 ∧ u 59 33 < 8) → ml_tail u = G → hy_W sc hm_M_readsLine 3 27 [.inr (some 59)] [] u (hy_e (some (hy_b G.1)) G.2) := by
    intro u hu hn hv
    have hpu := hu.1
    unfold ml_tail at hv
    by_cases hs : mp_here u = 62 ∨ mp_here u = 43
    · rw [if_pos hs] at hv
      have rest : hy_W sc hm_M_readsLine 3 53 [.inr (some 59)] [] (hy_up u 84 (u 59 33).toNat (if mp_here u = 43 then 1 else 0)) (hy_e (some (hy_b G.1)) G.2) := by
        have d1 := ml_s_row hu (r := 84) (by decide) (by decide) (if mp_here u = 43 then 1 else 0)
        have eh : mp_here (hy_up u 84 (u 59 33).toNat (if mp_here u = 43 then 1 else 0)) = mp_here u := rfl
        have d2 := d1.tr (ml_s_st d1.1 (by rw [eh]; omega))
        change ml_s u (ml_sgn u) at d2
        have e1 := (ml_emp_s d2.1 (-1)).1
        have ey : (ml_emp (ml_sgn u) (-1)).2 59 33 = u 59 33 := (d2.tr e1).2.1 59 33 rfl
        unfold ml_two at hv
        by_cases he : (ml_emp (ml_sgn u) (-1)).1 = true
        · rw [if_pos he] at hv
          have g1 := ml_s_row e1.1 (r := 82) (by decide) (by decide) ((ml_emp (ml_sgn u) (-1)).2 59 13)
          change ml_s _ (ml_from (ml_emp (ml_sgn u) (-1)).2) at g1
          have i1 := (ml_emp_s g1.1 ((ml_emp (ml_sgn u) (-1)).2 59 13)).1
          have ez : (ml_emp (ml_from (ml_emp (ml_sgn u) (-1)).2) ((ml_emp (ml_sgn u) (-1)).2 59 13)).2 59 33 = u 59 33 := (((d2.tr e1).tr g1).tr i1).2.1 59 33 rfl
          by_cases hz : (ml_emp (ml_from (ml_emp (ml_sgn u) (-1)).2) ((ml_emp (ml_sgn u) (-1)).2 59 13)).1 = true
          · rw [if_pos hz] at hv
            refine hy_aload (i := 53) rfl rfl ?_
            refine hy_aload (i := 54) rfl rfl ?_
            refine hy_get (i := 55) (fk := 10) rfl rfl rfl ?_
            refine hy_const (i := 56) rfl (by decide) ?_
            refine hy_iadd (i := 57) rfl ((by have q1 : 0 ≤ u 59 10 ∧ u 59 10 ≤ 260 := hpu; first | omega | (show -2147483648 ≤ u 59 10 + 1 ∧ u 59 10 + 1 ≤ 2147483647; omega))) ?_
            refine hy_put (i := 58) (fk := 10) rfl rfl rfl rfl ?_
            refine hy_aload (i := 59) rfl rfl ?_
            refine hy_const (i := 60) rfl (by decide) ?_
            refine hy_cV1e (i := 61) rfl mj_M_readsEmpire (by decide) rfl (Nat.le_of_ble_eq_true rfl) rfl rfl rfl (c_M_readsEmpire (t := ml_sgn u) d2.1) ?_
            refine hy_ib_ne (i := 62) (tt := 65) rfl (fun zc1 => ?_) (fun zc1 => ?_)
            · refine hy_aload (i := 65) rfl rfl ?_
              refine hy_getr (i := 66) rfl rfl ?_
              refine hy_aload (i := 67) rfl rfl ?_
              refine hy_get (i := 68) (fk := 33) rfl rfl rfl ?_
              refine hy_aload (i := 69) rfl rfl ?_
              refine hy_get (i := 70) (fk := 13) rfl rfl rfl ?_
              refine hy_iast (i := 71) rfl rfl (by omega) rfl ?_
              refine hy_aload (i := 72) rfl rfl ?_
              refine hy_aload (i := 73) rfl rfl ?_
              refine hy_get (i := 74) (fk := 13) rfl rfl rfl ?_
              rw [hy_up_ne (by decide)]
              refine hy_cV1e (i := 75) rfl mj_M_readsEmpire (by decide) rfl (Nat.le_of_ble_eq_true rfl) rfl rfl rfl (c_M_readsEmpire (t := ml_from (ml_emp (ml_sgn u) (-1)).2) g1.1) ?_
              refine hy_ib_ne (i := 76) (tt := 79) rfl (fun zc2 => ?_) (fun zc2 => ?_)
              · refine hy_aload (i := 79) rfl rfl ?_
                refine hy_getr (i := 80) rfl rfl ?_
                refine hy_aload (i := 81) rfl rfl ?_
                refine hy_get (i := 82) (fk := 33) rfl rfl rfl ?_
                refine hy_aload (i := 83) rfl rfl ?_
                refine hy_get (i := 84) (fk := 13) rfl rfl rfl ?_
                refine hy_iast (i := 85) rfl rfl (by omega) rfl ?_
                refine hy_aload (i := 86) rfl rfl ?_
                refine hy_aload (i := 87) rfl rfl ?_
                refine hy_get (i := 88) (fk := 33) rfl rfl rfl ?_
                refine hy_const (i := 89) rfl (by decide) ?_
                rw [hy_up_ne (by decide)]
                refine hy_iadd (i := 90) rfl ((by have q1 : 0 ≤ u 59 10 ∧ u 59 10 ≤ 260 := hpu; first | omega | (show -2147483648 ≤ u 59 10 + 1 ∧ u 59 10 + 1 ≤ 2147483647; omega))) ?_
                refine hy_put (i := 91) (fk := 33) rfl rfl rfl rfl ?_
                refine hy_const (i := 92) rfl (by decide) ?_
                refine hy_zreturn (i := 93) rfl rfl (by first | decide | exact hy_b01 _) ?_
                rw [← hv]; exact ⟨rfl, rfl⟩
              · exact bb_abs hz zc2
            · exact bb_abs he zc1
          · rw [if_neg hz] at hv
            refine hy_aload (i := 53) rfl rfl ?_
            refine hy_aload (i := 54) rfl rfl ?_
            refine hy_get (i := 55) (fk := 10) rfl rfl rfl ?_
            refine hy_const (i := 56) rfl (by decide) ?_
            refine hy_iadd (i := 57) rfl ((by have q1 : 0 ≤ u 59 10 ∧ u 59 10 ≤ 260 := hpu; first | omega | (show -2147483648 ≤ u 59 10 + 1 ∧ u 59 10 + 1 ≤ 2147483647; omega))) ?_
            refine hy_put (i := 58) (fk := 10) rfl rfl rfl rfl ?_
            refine hy_aload (i := 59) rfl rfl ?_
            refine hy_const (i := 60) rfl (by decide) ?_
            refine hy_cV1e (i := 61) rfl mj_M_readsEmpire (by decide) rfl (Nat.le_of_ble_eq_true rfl) rfl rfl rfl (c_M_readsEmpire (t := ml_sgn u) d2.1) ?_
            refine hy_ib_ne (i := 62) (tt := 65) rfl (fun zc1 => ?_) (fun zc1 => ?_)
            · refine hy_aload (i := 65) rfl rfl ?_
              refine hy_getr (i := 66) rfl rfl ?_
              refine hy_aload (i := 67) rfl rfl ?_
              refine hy_get (i := 68) (fk := 33) rfl rfl rfl ?_
              refine hy_aload (i := 69) rfl rfl ?_
              refine hy_get (i := 70) (fk := 13) rfl rfl rfl ?_
              refine hy_iast (i := 71) rfl rfl (by omega) rfl ?_
              refine hy_aload (i := 72) rfl rfl ?_
              refine hy_aload (i := 73) rfl rfl ?_
              refine hy_get (i := 74) (fk := 13) rfl rfl rfl ?_
              rw [hy_up_ne (by decide)]
              refine hy_cV1e (i := 75) rfl mj_M_readsEmpire (by decide) rfl (Nat.le_of_ble_eq_true rfl) rfl rfl rfl (c_M_readsEmpire (t := ml_from (ml_emp (ml_sgn u) (-1)).2) g1.1) ?_
              refine hy_ib_ne (i := 76) (tt := 79) rfl (fun zc2 => ?_) (fun zc2 => ?_)
              · exact absurd zc2 hz
              · refine hy_const (i := 77) rfl (by decide) ?_
                refine hy_zreturn (i := 78) rfl rfl (by first | decide | exact hy_b01 _) ?_
                rw [← hv]; exact ⟨rfl, rfl⟩
            · exact bb_abs he zc1
        · rw [if_neg he] at hv
          refine hy_aload (i := 53) rfl rfl ?_
          refine hy_aload (i := 54) rfl rfl ?_
          refine hy_get (i := 55) (fk := 10) rfl rfl rfl ?_
          refine hy_const (i := 56) rfl (by decide) ?_
          refine hy_iadd (i := 57) rfl ((by have q1 : 0 ≤ u 59 10 ∧ u 59 10 ≤ 260 := hpu; first | omega | (show -2147483648 ≤ u 59 10 + 1 ∧ u 59 10 + 1 ≤ 2147483647; omega))) ?_
          refine hy_put (i := 58) (fk := 10) rfl rfl rfl rfl ?_
          refine hy_aload (i := 59) rfl rfl ?_
          refine hy_const (i := 60) rfl (by decide) ?_
          refine hy_cV1e (i := 61) rfl mj_M_readsEmpire (by decide) rfl (Nat.le_of_ble_eq_true rfl) rfl rfl rfl (c_M_readsEmpire (t := ml_sgn u) d2.1) ?_
          refine hy_ib_ne (i := 62) (tt := 65) rfl (fun zc1 => ?_) (fun zc1 => ?_)
          · exact absurd zc1 he
          · refine hy_const (i := 63) rfl (by decide) ?_
            refine hy_zreturn (i := 64) rfl rfl (by first | decide | exact hy_b01 _) ?_
            rw [← hv]; exact ⟨rfl, rfl⟩
      refine hy_aload (i := 27) rfl rfl ?_
      refine hy_cV0e (i := 28) rfl mj_M_here (by decide) rfl (Nat.le_of_ble_eq_true rfl) rfl rfl rfl (c_M_here (by assumption)) ?_
      refine hy_const (i := 29) rfl (by decide) ?_
      refine hy_ic_eq (i := 30) (tt := 41) rfl (fun zc1 => ?_) (fun zc1 => ?_)
      · refine hy_aload (i := 41) rfl rfl ?_
        refine hy_getr (i := 42) rfl rfl ?_
        refine hy_aload (i := 43) rfl rfl ?_
        refine hy_get (i := 44) (fk := 33) rfl rfl rfl ?_
        refine hy_aload (i := 45) rfl rfl ?_
        refine hy_cV0e (i := 46) rfl mj_M_here (by decide) rfl (Nat.le_of_ble_eq_true rfl) rfl rfl rfl (c_M_here (by assumption)) ?_
        refine hy_const (i := 47) rfl (by decide) ?_
        refine hy_ic_ne (i := 48) (tt := 51) rfl (fun zc2 => ?_) (fun zc2 => ?_)
        · refine hy_const (i := 51) rfl (by decide) ?_
          refine hy_iast (i := 52) rfl rfl (by omega) rfl ?_
          first | (rw [if_pos (by assumption)] at rest; exact rest) | (rw [if_neg (by assumption)] at rest; exact rest)
        · refine hy_const (i := 49) rfl (by decide) ?_
          refine hy_goto (i := 50) (tt := 52) rfl ?_
          refine hy_iast (i := 52) rfl rfl (by omega) rfl ?_
          first | (rw [if_pos (by assumption)] at rest; exact rest) | (rw [if_neg (by assumption)] at rest; exact rest)
      · refine hy_aload (i := 31) rfl rfl ?_
        refine hy_cV0e (i := 32) rfl mj_M_here (by decide) rfl (Nat.le_of_ble_eq_true rfl) rfl rfl rfl (c_M_here (by assumption)) ?_
        refine hy_const (i := 33) rfl (by decide) ?_
        refine hy_ic_eq (i := 34) (tt := 41) rfl (fun zc2 => ?_) (fun zc2 => ?_)
        · refine hy_aload (i := 41) rfl rfl ?_
          refine hy_getr (i := 42) rfl rfl ?_
          refine hy_aload (i := 43) rfl rfl ?_
          refine hy_get (i := 44) (fk := 33) rfl rfl rfl ?_
          refine hy_aload (i := 45) rfl rfl ?_
          refine hy_cV0e (i := 46) rfl mj_M_here (by decide) rfl (Nat.le_of_ble_eq_true rfl) rfl rfl rfl (c_M_here (by assumption)) ?_
          refine hy_const (i := 47) rfl (by decide) ?_
          refine hy_ic_ne (i := 48) (tt := 51) rfl (fun zc3 => ?_) (fun zc3 => ?_)
          · refine hy_const (i := 51) rfl (by decide) ?_
            refine hy_iast (i := 52) rfl rfl (by omega) rfl ?_
            first | (rw [if_pos (by assumption)] at rest; exact rest) | (rw [if_neg (by assumption)] at rest; exact rest)
          · refine hy_const (i := 49) rfl (by decide) ?_
            refine hy_goto (i := 50) (tt := 52) rfl ?_
            refine hy_iast (i := 52) rfl rfl (by omega) rfl ?_
            first | (rw [if_pos (by assumption)] at rest; exact rest) | (rw [if_neg (by assumption)] at rest; exact rest)
        · omega
    · rw [if_neg hs] at hv
      refine hy_aload (i := 27) rfl rfl ?_
      refine hy_cV0e (i := 28) rfl mj_M_here (by decide) rfl (Nat.le_of_ble_eq_true rfl) rfl rfl rfl (c_M_here (by assumption)) ?_
      refine hy_const (i := 29) rfl (by decide) ?_
      refine hy_ic_eq (i := 30) (tt := 41) rfl (fun zc1 => ?_) (fun zc1 => ?_)
      · omega
      · refine hy_aload (i := 31) rfl rfl ?_
        refine hy_cV0e (i := 32) rfl mj_M_here (by decide) rfl (Nat.le_of_ble_eq_true rfl) rfl rfl rfl (c_M_here (by assumption)) ?_
        refine hy_const (i := 33) rfl (by decide) ?_
        refine hy_ic_eq (i := 34) (tt := 41) rfl (fun zc2 => ?_) (fun zc2 => ?_)
        · omega
        · refine hy_aload (i := 35) rfl rfl ?_
          refine hy_const (i := 36) rfl (by decide) ?_
          refine hy_aload (i := 37) rfl rfl ?_
          refine hy_get (i := 38) (fk := 10) rfl rfl rfl ?_
          refine hy_cV2e (i := 39) rfl mj_M_wrongAt (by decide) rfl (Nat.le_of_ble_eq_true rfl) rfl rfl rfl (c_M_wrongAt (by decide) hpu) ?_
          refine hy_zreturn (i := 40) rfl rfl (by first | decide | exact hy_b01 _) ?_
          rw [← hv]; exact ⟨rfl, rfl⟩
  unfold ml_line at hG
  by_cases hd : mp_dig t = true
  · rw [if_pos hd] at hG
    by_cases h8 : t 59 33 = 8
    · rw [if_pos h8] at hG
      refine hy_aload (i := 0) rfl rfl ?_
      refine hy_cV0e (i := 1) rfl mj_M_isDigit (by decide) rfl (Nat.le_of_ble_eq_true rfl) rfl rfl rfl (c_M_isDigit (by assumption)) ?_
      refine hy_ib_ne (i := 2) (tt := 9) rfl (fun zc1 => ?_) (fun zc1 => ?_)
      · refine hy_aload (i := 9) rfl rfl ?_
        refine hy_get (i := 10) (fk := 33) rfl rfl rfl ?_
        refine hy_const (i := 11) rfl (by decide) ?_
        refine hy_ic_ne (i := 12) (tt := 19) rfl (fun zc2 => ?_) (fun zc2 => ?_)
        · omega
        · refine hy_aload (i := 13) rfl rfl ?_
          refine hy_const (i := 14) rfl (by decide) ?_
          refine hy_aload (i := 15) rfl rfl ?_
          refine hy_get (i := 16) (fk := 10) rfl rfl rfl ?_
          refine hy_cV2e (i := 17) rfl mj_M_wrongAt (by decide) rfl (Nat.le_of_ble_eq_true rfl) rfl rfl rfl (c_M_wrongAt (by decide) hp) ?_
          refine hy_zreturn (i := 18) rfl rfl (by first | decide | exact hy_b01 _) ?_
          rw [← hG]; exact ⟨rfl, rfl⟩
      · exact bb_abs hd zc1
    · rw [if_neg h8] at hG
      obtain ⟨a1, -⟩ := ml_col_s h
      have ea : (ml_col t).2 59 33 = t 59 33 := a1.2.1 59 33 rfl
      by_cases hc : (ml_col t).1 = true
      · rw [if_pos hc] at hG
        obtain ⟨b1, -⟩ := ml_quaN_s 5 (t := (ml_col t).2) (s := 0) (l := -1) a1.1 (by decide)
        have b2 := a1.tr b1
        change ml_s t (ml_qua (ml_col t).2).2 at b2
        have eb : (ml_qua (ml_col t).2).2 59 33 = t 59 33 := b2.2.1 59 33 rfl
        have hok1 := a1.1
        by_cases hq : (ml_qua (ml_col t).2).1 = true
        · rw [if_pos hq] at hG
          refine hy_aload (i := 0) rfl rfl ?_
          refine hy_cV0e (i := 1) rfl mj_M_isDigit (by decide) rfl (Nat.le_of_ble_eq_true rfl) rfl rfl rfl (c_M_isDigit (by assumption)) ?_
          refine hy_ib_ne (i := 2) (tt := 9) rfl (fun zc1 => ?_) (fun zc1 => ?_)
          · refine hy_aload (i := 9) rfl rfl ?_
            refine hy_get (i := 10) (fk := 33) rfl rfl rfl ?_
            refine hy_const (i := 11) rfl (by decide) ?_
            refine hy_ic_ne (i := 12) (tt := 19) rfl (fun zc2 => ?_) (fun zc2 => ?_)
            · refine hy_aload (i := 19) rfl rfl ?_
              refine hy_cV0e (i := 20) rfl mj_M_readsColour (by decide) rfl (Nat.le_of_ble_eq_true rfl) rfl rfl rfl (c_M_readsColour (by assumption) (by omega)) ?_
              refine hy_ib_eq (i := 21) (tt := 25) rfl (fun zc3 => ?_) (fun zc3 => ?_)
              · exact bb_abs hc (by assumption)
              · refine hy_aload (i := 22) rfl rfl ?_
                refine hy_cV0e (i := 23) rfl mj_M_readsQuarters (by decide) rfl (Nat.le_of_ble_eq_true rfl) rfl rfl rfl (c_M_readsQuarters (by assumption) (by omega)) ?_
                refine hy_ib_ne (i := 24) (tt := 27) rfl (fun zc4 => ?_) (fun zc4 => ?_)
                · exact tail _ b2.1 (by omega) hG
                · exact bb_abs hq (by assumption)
            · omega
          · exact bb_abs hd zc1
        · rw [if_neg hq] at hG
          refine hy_aload (i := 0) rfl rfl ?_
          refine hy_cV0e (i := 1) rfl mj_M_isDigit (by decide) rfl (Nat.le_of_ble_eq_true rfl) rfl rfl rfl (c_M_isDigit (by assumption)) ?_
          refine hy_ib_ne (i := 2) (tt := 9) rfl (fun zc1 => ?_) (fun zc1 => ?_)
          · refine hy_aload (i := 9) rfl rfl ?_
            refine hy_get (i := 10) (fk := 33) rfl rfl rfl ?_
            refine hy_const (i := 11) rfl (by decide) ?_
            refine hy_ic_ne (i := 12) (tt := 19) rfl (fun zc2 => ?_) (fun zc2 => ?_)
            · refine hy_aload (i := 19) rfl rfl ?_
              refine hy_cV0e (i := 20) rfl mj_M_readsColour (by decide) rfl (Nat.le_of_ble_eq_true rfl) rfl rfl rfl (c_M_readsColour (by assumption) (by omega)) ?_
              refine hy_ib_eq (i := 21) (tt := 25) rfl (fun zc3 => ?_) (fun zc3 => ?_)
              · exact bb_abs hc (by assumption)
              · refine hy_aload (i := 22) rfl rfl ?_
                refine hy_cV0e (i := 23) rfl mj_M_readsQuarters (by decide) rfl (Nat.le_of_ble_eq_true rfl) rfl rfl rfl (c_M_readsQuarters (by assumption) (by omega)) ?_
                refine hy_ib_ne (i := 24) (tt := 27) rfl (fun zc4 => ?_) (fun zc4 => ?_)
                · exact absurd (by assumption) hq
                · refine hy_const (i := 25) rfl (by decide) ?_
                  refine hy_zreturn (i := 26) rfl rfl (by first | decide | exact hy_b01 _) ?_
                  rw [← hG]; exact ⟨rfl, rfl⟩
            · omega
          · exact bb_abs hd zc1
      · rw [if_neg hc] at hG
        refine hy_aload (i := 0) rfl rfl ?_
        refine hy_cV0e (i := 1) rfl mj_M_isDigit (by decide) rfl (Nat.le_of_ble_eq_true rfl) rfl rfl rfl (c_M_isDigit (by assumption)) ?_
        refine hy_ib_ne (i := 2) (tt := 9) rfl (fun zc1 => ?_) (fun zc1 => ?_)
        · refine hy_aload (i := 9) rfl rfl ?_
          refine hy_get (i := 10) (fk := 33) rfl rfl rfl ?_
          refine hy_const (i := 11) rfl (by decide) ?_
          refine hy_ic_ne (i := 12) (tt := 19) rfl (fun zc2 => ?_) (fun zc2 => ?_)
          · refine hy_aload (i := 19) rfl rfl ?_
            refine hy_cV0e (i := 20) rfl mj_M_readsColour (by decide) rfl (Nat.le_of_ble_eq_true rfl) rfl rfl rfl (c_M_readsColour (by assumption) (by omega)) ?_
            refine hy_ib_eq (i := 21) (tt := 25) rfl (fun zc3 => ?_) (fun zc3 => ?_)
            · refine hy_const (i := 25) rfl (by decide) ?_
              refine hy_zreturn (i := 26) rfl rfl (by first | decide | exact hy_b01 _) ?_
              rw [← hG]; exact ⟨rfl, rfl⟩
            · exact absurd (by assumption) hc
          · omega
        · exact bb_abs hd zc1
  · rw [if_neg hd] at hG
    refine hy_aload (i := 0) rfl rfl ?_
    refine hy_cV0e (i := 1) rfl mj_M_isDigit (by decide) rfl (Nat.le_of_ble_eq_true rfl) rfl rfl rfl (c_M_isDigit (by assumption)) ?_
    refine hy_ib_ne (i := 2) (tt := 9) rfl (fun zc1 => ?_) (fun zc1 => ?_)
    · exact absurd zc1 hd
    · refine hy_aload (i := 3) rfl rfl ?_
      refine hy_const (i := 4) rfl (by decide) ?_
      refine hy_aload (i := 5) rfl rfl ?_
      refine hy_get (i := 6) (fk := 10) rfl rfl rfl ?_
      refine hy_cV2e (i := 7) rfl mj_M_wrongAt (by decide) rfl (Nat.le_of_ble_eq_true rfl) rfl rfl rfl (c_M_wrongAt (by decide) hp) ?_
      refine hy_zreturn (i := 8) rfl rfl (by first | decide | exact hy_b01 _) ?_
      rw [← hG]; exact ⟨rfl, rfl⟩
theorem c_M_readsLines {n : Int} (hn : n ≤ 260) : hy_Ct sc hm_M_readsLines 4 [.inr (some 59), .inl n] t (hy_e (some (hy_b (ml_lines t n).1)) (ml_lines t n).2) := by
  refine hy_mk_ct ok_M_readsLines ck_M_readsLines (Nat.le_of_ble_eq_true rfl) ?_
  obtain ⟨s1, s2, s3⟩ := ml_t0_s t hn
  obtain ⟨b1, b2, b3, b4⟩ := ml_line_s s1 s2
  obtain ⟨G0, hG0⟩ : ∃ G0, G0 = ml_linesN 261 (ml_line (ml_t0 t n)) := ⟨_, rfl⟩
  have hG : ml_lines t n = (G0.1, hy_up G0.2 59 9 0) := by rw [hG0]; rfl
  have loop : ∀ (m : Nat), ∀ (x : Bool) (u : hy_T), mp_ok u → ml_good u → (x = true → u 59 11 - u 59 10 < m) → ml_linesN m (x, u) = G0 → hy_W sc hm_M_readsLines 4 12 [.inr (some 59), .inl n, .inl (hy_b x)] [] u (hy_e (some (hy_b (ml_lines t n).1)) (ml_lines t n).2) := by
    intro m
    induction m with
    | zero =>
      intro x u hu hg hx hv
      have hG' : ml_lines t n = (x, hy_up u 59 9 0) := by rw [hG, ← hv]; try rfl
      rw [hG']
      refine hy_iload (i := 12) rfl rfl ?_
      refine hy_ib_eq (i := 13) (tt := 31) rfl (fun zc1 => ?_) (fun zc1 => ?_)
      · refine hy_aload (i := 31) rfl rfl ?_
        refine hy_const (i := 32) rfl (by decide) ?_
        refine hy_put (i := 33) (fk := 9) rfl rfl rfl rfl ?_
        refine hy_iload (i := 34) rfl rfl ?_
        refine hy_zreturn (i := 35) rfl rfl (by first | decide | exact hy_b01 _) ?_
        exact ⟨rfl, rfl⟩
      · refine hy_aload (i := 14) rfl rfl ?_
        refine hy_get (i := 15) (fk := 10) rfl rfl rfl ?_
        refine hy_aload (i := 16) rfl rfl ?_
        refine hy_get (i := 17) (fk := 11) rfl rfl rfl ?_
        refine hy_ic_ge (i := 18) (tt := 31) rfl (fun zc2 => ?_) (fun zc2 => ?_)
        · refine hy_aload (i := 31) rfl rfl ?_
          refine hy_const (i := 32) rfl (by decide) ?_
          refine hy_put (i := 33) (fk := 9) rfl rfl rfl rfl ?_
          refine hy_iload (i := 34) rfl rfl ?_
          refine hy_zreturn (i := 35) rfl rfl (by first | decide | exact hy_b01 _) ?_
          exact ⟨rfl, rfl⟩
        · have := hx (by assumption); omega
    | succ m ih =>
      intro x u hu hg hx hv
      simp only [ml_linesN] at hv
      by_cases hc : x = true ∧ u 59 10 < u 59 11
      · rw [if_pos hc] at hv
        obtain ⟨a1, a2, a3, a4⟩ := mp_take_s (c := 44) hu (by decide)
        have a5 : hy_F mlmX u (mp_take u 44).2 := a2.w (fun r j q => by revert q; simp [mlmX, mlnX, mpX]; omega)
        have a6 : ml_good (mp_take u 44).2 := by
          unfold ml_good ml_row
          simp only [a2 59 33 rfl, a2 80 _ rfl, a2 81 _ rfl, a2 82 _ rfl, a2 83 _ rfl, a2 84 _ rfl]
          exact hg
        have a7 := a6.1
        have a11 : (mp_take u 44).2 59 11 = u 59 11 := a2 59 11 rfl
        obtain ⟨c1, c2, c3, c4⟩ := ml_line_s a1 a6
        have c11 : (ml_line (mp_take u 44).2).2 59 11 = u 59 11 := (c2 59 11 rfl).trans a11
        have hx1 := hx hc.1
        by_cases ht : (mp_take u 44).1 = true
        · rw [if_pos ht] at hv
          have a8 := a4 ht
          refine hy_iload (i := 12) rfl rfl ?_
          refine hy_ib_eq (i := 13) (tt := 31) rfl (fun zc1 => ?_) (fun zc1 => ?_)
          · exact bb_abs hc.1 zc1
          · refine hy_aload (i := 14) rfl rfl ?_
            refine hy_get (i := 15) (fk := 10) rfl rfl rfl ?_
            refine hy_aload (i := 16) rfl rfl ?_
            refine hy_get (i := 17) (fk := 11) rfl rfl rfl ?_
            refine hy_ic_ge (i := 18) (tt := 31) rfl (fun zc2 => ?_) (fun zc2 => ?_)
            · omega
            · refine hy_aload (i := 19) rfl rfl ?_
              refine hy_const (i := 20) rfl (by decide) ?_
              refine hy_cV1e (i := 21) rfl mj_M_takes (by decide) rfl (Nat.le_of_ble_eq_true rfl) rfl rfl rfl (c_M_takes (by assumption)) ?_
              refine hy_ib_eq (i := 22) (tt := 28) rfl (fun zc3 => ?_) (fun zc3 => ?_)
              · exact bb_abs ht (by assumption)
              · refine hy_aload (i := 23) rfl rfl ?_
                refine hy_cV0e (i := 24) rfl mj_M_readsLine (by decide) rfl (Nat.le_of_ble_eq_true rfl) rfl rfl rfl (c_M_readsLine (by assumption) (by omega)) ?_
                refine hy_ib_eq (i := 25) (tt := 28) rfl (fun zc4 => ?_) (fun zc4 => ?_)
                · refine hy_const (i := 28) rfl (by decide) ?_
                  refine hy_istore (i := 29) rfl ?_
                  refine hy_goto (i := 30) (tt := 12) rfl ?_
                  first | exact ih true _ c1 c4 (fun _ => by omega) (by rw [← hv]; exact congrArg (ml_linesN m) (Prod.ext (show (ml_line (mp_take u 44).2).1 = true by assumption).symm rfl)) | exact ih false _ c1 c4 (fun h => by cases h) (by rw [← hv]; exact congrArg (ml_linesN m) (Prod.ext (show (ml_line (mp_take u 44).2).1 = false by assumption).symm rfl))
                · refine hy_const (i := 26) rfl (by decide) ?_
                  refine hy_goto (i := 27) (tt := 29) rfl ?_
                  refine hy_istore (i := 29) rfl ?_
                  refine hy_goto (i := 30) (tt := 12) rfl ?_
                  first | exact ih true _ c1 c4 (fun _ => by omega) (by rw [← hv]; exact congrArg (ml_linesN m) (Prod.ext (show (ml_line (mp_take u 44).2).1 = true by assumption).symm rfl)) | exact ih false _ c1 c4 (fun h => by cases h) (by rw [← hv]; exact congrArg (ml_linesN m) (Prod.ext (show (ml_line (mp_take u 44).2).1 = false by assumption).symm rfl))
        · rw [if_neg ht] at hv
          refine hy_iload (i := 12) rfl rfl ?_
          refine hy_ib_eq (i := 13) (tt := 31) rfl (fun zc1 => ?_) (fun zc1 => ?_)
          · exact bb_abs hc.1 zc1
          · refine hy_aload (i := 14) rfl rfl ?_
            refine hy_get (i := 15) (fk := 10) rfl rfl rfl ?_
            refine hy_aload (i := 16) rfl rfl ?_
            refine hy_get (i := 17) (fk := 11) rfl rfl rfl ?_
            refine hy_ic_ge (i := 18) (tt := 31) rfl (fun zc2 => ?_) (fun zc2 => ?_)
            · omega
            · refine hy_aload (i := 19) rfl rfl ?_
              refine hy_const (i := 20) rfl (by decide) ?_
              refine hy_cV1e (i := 21) rfl mj_M_takes (by decide) rfl (Nat.le_of_ble_eq_true rfl) rfl rfl rfl (c_M_takes (by assumption)) ?_
              refine hy_ib_eq (i := 22) (tt := 28) rfl (fun zc3 => ?_) (fun zc3 => ?_)
              · refine hy_const (i := 28) rfl (by decide) ?_
                refine hy_istore (i := 29) rfl ?_
                refine hy_goto (i := 30) (tt := 12) rfl ?_
                exact ih false _ a1 a6 (fun h => by cases h) hv
              · exact absurd (by assumption) ht
      · rw [if_neg hc] at hv
        have hG' : ml_lines t n = (x, hy_up u 59 9 0) := by rw [hG, ← hv]; try rfl
        rw [hG']
        refine hy_iload (i := 12) rfl rfl ?_
        refine hy_ib_eq (i := 13) (tt := 31) rfl (fun zc1 => ?_) (fun zc1 => ?_)
        · refine hy_aload (i := 31) rfl rfl ?_
          refine hy_const (i := 32) rfl (by decide) ?_
          refine hy_put (i := 33) (fk := 9) rfl rfl rfl rfl ?_
          refine hy_iload (i := 34) rfl rfl ?_
          refine hy_zreturn (i := 35) rfl rfl (by first | decide | exact hy_b01 _) ?_
          exact ⟨rfl, rfl⟩
        · refine hy_aload (i := 14) rfl rfl ?_
          refine hy_get (i := 15) (fk := 10) rfl rfl rfl ?_
          refine hy_aload (i := 16) rfl rfl ?_
          refine hy_get (i := 17) (fk := 11) rfl rfl rfl ?_
          refine hy_ic_ge (i := 18) (tt := 31) rfl (fun zc2 => ?_) (fun zc2 => ?_)
          · refine hy_aload (i := 31) rfl rfl ?_
            refine hy_const (i := 32) rfl (by decide) ?_
            refine hy_put (i := 33) (fk := 9) rfl rfl rfl rfl ?_
            refine hy_iload (i := 34) rfl rfl ?_
            refine hy_zreturn (i := 35) rfl rfl (by first | decide | exact hy_b01 _) ?_
            exact ⟨rfl, rfl⟩
          · exact absurd ⟨by assumption, by omega⟩ hc
  have hb1 := s2.1
  have e11 : (ml_line (ml_t0 t n)).2 59 11 = n := (b2 59 11 rfl).trans rfl
  have e10 : ml_t0 t n 59 10 = 0 := rfl
  refine hy_aload (i := 0) rfl rfl ?_
  refine hy_const (i := 1) rfl (by decide) ?_
  refine hy_put (i := 2) (fk := 10) rfl rfl rfl rfl ?_
  refine hy_aload (i := 3) rfl rfl ?_
  refine hy_iload (i := 4) rfl rfl ?_
  refine hy_put (i := 5) (fk := 11) rfl rfl rfl rfl ?_
  refine hy_aload (i := 6) rfl rfl ?_
  refine hy_const (i := 7) rfl (by decide) ?_
  refine hy_put (i := 8) (fk := 33) rfl rfl rfl rfl ?_
  refine hy_aload (i := 9) rfl rfl ?_
  refine hy_cV0e (i := 10) rfl mj_M_readsLine (by decide) rfl (Nat.le_of_ble_eq_true rfl) rfl rfl rfl (c_M_readsLine (t := ml_t0 t n) s1 hb1) ?_
  refine hy_istore (i := 11) rfl ?_
  exact loop 261 _ _ b1 b4 (fun _ => by omega) hG0.symm
end NA
def mk_goN (t : hy_T) (k : Nat) : Nat → Bool
  | 0 => true
  | q + 1 => mk_goN t k q && (!hz_b (t 81 k) q || (hz_b (t 62 (4 * t 80 k + q).toNat) (t 82 k) && !hz_b (t 62 (4 * t 80 k + q).toNat) (t 83 k)))
theorem mk_go_no {t : hy_T} {k : Nat} : ∀ (n m : Nat), m ≤ n → mk_goN t k m = false → mk_goN t k n = false
  | 0, m, h, hf => by obtain rfl : m = 0 := (by omega); exact hf
  | n + 1, m, h, hf => by
    by_cases hm : m = n + 1
    · rw [← hm]; exact hf
    · simp only [mk_goN, mk_go_no n m (by omega) hf, Bool.false_and]
def mk_can (t : hy_T) (k : Nat) : Bool := (mf_plain t (t 80 k) && decide (t 59 34 ≠ 16)) && mk_goN t k 4
def mk_c1 (t : hy_T) (k : Nat) : hy_T := mf_chN t (t 80 k) (t 81 k) (t 83 k) 1 4
def mk_c2 (t : hy_T) (k : Nat) : hy_T := if mk_c1 t k 84 k = 0 then mf_chN (mk_c1 t k) (mk_c1 t k 80 k) (mk_c1 t k 81 k) (mk_c1 t k 82 k) 0 4 else mk_c1 t k
def mk_lay (u : hy_T) (k : Nat) : hy_T :=
  hy_up (hy_up (hy_up (hy_up (hy_up (hy_up (hy_up u 85 (u 59 34).toNat (u 80 k)) 86 (u 59 34).toNat (u 81 k)) 87 (u 59 34).toNat (u 82 k)) 88 (u 59 34).toNat (u 83 k)) 89 (u 59 34).toNat (u 84 k)) 90 (u 59 34).toNat (u 59 2)) 59 34 (u 59 34 + 1)
def mk_make (t : hy_T) (k : Nat) : hy_T := if mk_can t k = true then mk_lay (mk_c2 t k) k else t
/-- a treaty that is well laid -/
def tr_row (t : hy_T) (i : Nat) : Prop := (0 ≤ t 85 i ∧ t 85 i < 12) ∧ (1 ≤ t 86 i ∧ t 86 i ≤ 15) ∧ (0 ≤ t 87 i ∧ t 87 i < 6) ∧ (0 ≤ t 88 i ∧ t 88 i < 6) ∧ (t 89 i = 0 ∨ t 89 i = 1) ∧ (-9999 ≤ t 90 i ∧ t 90 i ≤ 9999)
def tr_ok (t : hy_T) : Prop := (0 ≤ t 59 34 ∧ t 59 34 ≤ 16) ∧ (0 ≤ t 59 2 ∧ t 59 2 ≤ 9999) ∧ (0 ≤ t 59 1 ∧ t 59 1 ≤ 65535) ∧ ∀ i : Nat, (i : Int) < t 59 34 → tr_row t i
theorem tr_ok_F {X : Nat → Nat → Bool} {t t1 : hy_T} (h : hy_F X t t1) (hX : ∀ r j, stX r j = true ∨ (r = 59 ∧ j = 2) → X r j = false) (hk : tr_ok t) : tr_ok t1 := by
  obtain ⟨h1, h2, h3, h4⟩ := hk
  have e34 : t1 59 34 = t 59 34 := h 59 34 (hX 59 34 (.inl rfl))
  unfold tr_ok
  rw [e34, h 59 2 (hX 59 2 (.inr ⟨rfl, rfl⟩)), h 59 1 (hX 59 1 (.inl rfl))]
  refine ⟨h1, h2, h3, fun i hi => ?_⟩
  have hi2 : i < 16 := by omega
  have e : ∀ r, 85 ≤ r → r ≤ 90 → t1 r i = t r i := fun r a b => h r i (hX r i (.inl (by simp [stX]; omega)))
  unfold tr_row
  rw [e 85 (by decide) (by decide), e 86 (by decide) (by decide), e 87 (by decide) (by decide), e 88 (by decide) (by decide), e 89 (by decide) (by decide), e 90 (by decide) (by decide)]
  exact h4 i hi
theorem mk_c2_F {t : hy_T} {k : Nat} (hr : ml_row t k) : hy_F hvX t (mk_c2 t k) := by
  have h1 : hy_F hvX t (mk_c1 t k) := mf_chN_F hr.1 t 4 (by omega)
  unfold mk_c2
  split
  · refine h1.tr' (mf_chN_F ?_ _ 4 (by omega))
    rw [h1 80 k rfl]
    exact hr.1
  · exact h1
theorem mk_lay_F (u : hy_T) (hn : 0 ≤ u 59 34 ∧ u 59 34 < 16) (k : Nat) : hy_F stX u (mk_lay u k) := by
  unfold mk_lay
  exact ((((((hy_F.rf.up (by simp [stX]; omega)).up (by simp [stX]; omega)).up (by simp [stX]; omega)).up (by simp [stX]; omega)).up (by simp [stX]; omega)).up (by simp [stX]; omega)).up rfl
theorem mk_make_s {t : hy_T} {k : Nat} (hr : ml_row t k) (ht : tr_ok t) : hy_F stX t (mk_make t k) ∧ tr_ok (mk_make t k) := by
  unfold mk_make
  split
  · next hc =>
    simp only [mk_can, Bool.and_eq_true, decide_eq_true_eq] at hc
    obtain ⟨t1, t2, t3, t4⟩ := ht
    have h1 := mk_c2_F hr
    have e34 : mk_c2 t k 59 34 = t 59 34 := h1 59 34 rfl
    have hn : 0 ≤ mk_c2 t k 59 34 ∧ mk_c2 t k 59 34 < 16 := by omega
    have h2 := mk_lay_F (mk_c2 t k) hn k
    have eq : ∀ r j, 80 ≤ r → mk_c2 t k r j = t r j := fun r j hr => h1 r j (by simp [hvX]; omega)
    have e2 : mk_c2 t k 59 2 = t 59 2 := h1 59 2 rfl
    have e1 : mk_c2 t k 59 1 = t 59 1 := h1 59 1 rfl
    refine ⟨(h1.w (fun r j q => by revert q; simp [stX, hvX]; omega)).tr' h2, ?_⟩
    revert h1 e34 hn h2 eq e2 e1
    generalize mk_c2 t k = u
    intro h1 e34 hn h2 eq e2 e1
    have q34 : mk_lay u k 59 34 = u 59 34 + 1 := rfl
    refine ⟨by omega, by show 0 ≤ u 59 2 ∧ u 59 2 ≤ 9999; omega, by show 0 ≤ u 59 1 ∧ u 59 1 ≤ 65535; omega, fun i hi => ?_⟩
    have key : ∀ r v, mk_lay u k r i = (if i = (u 59 34).toNat then v else u r i) → mk_lay u k r i = (if i = (u 59 34).toNat then v else u r i) := fun _ _ h => h
    have g : mk_lay u k 85 i = (if i = (u 59 34).toNat then u 80 k else u 85 i) ∧ mk_lay u k 86 i = (if i = (u 59 34).toNat then u 81 k else u 86 i) ∧ mk_lay u k 87 i = (if i = (u 59 34).toNat then u 82 k else u 87 i) ∧ mk_lay u k 88 i = (if i = (u 59 34).toNat then u 83 k else u 88 i) ∧ mk_lay u k 89 i = (if i = (u 59 34).toNat then u 84 k else u 89 i) ∧ mk_lay u k 90 i = (if i = (u 59 34).toNat then u 59 2 else u 90 i) := by
      refine ⟨?_, ?_, ?_, ?_, ?_, ?_⟩ <;> simp [mk_lay, hy_up]
    obtain ⟨g1, g2, g3, g4, g5, g6⟩ := g
    unfold tr_row
    rw [g1, g2, g3, g4, g5, g6]
    by_cases hi2 : i = (u 59 34).toNat
    · simp only [if_pos hi2]
      rw [eq 80 k (by decide), eq 81 k (by decide), eq 82 k (by decide), eq 83 k (by decide), eq 84 k (by decide)]
      obtain ⟨r1, r2, r3, r4, r5⟩ := hr
      exact ⟨r1, r2, r3, r4, r5, by omega⟩
    · simp only [if_neg hi2]
      rw [eq 85 i (by decide), eq 86 i (by decide), eq 87 i (by decide), eq 88 i (by decide), eq 89 i (by decide), eq 90 i (by decide)]
      exact t4 i (by omega)
  · exact ⟨hy_F.rf, ht⟩
theorem ml_good_F {X : Nat → Nat → Bool} {t t1 : hy_T} (h : hy_F X t t1) (h0 : X 59 33 = false) (hX : ∀ r j, 80 ≤ r → r ≤ 84 → X r j = false) (hg : ml_good t) : ml_good t1 := by
  unfold ml_good ml_row
  rw [h 59 33 h0]
  refine ⟨hg.1, fun k hk => ?_⟩
  rw [h 80 k (hX 80 k (by decide) (by decide)), h 81 k (hX 81 k (by decide) (by decide)), h 82 k (hX 82 k (by decide) (by decide)), h 83 k (hX 83 k (by decide) (by decide)), h 84 k (hX 84 k (by decide) (by decide))]
  exact hg.2 k hk
def mk_madeN (t : hy_T) : Nat → Int × hy_T
  | 0 => (0, t)
  | k + 1 => if mk_can (mk_madeN t k).2 k = true then ((mk_madeN t k).1 + 1, mk_make (mk_madeN t k).2 k) else mk_madeN t k
theorem mk_madeN_s {t : hy_T} (hg : ml_good t) (ht : tr_ok t) : ∀ n : Nat, (n : Int) ≤ t 59 33 → hy_F stX t (mk_madeN t n).2 ∧ tr_ok (mk_madeN t n).2 ∧ ml_good (mk_madeN t n).2 ∧ (0 ≤ (mk_madeN t n).1 ∧ (mk_madeN t n).1 ≤ n)
  | 0, _ => ⟨hy_F.rf, ht, hg, by simp [mk_madeN]⟩
  | n + 1, hn => by
    obtain ⟨a1, a2, a3, a4⟩ := mk_madeN_s hg ht n (by omega)
    simp only [mk_madeN]
    split
    · have e : (mk_madeN t n).2 59 33 = t 59 33 := a1 59 33 rfl
      obtain ⟨b1, b2⟩ := mk_make_s (a3.2 n (by omega)) a2
      exact ⟨a1.tr' b1, b2, ml_good_F b1 rfl (fun r j h8 h9 => by simp [stX]; omega) a3, by dsimp only; omega⟩
    · exact ⟨a1, a2, a3, by omega⟩
abbrev ml_ntc (t : hy_T) (n : Int) : Prop := (1 ≤ n ∧ n ≤ 120) ∧ n ≤ t 59 9
def mk_jdN (t : hy_T) : Nat → Nat → Nat × hy_T
  | 0, k => (k, t)
  | m + 1, k => if mk_can t k = true then mk_jdN (mk_make t k) m (k + 1) else (k, t)
section NB
variable {sc : List Int32} {t : hy_T}
theorem c_M_canBe {k : Nat} (hk : k < 8) (hr : ml_row t k) : hy_Ct sc hm_M_canBe 3 [.inr (some 59), .inl (k : Int)] t (hy_e (some (hy_b (mk_can t k))) t) := by
  refine hy_mk_ct ok_M_canBe ck_M_canBe (Nat.le_of_ble_eq_true rfl) ?_
  have hc := hr.1
  have loop : mf_plain t (t 80 k) = true → t 59 34 ≠ 16 → ∀ (m : Nat), ∀ (q : Nat), m + q = 4 → mk_goN t k q = true → hy_W sc hm_M_canBe 3 17 [.inr (some 59), .inl (k : Int), .inl (t 80 k), .inl (q : Int)] [] t (hy_e (some (hy_b (mk_can t k))) t) := by
    intro hp h16 m
    have e0 : mk_can t k = mk_goN t k 4 := by unfold mk_can; rw [hp, decide_eq_true h16]; rfl
    rw [e0]
    induction m with
    | zero =>
      intro q hm hv
      obtain rfl : q = 4 := by omega
      refine hy_iload (i := 17) rfl rfl ?_
      refine hy_const (i := 18) rfl (by decide) ?_
      refine hy_ic_ge (i := 19) (tt := 60) rfl (fun zc1 => ?_) (fun zc1 => ?_)
      · refine hy_const (i := 60) rfl (by decide) ?_
        refine hy_zreturn (i := 61) rfl rfl (by first | decide | exact hy_b01 _) ?_
        exact ⟨congrArg some (by rw [hv]; rfl), rfl⟩
      · omega
    | succ m ih =>
      intro q hm hv
      have e1 : mk_goN t k (q + 1) = (!hz_b (t 81 k) q || (hz_b (t 62 (4 * t 80 k + q).toNat) (t 82 k) && !hz_b (t 62 (4 * t 80 k + q).toNat) (t 83 k))) := by simp only [mk_goN]; rw [hv, Bool.true_and]
      refine hy_iload (i := 17) rfl rfl ?_
      refine hy_const (i := 18) rfl (by decide) ?_
      refine hy_ic_ge (i := 19) (tt := 60) rfl (fun zc1 => ?_) (fun zc1 => ?_)
      · omega
      · refine hy_aload (i := 20) rfl rfl ?_
        refine hy_getr (i := 21) rfl rfl ?_
        refine hy_iload (i := 22) rfl rfl ?_
        refine hy_iald (i := 23) rfl rfl (by omega) (k := k) (by omega) ?_
        refine hy_iload (i := 24) rfl rfl ?_
        refine hy_cS2e (i := 25) rfl (by decide) mj_M_has (by decide) rfl (Nat.le_of_ble_eq_true rfl) (c_M_has) ?_
        refine hy_ib_ne (i := 26) (tt := 28) rfl (fun zc2 => ?_) (fun zc2 => ?_)
        · refine hy_aload (i := 28) rfl rfl ?_
          refine hy_getr (i := 29) rfl rfl ?_
          refine hy_const (i := 30) rfl (by decide) ?_
          refine hy_iload (i := 31) rfl rfl ?_
          refine hy_imul (i := 32) rfl (by omega) ?_
          refine hy_iload (i := 33) rfl rfl ?_
          refine hy_iadd (i := 34) rfl (by omega) ?_
          refine hy_iald (i := 35) rfl rfl (by omega) rfl ?_
          refine hy_aload (i := 36) rfl rfl ?_
          refine hy_getr (i := 37) rfl rfl ?_
          refine hy_iload (i := 38) rfl rfl ?_
          refine hy_iald (i := 39) rfl rfl (by omega) (k := k) (by omega) ?_
          refine hy_cS2e (i := 40) rfl (by decide) mj_M_has (by decide) rfl (Nat.le_of_ble_eq_true rfl) (c_M_has) ?_
          refine hy_ib_eq (i := 41) (tt := 56) rfl (fun zc3 => ?_) (fun zc3 => ?_)
          · refine hy_const (i := 56) rfl (by decide) ?_
            refine hy_zreturn (i := 57) rfl rfl (by first | decide | exact hy_b01 _) ?_
            exact ⟨congrArg some (by rw [mk_go_no (t := t) (k := k) 4 (q + 1) (by omega) (by rw [e1]; simp only [*]; rfl)]; rfl), rfl⟩
          · refine hy_aload (i := 42) rfl rfl ?_
            refine hy_getr (i := 43) rfl rfl ?_
            refine hy_const (i := 44) rfl (by decide) ?_
            refine hy_iload (i := 45) rfl rfl ?_
            refine hy_imul (i := 46) rfl (by omega) ?_
            refine hy_iload (i := 47) rfl rfl ?_
            refine hy_iadd (i := 48) rfl (by omega) ?_
            refine hy_iald (i := 49) rfl rfl (by omega) rfl ?_
            refine hy_aload (i := 50) rfl rfl ?_
            refine hy_getr (i := 51) rfl rfl ?_
            refine hy_iload (i := 52) rfl rfl ?_
            refine hy_iald (i := 53) rfl rfl (by omega) (k := k) (by omega) ?_
            refine hy_cS2e (i := 54) rfl (by decide) mj_M_has (by decide) rfl (Nat.le_of_ble_eq_true rfl) (c_M_has) ?_
            refine hy_ib_eq (i := 55) (tt := 58) rfl (fun zc4 => ?_) (fun zc4 => ?_)
            · refine hy_iinc (i := 58) rfl rfl (by omega) ?_
              refine hy_goto (i := 59) (tt := 17) rfl ?_
              exact ih (q + 1) (by omega) (by rw [e1]; simp only [*]; rfl)
            · refine hy_const (i := 56) rfl (by decide) ?_
              refine hy_zreturn (i := 57) rfl rfl (by first | decide | exact hy_b01 _) ?_
              exact ⟨congrArg some (by rw [mk_go_no (t := t) (k := k) 4 (q + 1) (by omega) (by rw [e1]; simp only [*]; rfl)]; rfl), rfl⟩
        · refine hy_goto (i := 27) (tt := 58) rfl ?_
          refine hy_iinc (i := 58) rfl rfl (by omega) ?_
          refine hy_goto (i := 59) (tt := 17) rfl ?_
          exact ih (q + 1) (by omega) (by rw [e1]; simp only [*]; rfl)
  refine hy_aload (i := 0) rfl rfl ?_
  refine hy_getr (i := 1) rfl rfl ?_
  refine hy_iload (i := 2) rfl rfl ?_
  refine hy_iald (i := 3) rfl rfl (by omega) (k := k) (by omega) ?_
  refine hy_istore (i := 4) rfl ?_
  refine hy_aload (i := 5) rfl rfl ?_
  refine hy_iload (i := 6) rfl rfl ?_
  refine hy_cV1e (i := 7) rfl mj_M_isPlain (by decide) rfl (Nat.le_of_ble_eq_true rfl) rfl rfl rfl (c_M_isPlain) ?_
  refine hy_ib_eq (i := 8) (tt := 13) rfl (fun zc1 => ?_) (fun zc1 => ?_)
  · refine hy_const (i := 13) rfl (by decide) ?_
    refine hy_zreturn (i := 14) rfl rfl (by first | decide | exact hy_b01 _) ?_
    exact ⟨congrArg some (by unfold mk_can; first | (rw [show mf_plain t (t 80 k) = false by assumption]; rfl) | (rw [decide_eq_false (fun h => h (by assumption)), Bool.and_false]; rfl)), rfl⟩
  · refine hy_aload (i := 9) rfl rfl ?_
    refine hy_get (i := 10) (fk := 34) rfl rfl rfl ?_
    refine hy_const (i := 11) rfl (by decide) ?_
    refine hy_ic_ne (i := 12) (tt := 15) rfl (fun zc2 => ?_) (fun zc2 => ?_)
    · refine hy_const (i := 15) rfl (by decide) ?_
      refine hy_istore (i := 16) rfl ?_
      exact loop (by assumption) (by assumption) 4 0 rfl rfl
    · refine hy_const (i := 13) rfl (by decide) ?_
      refine hy_zreturn (i := 14) rfl rfl (by first | decide | exact hy_b01 _) ?_
      exact ⟨congrArg some (by unfold mk_can; first | (rw [show mf_plain t (t 80 k) = false by assumption]; rfl) | (rw [decide_eq_false (fun h => h (by assumption)), Bool.and_false]; rfl)), rfl⟩
theorem c_M_makes {k : Nat} (hk : k < 8) (hr : ml_row t k) (hn : 0 ≤ t 59 34 ∧ t 59 34 ≤ 16) : hy_Ct sc hm_M_makes 4 [.inr (some 59), .inl (k : Int)] t (hy_e (some (hy_b (mk_can t k))) (mk_make t k)) := by
  refine hy_mk_ct ok_M_makes ck_M_makes (Nat.le_of_ble_eq_true rfl) ?_
  by_cases hc : mk_can t k = true
  · have hc2 := hc
    simp only [mk_can, Bool.and_eq_true, decide_eq_true_eq] at hc2
    have h1 : hy_F hvX t (mk_c1 t k) := mf_chN_F hr.1 t 4 (by omega)
    have h2 := mk_c2_F hr
    have lay : ∀ u, u = mk_c2 t k → hy_W sc hm_M_makes 4 41 [.inr (some 59), .inl (k : Int)] [] u (hy_e (some (hy_b (mk_can t k))) (mk_make t k)) := by
      intro u hu
      have e34 : u 59 34 = t 59 34 := by rw [hu]; exact h2 59 34 rfl
      have hu16 : 0 ≤ u 59 34 ∧ u 59 34 < 16 := by omega
      rw [hc, show mk_make t k = mk_lay u k by unfold mk_make; rw [if_pos hc, hu]]
      refine hy_aload (i := 41) rfl rfl ?_
      refine hy_getr (i := 42) rfl rfl ?_
      refine hy_aload (i := 43) rfl rfl ?_
      refine hy_get (i := 44) (fk := 34) rfl rfl rfl ?_
      refine hy_aload (i := 45) rfl rfl ?_
      refine hy_getr (i := 46) rfl rfl ?_
      refine hy_iload (i := 47) rfl rfl ?_
      refine hy_iald (i := 48) rfl rfl (by omega) (k := k) (by omega) ?_
      refine hy_iast (i := 49) rfl rfl (by exact hu16) (k := (u 59 34).toNat) rfl ?_
      refine hy_aload (i := 50) rfl rfl ?_
      refine hy_getr (i := 51) rfl rfl ?_
      refine hy_aload (i := 52) rfl rfl ?_
      refine hy_get (i := 53) (fk := 34) rfl rfl rfl ?_
      refine hy_aload (i := 54) rfl rfl ?_
      refine hy_getr (i := 55) rfl rfl ?_
      refine hy_iload (i := 56) rfl rfl ?_
      refine hy_iald (i := 57) rfl rfl (by omega) (k := k) (by omega) ?_
      refine hy_iast (i := 58) rfl rfl (by exact hu16) (k := (u 59 34).toNat) rfl ?_
      refine hy_aload (i := 59) rfl rfl ?_
      refine hy_getr (i := 60) rfl rfl ?_
      refine hy_aload (i := 61) rfl rfl ?_
      refine hy_get (i := 62) (fk := 34) rfl rfl rfl ?_
      refine hy_aload (i := 63) rfl rfl ?_
      refine hy_getr (i := 64) rfl rfl ?_
      refine hy_iload (i := 65) rfl rfl ?_
      refine hy_iald (i := 66) rfl rfl (by omega) (k := k) (by omega) ?_
      refine hy_iast (i := 67) rfl rfl (by exact hu16) (k := (u 59 34).toNat) rfl ?_
      refine hy_aload (i := 68) rfl rfl ?_
      refine hy_getr (i := 69) rfl rfl ?_
      refine hy_aload (i := 70) rfl rfl ?_
      refine hy_get (i := 71) (fk := 34) rfl rfl rfl ?_
      refine hy_aload (i := 72) rfl rfl ?_
      refine hy_getr (i := 73) rfl rfl ?_
      refine hy_iload (i := 74) rfl rfl ?_
      refine hy_iald (i := 75) rfl rfl (by omega) (k := k) (by omega) ?_
      refine hy_iast (i := 76) rfl rfl (by exact hu16) (k := (u 59 34).toNat) rfl ?_
      refine hy_aload (i := 77) rfl rfl ?_
      refine hy_getr (i := 78) rfl rfl ?_
      refine hy_aload (i := 79) rfl rfl ?_
      refine hy_get (i := 80) (fk := 34) rfl rfl rfl ?_
      refine hy_aload (i := 81) rfl rfl ?_
      refine hy_getr (i := 82) rfl rfl ?_
      refine hy_iload (i := 83) rfl rfl ?_
      refine hy_iald (i := 84) rfl rfl (by omega) (k := k) (by omega) ?_
      refine hy_iast (i := 85) rfl rfl (by exact hu16) (k := (u 59 34).toNat) rfl ?_
      refine hy_aload (i := 86) rfl rfl ?_
      refine hy_getr (i := 87) rfl rfl ?_
      refine hy_aload (i := 88) rfl rfl ?_
      refine hy_get (i := 89) (fk := 34) rfl rfl rfl ?_
      refine hy_aload (i := 90) rfl rfl ?_
      refine hy_get (i := 91) (fk := 2) rfl rfl rfl ?_
      refine hy_iast (i := 92) rfl rfl (by exact hu16) (k := (u 59 34).toNat) rfl ?_
      refine hy_aload (i := 93) rfl rfl ?_
      refine hy_aload (i := 94) rfl rfl ?_
      refine hy_get (i := 95) (fk := 34) rfl rfl rfl ?_
      refine hy_const (i := 96) rfl (by decide) ?_
      refine hy_iadd (i := 97) rfl (by show -2147483648 ≤ u 59 34 + 1 ∧ u 59 34 + 1 ≤ 2147483647; omega) ?_
      refine hy_put (i := 98) (fk := 34) rfl rfl rfl rfl ?_
      refine hy_const (i := 99) rfl (by decide) ?_
      refine hy_zreturn (i := 100) rfl rfl (by first | decide | exact hy_b01 _) ?_
      exact ⟨rfl, rfl⟩
    have c80 : mk_c1 t k 80 k = t 80 k := h1 80 k rfl
    have hcc := hr.1
    by_cases h84 : mk_c1 t k 84 k = 0
    · have eL := lay _ (show mf_chN (mk_c1 t k) (mk_c1 t k 80 k) (mk_c1 t k 81 k) (mk_c1 t k 82 k) 0 4 = mk_c2 t k by unfold mk_c2; rw [if_pos h84])
      refine hy_aload (i := 0) rfl rfl ?_
      refine hy_iload (i := 1) rfl rfl ?_
      refine hy_cV1e (i := 2) rfl mj_M_canBe (by decide) rfl (Nat.le_of_ble_eq_true rfl) rfl rfl rfl (c_M_canBe (by omega) (by assumption)) ?_
      refine hy_ib_ne (i := 3) (tt := 6) rfl (fun zc1 => ?_) (fun zc1 => ?_)
      · refine hy_aload (i := 6) rfl rfl ?_
        refine hy_aload (i := 7) rfl rfl ?_
        refine hy_getr (i := 8) rfl rfl ?_
        refine hy_iload (i := 9) rfl rfl ?_
        refine hy_iald (i := 10) rfl rfl (by omega) (k := k) (by omega) ?_
        refine hy_aload (i := 11) rfl rfl ?_
        refine hy_getr (i := 12) rfl rfl ?_
        refine hy_iload (i := 13) rfl rfl ?_
        refine hy_iald (i := 14) rfl rfl (by omega) (k := k) (by omega) ?_
        refine hy_aload (i := 15) rfl rfl ?_
        refine hy_getr (i := 16) rfl rfl ?_
        refine hy_iload (i := 17) rfl rfl ?_
        refine hy_iald (i := 18) rfl rfl (by omega) (k := k) (by omega) ?_
        refine hy_const (i := 19) rfl (by decide) ?_
        refine hy_cV4v (i := 20) rfl mj_M_changes (by decide) rfl (Nat.le_of_ble_eq_true rfl) rfl rfl rfl (c_M_changes (by omega)) ?_
        refine hy_aload (i := 21) rfl rfl ?_
        refine hy_getr (i := 22) rfl rfl ?_
        refine hy_iload (i := 23) rfl rfl ?_
        refine hy_iald (i := 24) rfl rfl (by omega) (k := k) (by omega) ?_
        refine hy_if_ne (i := 25) (tt := 41) rfl (fun zc2 => ?_) (fun zc2 => ?_)
        · exact absurd h84 (by assumption)
        · refine hy_aload (i := 26) rfl rfl ?_
          refine hy_aload (i := 27) rfl rfl ?_
          refine hy_getr (i := 28) rfl rfl ?_
          refine hy_iload (i := 29) rfl rfl ?_
          refine hy_iald (i := 30) rfl rfl (by omega) (k := k) (by omega) ?_
          refine hy_aload (i := 31) rfl rfl ?_
          refine hy_getr (i := 32) rfl rfl ?_
          refine hy_iload (i := 33) rfl rfl ?_
          refine hy_iald (i := 34) rfl rfl (by omega) (k := k) (by omega) ?_
          refine hy_aload (i := 35) rfl rfl ?_
          refine hy_getr (i := 36) rfl rfl ?_
          refine hy_iload (i := 37) rfl rfl ?_
          refine hy_iald (i := 38) rfl rfl (by omega) (k := k) (by omega) ?_
          refine hy_const (i := 39) rfl (by decide) ?_
          refine hy_cV4v (i := 40) rfl mj_M_changes (by decide) rfl (Nat.le_of_ble_eq_true rfl) rfl rfl rfl (c_M_changes (t := mk_c1 t k) (c := mk_c1 t k 80 k) (by omega)) ?_
          exact eL
      · exact bb_abs hc zc1
    · have eL := lay _ (show mk_c1 t k = mk_c2 t k by unfold mk_c2; rw [if_neg h84])
      refine hy_aload (i := 0) rfl rfl ?_
      refine hy_iload (i := 1) rfl rfl ?_
      refine hy_cV1e (i := 2) rfl mj_M_canBe (by decide) rfl (Nat.le_of_ble_eq_true rfl) rfl rfl rfl (c_M_canBe (by omega) (by assumption)) ?_
      refine hy_ib_ne (i := 3) (tt := 6) rfl (fun zc1 => ?_) (fun zc1 => ?_)
      · refine hy_aload (i := 6) rfl rfl ?_
        refine hy_aload (i := 7) rfl rfl ?_
        refine hy_getr (i := 8) rfl rfl ?_
        refine hy_iload (i := 9) rfl rfl ?_
        refine hy_iald (i := 10) rfl rfl (by omega) (k := k) (by omega) ?_
        refine hy_aload (i := 11) rfl rfl ?_
        refine hy_getr (i := 12) rfl rfl ?_
        refine hy_iload (i := 13) rfl rfl ?_
        refine hy_iald (i := 14) rfl rfl (by omega) (k := k) (by omega) ?_
        refine hy_aload (i := 15) rfl rfl ?_
        refine hy_getr (i := 16) rfl rfl ?_
        refine hy_iload (i := 17) rfl rfl ?_
        refine hy_iald (i := 18) rfl rfl (by omega) (k := k) (by omega) ?_
        refine hy_const (i := 19) rfl (by decide) ?_
        refine hy_cV4v (i := 20) rfl mj_M_changes (by decide) rfl (Nat.le_of_ble_eq_true rfl) rfl rfl rfl (c_M_changes (by omega)) ?_
        refine hy_aload (i := 21) rfl rfl ?_
        refine hy_getr (i := 22) rfl rfl ?_
        refine hy_iload (i := 23) rfl rfl ?_
        refine hy_iald (i := 24) rfl rfl (by omega) (k := k) (by omega) ?_
        refine hy_if_ne (i := 25) (tt := 41) rfl (fun zc2 => ?_) (fun zc2 => ?_)
        · exact eL
        · exact absurd (by assumption) h84
      · exact bb_abs hc zc1
  · rw [Bool.not_eq_true] at hc
    rw [hc, show mk_make t k = t by unfold mk_make; rw [hc]; rfl]
    refine hy_aload (i := 0) rfl rfl ?_
    refine hy_iload (i := 1) rfl rfl ?_
    refine hy_cV1e (i := 2) rfl mj_M_canBe (by decide) rfl (Nat.le_of_ble_eq_true rfl) rfl rfl rfl (c_M_canBe (by omega) (by assumption)) ?_
    refine hy_ib_ne (i := 3) (tt := 6) rfl (fun zc1 => ?_) (fun zc1 => ?_)
    · exact bb_abs zc1 hc
    · refine hy_const (i := 4) rfl (by decide) ?_
      refine hy_zreturn (i := 5) rfl rfl (by first | decide | exact hy_b01 _) ?_
      exact ⟨rfl, rfl⟩
theorem c_M_treaties {n : Int} (ht : tr_ok t) : hy_Ct sc hm_M_treaties 5 [.inr (some 59), .inl n] t (hy_e (some (if ml_ntc t n then (if (ml_lines t n).1 = true then (mk_madeN (ml_lines t n).2 ((ml_lines t n).2 59 33).toNat).1 else (ml_lines t n).2 59 12) else -1)) (if ml_ntc t n then (if (ml_lines t n).1 = true then (mk_madeN (ml_lines t n).2 ((ml_lines t n).2 59 33).toNat).2 else (ml_lines t n).2) else t)) := by
  refine hy_mk_ct ok_M_treaties ck_M_treaties (Nat.le_of_ble_eq_true rfl) ?_
  by_cases hq : ml_ntc t n
  · rw [if_pos hq, if_pos hq]
    obtain ⟨hg, hF⟩ := ml_lines_s t (n := n) (by omega)
    have ht1 := tr_ok_F hF (fun r j h => by revert h; simp [stX, mlsX]; omega) ht
    generalize hG : ml_lines t n = G at hg hF ht1
    have loop : G.1 = true → ∀ (m : Nat), ∀ (k : Nat), m + k = (G.2 59 33).toNat → hy_W sc hm_M_treaties 5 22 [.inr (some 59), .inl n, .inl (mk_madeN G.2 k).1, .inl (k : Int)] [] (mk_madeN G.2 k).2 (hy_e (some (mk_madeN G.2 (G.2 59 33).toNat).1) (mk_madeN G.2 (G.2 59 33).toNat).2) := by
      intro hx m
      have hg1 := hg.1
      induction m with
      | zero =>
        intro k hm
        obtain rfl : k = (G.2 59 33).toNat := by omega
        obtain ⟨a1, a2, a3, a4⟩ := mk_madeN_s hg ht1 (G.2 59 33).toNat (by omega)
        have e : (mk_madeN G.2 (G.2 59 33).toNat).2 59 33 = G.2 59 33 := a1 59 33 rfl
        refine hy_iload (i := 22) rfl rfl ?_
        refine hy_aload (i := 23) rfl rfl ?_
        refine hy_get (i := 24) (fk := 33) rfl rfl rfl ?_
        refine hy_ic_ge (i := 25) (tt := 38) rfl (fun zc1 => ?_) (fun zc1 => ?_)
        · refine hy_iload (i := 38) rfl rfl ?_
          refine hy_ireturn (i := 39) rfl rfl ?_
          exact ⟨rfl, rfl⟩
        · omega
      | succ m ih =>
        intro k hm
        obtain ⟨a1, a2, a3, a4⟩ := mk_madeN_s hg ht1 k (by omega)
        have e : (mk_madeN G.2 k).2 59 33 = G.2 59 33 := a1 59 33 rfl
        have hr := a3.2 k (by omega)
        have hn := a2.1
        have e1 : mk_madeN G.2 (k + 1) = if mk_can (mk_madeN G.2 k).2 k = true then ((mk_madeN G.2 k).1 + 1, mk_make (mk_madeN G.2 k).2 k) else mk_madeN G.2 k := rfl
        have ih' := ih (k + 1) (by omega)
        rw [e1] at ih'
        have e2 : mk_can (mk_madeN G.2 k).2 k = false → mk_make (mk_madeN G.2 k).2 k = (mk_madeN G.2 k).2 := fun h => by unfold mk_make; rw [h]; rfl
        refine hy_iload (i := 22) rfl rfl ?_
        refine hy_aload (i := 23) rfl rfl ?_
        refine hy_get (i := 24) (fk := 33) rfl rfl rfl ?_
        refine hy_ic_ge (i := 25) (tt := 38) rfl (fun zc1 => ?_) (fun zc1 => ?_)
        · omega
        · refine hy_iload (i := 26) rfl rfl ?_
          refine hy_aload (i := 27) rfl rfl ?_
          refine hy_iload (i := 28) rfl rfl ?_
          refine hy_cV1e (i := 29) rfl mj_M_makes (by decide) rfl (Nat.le_of_ble_eq_true rfl) rfl rfl rfl (c_M_makes (k := k) (by omega) hr hn) ?_
          refine hy_ib_eq (i := 30) (tt := 33) rfl (fun zc2 => ?_) (fun zc2 => ?_)
          · refine hy_const (i := 33) rfl (by decide) ?_
            refine hy_iadd (i := 34) rfl (by omega) ?_
            refine hy_istore (i := 35) rfl ?_
            refine hy_iinc (i := 36) rfl rfl (by omega) ?_
            refine hy_goto (i := 37) (tt := 22) rfl ?_
            first | (rw [if_pos (by assumption)] at ih'; exact ih') | (rw [if_neg (fun h => bb_abs h (by assumption))] at ih'; rw [e2 (by assumption), Int.add_zero]; exact ih')
          · refine hy_const (i := 31) rfl (by decide) ?_
            refine hy_goto (i := 32) (tt := 34) rfl ?_
            refine hy_iadd (i := 34) rfl (by omega) ?_
            refine hy_istore (i := 35) rfl ?_
            refine hy_iinc (i := 36) rfl rfl (by omega) ?_
            refine hy_goto (i := 37) (tt := 22) rfl ?_
            first | (rw [if_pos (by assumption)] at ih'; exact ih') | (rw [if_neg (fun h => bb_abs h (by assumption))] at ih'; rw [e2 (by assumption), Int.add_zero]; exact ih')
    refine hy_iload (i := 0) rfl rfl ?_
    refine hy_const (i := 1) rfl (by decide) ?_
    refine hy_const (i := 2) rfl (by decide) ?_
    refine hy_cS3e (i := 3) rfl (by decide) mj_M_in (by decide) rfl (Nat.le_of_ble_eq_true rfl) (c_M_in) ?_
    refine hy_ib_eq (i := 4) (tt := 9) rfl (fun zc1 => ?_) (fun zc1 => ?_)
    · simp only [decide_eq_false_iff_not] at zc1; omega
    · refine hy_iload (i := 5) rfl rfl ?_
      refine hy_aload (i := 6) rfl rfl ?_
      refine hy_get (i := 7) (fk := 9) rfl rfl rfl ?_
      refine hy_ic_le (i := 8) (tt := 11) rfl (fun zc2 => ?_) (fun zc2 => ?_)
      · refine hy_aload (i := 11) rfl rfl ?_
        refine hy_iload (i := 12) rfl rfl ?_
        refine hy_cV1e (i := 13) rfl mj_M_readsLines (by decide) rfl (Nat.le_of_ble_eq_true rfl) rfl rfl rfl (c_M_readsLines (by omega)) ?_
        rw [hG]
        refine hy_ib_ne (i := 14) (tt := 18) rfl (fun zc3 => ?_) (fun zc3 => ?_)
        · refine hy_const (i := 18) rfl (by decide) ?_
          refine hy_istore (i := 19) rfl ?_
          refine hy_const (i := 20) rfl (by decide) ?_
          refine hy_istore (i := 21) rfl ?_
          rw [if_pos (by assumption), if_pos (by assumption)]; exact loop (by assumption) (G.2 59 33).toNat 0 rfl
        · refine hy_aload (i := 15) rfl rfl ?_
          refine hy_get (i := 16) (fk := 12) rfl rfl rfl ?_
          refine hy_ireturn (i := 17) rfl rfl ?_
          exact ⟨by rw [if_neg (fun h => bb_abs h (by assumption))], by rw [if_neg (fun h => bb_abs h (by assumption))]⟩
      · omega
  · rw [if_neg hq, if_neg hq]
    refine hy_iload (i := 0) rfl rfl ?_
    refine hy_const (i := 1) rfl (by decide) ?_
    refine hy_const (i := 2) rfl (by decide) ?_
    refine hy_cS3e (i := 3) rfl (by decide) mj_M_in (by decide) rfl (Nat.le_of_ble_eq_true rfl) (c_M_in) ?_
    refine hy_ib_eq (i := 4) (tt := 9) rfl (fun zc1 => ?_) (fun zc1 => ?_)
    · refine hy_const (i := 9) rfl (by decide) ?_
      refine hy_ireturn (i := 10) rfl rfl ?_
      exact ⟨rfl, rfl⟩
    · refine hy_iload (i := 5) rfl rfl ?_
      refine hy_aload (i := 6) rfl rfl ?_
      refine hy_get (i := 7) (fk := 9) rfl rfl rfl ?_
      refine hy_ic_le (i := 8) (tt := 11) rfl (fun zc2 => ?_) (fun zc2 => ?_)
      · exfalso; simp only [decide_eq_true_eq] at zc1; exact hq ⟨by omega, by omega⟩
      · refine hy_const (i := 9) rfl (by decide) ?_
        refine hy_ireturn (i := 10) rfl rfl ?_
        exact ⟨rfl, rfl⟩
end NB
/-! the model: lines judged, days -/
theorem tr_ok_of {t t1 : hy_T} (h34 : t1 59 34 = t 59 34) (h2 : 0 ≤ t1 59 2 ∧ t1 59 2 ≤ 9999) (h1 : 0 ≤ t1 59 1 ∧ t1 59 1 ≤ 65535) (hr : ∀ i : Nat, i < 16 → tr_row t i → tr_row t1 i) (hk : tr_ok t) : tr_ok t1 := by
  obtain ⟨k1, k2, k3, k4⟩ := hk
  refine ⟨by omega, h2, h1, fun i hi => hr i (by omega) (k4 i (by omega))⟩
theorem tr_row_e {t t1 : hy_T} {i : Nat} (h : ∀ r, 85 ≤ r → r ≤ 90 → t1 r i = t r i) (hr : tr_row t i) : tr_row t1 i := by
  unfold tr_row
  rw [h 85 (by decide) (by decide), h 86 (by decide) (by decide), h 87 (by decide) (by decide), h 88 (by decide) (by decide), h 89 (by decide) (by decide), h 90 (by decide) (by decide)]
  exact hr
theorem mk_jdN_s : ∀ (m k : Nat) {t : hy_T}, ml_good t → tr_ok t → (m + k : Int) ≤ t 59 33 → hy_F stX t (mk_jdN t m k).2 ∧ tr_ok (mk_jdN t m k).2
  | 0, k, t, hg, ht, hm => ⟨hy_F.rf, ht⟩
  | m + 1, k, t, hg, ht, hm => by
    simp only [mk_jdN]
    split
    · obtain ⟨b1, b2⟩ := mk_make_s (hg.2 k (by omega)) ht
      have e : mk_make t k 59 33 = t 59 33 := b1 59 33 rfl
      obtain ⟨c1, c2⟩ := mk_jdN_s m (k + 1) (t := mk_make t k) (ml_good_F b1 rfl (fun r j h8 h9 => by simp [stX]; omega) hg) b2 (by omega)
      exact ⟨b1.tr' c1, c2⟩
    · exact ⟨hy_F.rf, ht⟩
abbrev jdX : Nat → Nat → Bool := fun r j => mlsX r j || mfaX r j
def mk_jd (t : hy_T) : Nat × hy_T := mk_jdN (mf_begins t) (t 59 33).toNat 0
section NC
variable {sc : List Int32} {t : hy_T}
theorem c_M_judged {n : Int} (ht : tr_ok t) : hy_Ct sc hm_M_judged 5 [.inr (some 59), .inl n] t (fun r t' => r = some (if ml_ntc t n then (if (ml_lines t n).1 = true then ((mk_jd (ml_lines t n).2).1 : Int) else (ml_lines t n).2 59 12) else -1) ∧ hy_F jdX t t' ∧ t' 59 9 = if ml_ntc t n then 0 else t 59 9) := by
  refine hy_mk_ct ok_M_judged ck_M_judged (Nat.le_of_ble_eq_true rfl) ?_
  by_cases hq : ml_ntc t n
  · simp only [if_pos hq]
    obtain ⟨hg, hF⟩ := ml_lines_s t (n := n) (by omega)
    have h9 : (ml_lines t n).2 59 9 = 0 := rfl
    have ht1 := tr_ok_F hF (fun r j h => by revert h; simp [stX, mlsX]; omega) ht
    generalize hG : ml_lines t n = G at hg hF ht1 h9
    obtain ⟨ha, hB⟩ := begins_as G.2
    have hgb := ml_good_F hB rfl (fun r j h8 h9 => by simp [mfaX]; omega) hg
    have htb := tr_ok_F hB (fun r j h => by revert h; simp [stX, mfaX]; omega) ht1
    have loop : G.1 = true → ∀ (m : Nat), ∀ (k : Nat) (u : hy_T), (m + k : Int) = u 59 33 → ml_good u → tr_ok u → hy_F stX (mf_begins G.2) u → mk_jdN u m k = mk_jd G.2 → hy_W sc hm_M_judged 5 22 [.inr (some 59), .inl n, .inl (k : Int)] [] u (fun r t' => r = some ((mk_jd G.2).1 : Int) ∧ hy_F jdX t t' ∧ t' 59 9 = 0) := by
      intro hx m
      have fin : ∀ (k : Nat) (u : hy_T), hy_F stX (mf_begins G.2) u → (mk_jd G.2).1 = k → hy_W sc hm_M_judged 5 35 [.inr (some 59), .inl n, .inl (k : Int)] [] u (fun r t' => r = some ((mk_jd G.2).1 : Int) ∧ hy_F jdX t t' ∧ t' 59 9 = 0) := by
        intro k u hu hv
        have hau : as_of G.2 u := as_of_F hu (fun r j h => by revert h; simp [mfaX, stX]; omega) ha
        refine hy_aload (i := 35) rfl rfl ?_
        refine hy_cV0v (i := 36) rfl mj_M_again (by decide) rfl (Nat.le_of_ble_eq_true rfl) rfl rfl rfl (c_M_again) ?_
        refine hy_iload (i := 37) rfl rfl ?_
        refine hy_ireturn (i := 38) rfl rfl ?_
        refine ⟨congrArg some (by rw [hv]), ?_, ?_⟩
        · refine (hF.w (fun r j q => by revert q; simp [jdX, mlsX]; omega)).tr' (again_back hau (fun r j hX hs => ?_))
          rw [hu r j hs]
          exact hB r j (by revert hX; simp only [jdX, Bool.or_eq_false_iff]; exact fun h => h.2)
        · rw [again_F u 59 9 rfl, hu 59 9 rfl, hB 59 9 rfl]
          exact h9
      induction m with
      | zero =>
        intro k u hm hgu htu hu hv
        refine hy_iload (i := 22) rfl rfl ?_
        refine hy_aload (i := 23) rfl rfl ?_
        refine hy_get (i := 24) (fk := 33) rfl rfl rfl ?_
        refine hy_ic_ge (i := 25) (tt := 35) rfl (fun zc1 => ?_) (fun zc1 => ?_)
        · exact fin k u hu (by rw [← hv]; rfl)
        · omega
      | succ m ih =>
        intro k u hm hgu htu hu hv
        have hr := hgu.2 k (by omega)
        have hg1 := hgu.1
        have hn := htu.1
        obtain ⟨b1, b2⟩ := mk_make_s hr htu
        have e : mk_make u k 59 33 = u 59 33 := b1 59 33 rfl
        simp only [mk_jdN] at hv
        by_cases hc : mk_can u k = true
        · rw [if_pos hc] at hv
          refine hy_iload (i := 22) rfl rfl ?_
          refine hy_aload (i := 23) rfl rfl ?_
          refine hy_get (i := 24) (fk := 33) rfl rfl rfl ?_
          refine hy_ic_ge (i := 25) (tt := 35) rfl (fun zc1 => ?_) (fun zc1 => ?_)
          · omega
          · refine hy_aload (i := 26) rfl rfl ?_
            refine hy_iload (i := 27) rfl rfl ?_
            refine hy_cV1e (i := 28) rfl mj_M_makes (by decide) rfl (Nat.le_of_ble_eq_true rfl) rfl rfl rfl (c_M_makes (k := k) (by omega) hr hn) ?_
            refine hy_ib_eq (i := 29) (tt := 35) rfl (fun zc2 => ?_) (fun zc2 => ?_)
            · exact bb_abs hc (by assumption)
            · refine hy_iload (i := 30) rfl rfl ?_
              refine hy_const (i := 31) rfl (by decide) ?_
              refine hy_iadd (i := 32) rfl (by omega) ?_
              refine hy_istore (i := 33) rfl ?_
              refine hy_goto (i := 34) (tt := 22) rfl ?_
              exact ih (k + 1) _ (by omega) (ml_good_F b1 rfl (fun r j h8 h9 => by simp [stX]; omega) hgu) b2 (hu.tr' b1) hv
        · rw [if_neg hc] at hv
          have e2 : mk_make u k = u := by unfold mk_make; rw [if_neg hc]
          refine hy_iload (i := 22) rfl rfl ?_
          refine hy_aload (i := 23) rfl rfl ?_
          refine hy_get (i := 24) (fk := 33) rfl rfl rfl ?_
          refine hy_ic_ge (i := 25) (tt := 35) rfl (fun zc1 => ?_) (fun zc1 => ?_)
          · omega
          · refine hy_aload (i := 26) rfl rfl ?_
            refine hy_iload (i := 27) rfl rfl ?_
            refine hy_cV1e (i := 28) rfl mj_M_makes (by decide) rfl (Nat.le_of_ble_eq_true rfl) rfl rfl rfl (c_M_makes (k := k) (by omega) hr hn) ?_
            refine hy_ib_eq (i := 29) (tt := 35) rfl (fun zc2 => ?_) (fun zc2 => ?_)
            · rw [e2]; exact fin k u hu (by rw [← hv])
            · exact absurd (by assumption) hc
    have eb : mf_begins G.2 59 33 = G.2 59 33 := hB 59 33 rfl
    have hg1 := hg.1
    refine hy_iload (i := 0) rfl rfl ?_
    refine hy_const (i := 1) rfl (by decide) ?_
    refine hy_const (i := 2) rfl (by decide) ?_
    refine hy_cS3e (i := 3) rfl (by decide) mj_M_in (by decide) rfl (Nat.le_of_ble_eq_true rfl) (c_M_in) ?_
    refine hy_ib_eq (i := 4) (tt := 9) rfl (fun zc1 => ?_) (fun zc1 => ?_)
    · simp only [decide_eq_false_iff_not] at zc1; omega
    · refine hy_iload (i := 5) rfl rfl ?_
      refine hy_aload (i := 6) rfl rfl ?_
      refine hy_get (i := 7) (fk := 9) rfl rfl rfl ?_
      refine hy_ic_le (i := 8) (tt := 11) rfl (fun zc2 => ?_) (fun zc2 => ?_)
      · refine hy_aload (i := 11) rfl rfl ?_
        refine hy_iload (i := 12) rfl rfl ?_
        refine hy_cV1e (i := 13) rfl mj_M_readsLines (by decide) rfl (Nat.le_of_ble_eq_true rfl) rfl rfl rfl (c_M_readsLines (by omega)) ?_
        rw [hG]
        refine hy_ib_ne (i := 14) (tt := 18) rfl (fun zc3 => ?_) (fun zc3 => ?_)
        · refine hy_aload (i := 18) rfl rfl ?_
          refine hy_cV0v (i := 19) rfl mj_M_begins (by decide) rfl (Nat.le_of_ble_eq_true rfl) rfl rfl rfl (c_M_begins) ?_
          refine hy_const (i := 20) rfl (by decide) ?_
          refine hy_istore (i := 21) rfl ?_
          rw [if_pos (by assumption)]; exact loop (by assumption) (G.2 59 33).toNat 0 _ (by omega) hgb htb hy_F.rf rfl
        · refine hy_aload (i := 15) rfl rfl ?_
          refine hy_get (i := 16) (fk := 12) rfl rfl rfl ?_
          refine hy_ireturn (i := 17) rfl rfl ?_
          exact ⟨by rw [if_neg (fun h => bb_abs h (by assumption))], hF.w (fun r j q => by revert q; simp [jdX, mlsX]; omega), h9⟩
      · omega
  · simp only [if_neg hq]
    refine hy_iload (i := 0) rfl rfl ?_
    refine hy_const (i := 1) rfl (by decide) ?_
    refine hy_const (i := 2) rfl (by decide) ?_
    refine hy_cS3e (i := 3) rfl (by decide) mj_M_in (by decide) rfl (Nat.le_of_ble_eq_true rfl) (c_M_in) ?_
    refine hy_ib_eq (i := 4) (tt := 9) rfl (fun zc1 => ?_) (fun zc1 => ?_)
    · refine hy_const (i := 9) rfl (by decide) ?_
      refine hy_ireturn (i := 10) rfl rfl ?_
      exact ⟨rfl, hy_F.rf, rfl⟩
    · refine hy_iload (i := 5) rfl rfl ?_
      refine hy_aload (i := 6) rfl rfl ?_
      refine hy_get (i := 7) (fk := 9) rfl rfl rfl ?_
      refine hy_ic_le (i := 8) (tt := 11) rfl (fun zc2 => ?_) (fun zc2 => ?_)
      · exfalso; simp only [decide_eq_true_eq] at zc1; exact hq ⟨by omega, by omega⟩
      · refine hy_const (i := 9) rfl (by decide) ?_
        refine hy_ireturn (i := 10) rfl rfl ?_
        exact ⟨rfl, hy_F.rf, rfl⟩
end NC
theorem lw_in : ∀ w : Nat, w < 16 → 1 ≤ w → 0 ≤ sp_lowN (w : Int) 4 0 ∧ sp_lowN (w : Int) 4 0 < 4 := by decide +kernel
theorem lw_in' {w : Int} (h : 1 ≤ w ∧ w ≤ 15) : 0 ≤ sp_lowN w 4 0 ∧ sp_lowN w 4 0 < 4 := by
  have := lw_in w.toNat (by omega) (by omega)
  rw [show ((w.toNat : Nat) : Int) = w by omega] at this
  exact this
def mb_br (t : hy_T) (i : Nat) : Int := mb_amt t (mq_V t (t 87 i) (t 85 i) (sp_lowN (t 86 i) 4 0) 0 0 0 (t 59 2 - t 90 i)) 98 10
def me_e0 (t : hy_T) (i : Nat) : hy_T := if t 59 58 = 0 then hy_up (hy_up t 59 59 (t 59 2)) 59 60 (t 87 i) else t
def me_e1 (t : hy_T) (i : Nat) : hy_T := hy_up (me_e0 t i) 59 58 (me_e0 t i 59 58 + 1)
def me_e2 (u : hy_T) (i : Nat) : hy_T := mf_chN u (u 85 i) (u 86 i) (u 88 i) 0 4
def me_e3 (u : hy_T) (i : Nat) : hy_T := mf_chN u (u 85 i) (u 86 i) (u 87 i) 1 4
def me_e4 (u : hy_T) : hy_T := hy_up u 59 34 (u 59 34 - 1)
def me_sh1 (t : hy_T) (k : Nat) : hy_T :=
  let a := hy_up t 85 k (t 85 (k + 1))
  let b := hy_up a 86 k (a 86 (k + 1))
  let c := hy_up b 87 k (b 87 (k + 1))
  let d := hy_up c 88 k (c 88 (k + 1))
  let e := hy_up d 89 k (d 89 (k + 1))
  hy_up e 90 k (e 90 (k + 1))
def me_shN : Nat → Nat → hy_T → hy_T
  | 0, _, t => t
  | n + 1, k, t => me_shN n (k + 1) (me_sh1 t k)
def me_pre (t : hy_T) (i : Nat) : hy_T := me_e4 (me_e3 (me_e2 (me_e1 t i) i) i)
def me_end (t : hy_T) (i : Nat) : hy_T := me_shN ((t 59 34).toNat - 1 - i) i (me_pre t i)
abbrev enX : Nat → Nat → Bool := fun r j => hvX r j || mftX r j || (r == 59 && (j == 34 || j == 58 || j == 59 || j == 60))
theorem me_e0_F (t : hy_T) (i : Nat) : hy_F (fun r j => r == 59 && (j == 59 || j == 60)) t (me_e0 t i) := by
  unfold me_e0
  split
  · exact (hy_F.rf.up rfl).up rfl
  · exact hy_F.rf
theorem me_e1_F (t : hy_T) (i : Nat) : hy_F (fun r j => r == 59 && (j == 58 || j == 59 || j == 60)) t (me_e1 t i) :=
  ((me_e0_F t i).w (fun r j q => by revert q; simp; omega)).up rfl
theorem me_pre_F {t : hy_T} {i : Nat} (hr : tr_row t i) : hy_F enX t (me_pre t i) := by
  have h1 := me_e1_F t i
  have r1 : ∀ r j, r ≠ 59 → me_e1 t i r j = t r j := fun r j h => h1 r j (by simp; omega)
  have h2 : hy_F hvX (me_e1 t i) (me_e2 (me_e1 t i) i) := mf_chN_F (by rw [r1 85 i (by decide)]; exact hr.1) _ 4 (by omega)
  have h3 : hy_F hvX (me_e2 (me_e1 t i) i) (me_e3 (me_e2 (me_e1 t i) i) i) := mf_chN_F (by rw [h2 85 i rfl, r1 85 i (by decide)]; exact hr.1) _ 4 (by omega)
  exact (((h1.w (fun r j q => by revert q; simp [enX]; omega)).tr' (h2.w (fun r j q => by revert q; simp [enX, hvX]; omega))).tr' (h3.w (fun r j q => by revert q; simp [enX, hvX]; omega))).up rfl
theorem me_sh1_F (t : hy_T) {k : Nat} (hk : k < 16) : hy_F mftX t (me_sh1 t k) := by
  unfold me_sh1
  exact (((((hy_F.rf.up (by simp [mftX]; omega)).up (by simp [mftX]; omega)).up (by simp [mftX]; omega)).up (by simp [mftX]; omega)).up (by simp [mftX]; omega)).up (by simp [mftX]; omega)
theorem me_sh1_v (t : hy_T) (k : Nat) {r : Nat} (h8 : 85 ≤ r) (h9 : r ≤ 90) (i : Nat) : me_sh1 t k r i = if i = k then t r (k + 1) else t r i := by
  rcases (show r = 85 ∨ r = 86 ∨ r = 87 ∨ r = 88 ∨ r = 89 ∨ r = 90 by omega) with rfl | rfl | rfl | rfl | rfl | rfl <;> simp [me_sh1, hy_up]
theorem me_shN_F : ∀ (n k : Nat) (t : hy_T), n + k ≤ 16 → hy_F mftX t (me_shN n k t)
  | 0, _, _, _ => hy_F.rf
  | n + 1, k, t, h => (me_sh1_F t (k := k) (by omega)).tr' (me_shN_F n (k + 1) _ (by omega))
theorem me_shN_row : ∀ (n k : Nat) (t : hy_T), (∀ i, i ≤ n + k → tr_row t i) → ∀ i, i < n + k → tr_row (me_shN n k t) i
  | 0, k, t, h, i, hi => h i (by omega)
  | n + 1, k, t, h, i, hi => by
    refine me_shN_row n (k + 1) _ (fun j hj => ?_) i (by omega)
    unfold tr_row
    rw [me_sh1_v t k (by decide) (by decide) j, me_sh1_v t k (by decide) (by decide) j, me_sh1_v t k (by decide) (by decide) j, me_sh1_v t k (by decide) (by decide) j, me_sh1_v t k (by decide) (by decide) j, me_sh1_v t k (by decide) (by decide) j]
    by_cases hjk : j = k
    · simp only [if_pos hjk]
      exact h (k + 1) (by omega)
    · simp only [if_neg hjk]
      exact h j (by omega)
theorem me_end_s {t : hy_T} {i : Nat} (ht : tr_ok t) (hi : (i : Int) < t 59 34) (hb : 0 ≤ t 59 58 ∧ t 59 58 ≤ 100) : hy_F enX t (me_end t i) ∧ tr_ok (me_end t i) ∧ me_end t i 59 34 = t 59 34 - 1 ∧ me_end t i 59 58 = t 59 58 + 1 := by
  obtain ⟨t1, t2, t3, t4⟩ := id ht
  have hr := t4 i hi
  have h1 := me_pre_F hr
  have h2 := me_shN_F ((t 59 34).toNat - 1 - i) i (me_pre t i) (by omega)
  have e58 : me_e0 t i 59 58 = t 59 58 := me_e0_F t i 59 58 rfl
  have p34 : me_pre t i 59 34 = t 59 34 - 1 := by
    have g : (me_e3 (me_e2 (me_e1 t i) i) i) 59 34 = t 59 34 := by
      have a := me_e1_F t i
      have r1 : ∀ r j, r ≠ 59 → me_e1 t i r j = t r j := fun r j h => a r j (by simp; omega)
      have b : hy_F hvX (me_e1 t i) (me_e2 (me_e1 t i) i) := mf_chN_F (by rw [r1 85 i (by decide)]; exact hr.1) _ 4 (by omega)
      have c : hy_F hvX (me_e2 (me_e1 t i) i) (me_e3 (me_e2 (me_e1 t i) i) i) := mf_chN_F (by rw [b 85 i rfl, r1 85 i (by decide)]; exact hr.1) _ 4 (by omega)
      rw [c 59 34 rfl, b 59 34 rfl, a 59 34 rfl]
    show (me_e3 (me_e2 (me_e1 t i) i) i) 59 34 - 1 = _
    rw [g]
  have p58 : me_pre t i 59 58 = t 59 58 + 1 := by
    have a := me_e1_F t i
    have r1 : ∀ r j, r ≠ 59 → me_e1 t i r j = t r j := fun r j h => a r j (by simp; omega)
    have b : hy_F hvX (me_e1 t i) (me_e2 (me_e1 t i) i) := mf_chN_F (by rw [r1 85 i (by decide)]; exact hr.1) _ 4 (by omega)
    have c : hy_F hvX (me_e2 (me_e1 t i) i) (me_e3 (me_e2 (me_e1 t i) i) i) := mf_chN_F (by rw [b 85 i rfl, r1 85 i (by decide)]; exact hr.1) _ 4 (by omega)
    show (me_e3 (me_e2 (me_e1 t i) i) i) 59 58 = _
    rw [c 59 58 rfl, b 59 58 rfl]
    show me_e0 t i 59 58 + 1 = _
    rw [e58]
  have q34 : me_end t i 59 34 = t 59 34 - 1 := (h2 59 34 rfl).trans p34
  have q2 : me_end t i 59 2 = t 59 2 := (h2 59 2 rfl).trans (h1 59 2 rfl)
  have p1 : me_pre t i 59 1 = t 59 1 := by
    have a := me_e1_F t i
    have r1 : ∀ r j, r ≠ 59 → me_e1 t i r j = t r j := fun r j h => a r j (by simp; omega)
    have b : hy_F hvX (me_e1 t i) (me_e2 (me_e1 t i) i) := mf_chN_F (by rw [r1 85 i (by decide)]; exact hr.1) _ 4 (by omega)
    have c : hy_F hvX (me_e2 (me_e1 t i) i) (me_e3 (me_e2 (me_e1 t i) i) i) := mf_chN_F (by rw [b 85 i rfl, r1 85 i (by decide)]; exact hr.1) _ 4 (by omega)
    show (me_e3 (me_e2 (me_e1 t i) i) i) 59 1 = _
    rw [c 59 1 rfl, b 59 1 rfl, a 59 1 rfl]
  have prow : ∀ r j, 85 ≤ r → me_pre t i r j = t r j := by
    intro r j hr8
    have a := me_e1_F t i
    have r1 : ∀ r j, r ≠ 59 → me_e1 t i r j = t r j := fun r j h => a r j (by simp; omega)
    have b : hy_F hvX (me_e1 t i) (me_e2 (me_e1 t i) i) := mf_chN_F (by rw [r1 85 i (by decide)]; exact hr.1) _ 4 (by omega)
    have c : hy_F hvX (me_e2 (me_e1 t i) i) (me_e3 (me_e2 (me_e1 t i) i) i) := mf_chN_F (by rw [b 85 i rfl, r1 85 i (by decide)]; exact hr.1) _ 4 (by omega)
    show hy_up (me_e3 (me_e2 (me_e1 t i) i) i) 59 34 _ r j = _
    rw [hy_up_ne (by omega), c r j (by simp [hvX]; omega), b r j (by simp [hvX]; omega), r1 r j (by omega)]
  have q1 : me_end t i 59 1 = t 59 1 := (h2 59 1 rfl).trans p1
  refine ⟨h1.tr' (h2.w (fun r j q => by revert q; simp [enX, mftX]; omega)), ⟨by omega, by omega, by omega, fun k hk => ?_⟩, q34, (h2 59 58 rfl).trans p58⟩
  refine me_shN_row _ _ _ (fun j hj => tr_row_e (fun r h8 _ => prow r j h8) (t4 j (by omega))) k (by omega)
theorem hF_up {X : Nat → Nat → Bool} {t t1 : hy_T} (h : hy_F X t t1) (r j : Nat) {v w : Int} (e : w = v) : hy_F X (hy_up t r j v) (hy_up t1 r j w) := by
  subst e
  intro r' j' q
  simp only [hy_up]
  split
  · rfl
  · exact h r' j' q
theorem me_sh1_E {t t1 : hy_T} (h : hy_F mvX t t1) (k : Nat) : hy_F mvX (me_sh1 t k) (me_sh1 t1 k) := by
  unfold me_sh1
  have a := hF_up h 85 k (h 85 (k + 1) rfl)
  have b := hF_up a 86 k (a 86 (k + 1) rfl)
  have c := hF_up b 87 k (b 87 (k + 1) rfl)
  have d := hF_up c 88 k (c 88 (k + 1) rfl)
  have e := hF_up d 89 k (d 89 (k + 1) rfl)
  exact hF_up e 90 k (e 90 (k + 1) rfl)
theorem me_shN_E : ∀ (n k : Nat) {t t1 : hy_T}, hy_F mvX t t1 → hy_F mvX (me_shN n k t) (me_shN n k t1)
  | 0, _, _, _, h => h
  | n + 1, k, _, _, h => me_shN_E n (k + 1) (me_sh1_E h k)
theorem me_end_E {t t1 : hy_T} (h : hy_F mvX t t1) (i : Nat) : hy_F mvX (me_end t i) (me_end t1 i) := by
  have h0 : hy_F mvX (me_e0 t i) (me_e0 t1 i) := by
    unfold me_e0
    rw [h 59 58 rfl]
    split
    · exact hF_up (hF_up h 59 59 (h 59 2 rfl)) 59 60 (h 87 i rfl)
    · exact h
  have h1 : hy_F mvX (me_e1 t i) (me_e1 t1 i) := hF_up h0 59 58 (by rw [h0 59 58 rfl])
  have h2 : hy_F mvX (me_e2 (me_e1 t i) i) (me_e2 (me_e1 t1 i) i) := by
    unfold me_e2
    rw [h1 85 i rfl, h1 86 i rfl, h1 88 i rfl]
    exact mf_chN_G h1 (fun _ => rfl) _ _ _ _ 4
  have h3 : hy_F mvX (me_e3 (me_e2 (me_e1 t i) i) i) (me_e3 (me_e2 (me_e1 t1 i) i) i) := by
    unfold me_e3
    rw [h2 85 i rfl, h2 86 i rfl, h2 87 i rfl]
    exact mf_chN_G h2 (fun _ => rfl) _ _ _ _ 4
  unfold me_end
  rw [h 59 34 rfl]
  exact me_shN_E _ _ (hF_up h3 59 34 (by rw [h3 59 34 rfl]))
theorem mb_br_E {t t1 : hy_T} (h : hy_F mvX t t1) (i : Nat) : mb_br t1 i = mb_br t i := by
  unfold mb_br
  rw [mb_amt_F h (meq_law mvX_meq), mq_V_F h mvX_meq, h 87 i rfl, h 85 i rfl, h 86 i rfl, h 59 2 rfl, h 90 i rfl]
def md_x (t : hy_T) : hy_T := hy_up t 59 1 ((25173 * t 59 1 + 13849) % 65536)
def md_turnN : Nat → hy_T → Nat → hy_T
  | 0, t, _ => t
  | n + 1, t, i => if (i : Int) < t 59 34 then (if md_x t 59 1 % 10 < mb_br (md_x t) i then md_turnN n (me_end (md_x t) i) i else md_turnN n (md_x t) (i + 1)) else t
def md_day (t : hy_T) : hy_T := hy_up (md_turnN 17 t 0) 59 2 (md_turnN 17 t 0 59 2 + 1)
def md_daysN : Nat → hy_T → hy_T
  | 0, t => t
  | n + 1, t => if t 59 2 < 9999 then md_daysN n (md_day t) else t
def md_t0 (t : hy_T) : hy_T := hy_up (hy_up (hy_up t 59 58 0) 59 59 (-2)) 59 60 (-2)
def md_days (t : hy_T) (n : Int) : hy_T := md_daysN n.toNat (md_t0 t)
abbrev dsX : Nat → Nat → Bool := fun r j => enX r j || (r == 59 && (j == 1 || j == 2))
theorem md_x_s {t : hy_T} (ht : tr_ok t) : tr_ok (md_x t) ∧ hy_F dsX t (md_x t) := by
  obtain ⟨t1, t2, t3, t4⟩ := ht
  refine ⟨⟨t1, t2, ?_, fun i hi => tr_row_e (fun r h8 _ => hy_up_ne (by omega)) (t4 i hi)⟩, hy_F.rf.up rfl⟩
  show 0 ≤ (25173 * t 59 1 + 13849) % 65536 ∧ (25173 * t 59 1 + 13849) % 65536 ≤ 65535
  omega
/-- broken ones and those that are left -/
def md_ok (t : hy_T) : Prop := tr_ok t ∧ 0 ≤ t 59 58 ∧ t 59 58 + t 59 34 ≤ 16
theorem md_turnN_s : ∀ (n : Nat) {t : hy_T} (i : Nat), md_ok t → md_ok (md_turnN n t i) ∧ hy_F dsX t (md_turnN n t i) ∧ md_turnN n t i 59 2 = t 59 2
  | 0, t, i, h => ⟨h, hy_F.rf, rfl⟩
  | n + 1, t, i, h => by
    obtain ⟨h1, h2, h3⟩ := id h
    obtain ⟨x1, x2⟩ := md_x_s h1
    have hx : md_ok (md_x t) := ⟨x1, h2, h3⟩
    have hc := h1.1
    simp only [md_turnN]
    split
    · next hi =>
      split
      · obtain ⟨e1, e2, e3, e4⟩ := me_end_s (i := i) x1 hi (by show 0 ≤ t 59 58 ∧ t 59 58 ≤ 100; omega)
        have a34 : md_x t 59 34 = t 59 34 := rfl
        have a58 : md_x t 59 58 = t 59 58 := rfl
        obtain ⟨b1, b2, b3⟩ := md_turnN_s n (t := me_end (md_x t) i) i ⟨e2, by omega, by omega⟩
        exact ⟨b1, (x2.tr' (e1.w (fun r j q => by revert q; simp [dsX, enX]; omega))).tr' b2, b3.trans ((e1 59 2 rfl).trans rfl)⟩
      · obtain ⟨b1, b2, b3⟩ := md_turnN_s n (t := md_x t) (i + 1) hx
        exact ⟨b1, x2.tr' b2, b3.trans rfl⟩
    · exact ⟨h, hy_F.rf, rfl⟩
theorem md_day_s {t : hy_T} (h : md_ok t) (hd : t 59 2 < 9999) : md_ok (md_day t) ∧ hy_F dsX t (md_day t) := by
  obtain ⟨a1, a2, a3⟩ := md_turnN_s 17 0 h
  obtain ⟨⟨b1, b2, b3, b4⟩, b5, b6⟩ := a1
  refine ⟨⟨⟨b1, ?_, b3, fun i hi => tr_row_e (fun r h8 _ => hy_up_ne (by omega)) (b4 i hi)⟩, b5, b6⟩, a2.up rfl⟩
  show 0 ≤ md_turnN 17 t 0 59 2 + 1 ∧ md_turnN 17 t 0 59 2 + 1 ≤ 9999
  omega
theorem md_daysN_s : ∀ (n : Nat) {t : hy_T}, md_ok t → md_ok (md_daysN n t) ∧ hy_F dsX t (md_daysN n t)
  | 0, t, h => ⟨h, hy_F.rf⟩
  | n + 1, t, h => by
    simp only [md_daysN]
    split
    · next hd =>
      obtain ⟨a1, a2⟩ := md_day_s h hd
      obtain ⟨b1, b2⟩ := md_daysN_s n a1
      exact ⟨b1, a2.tr' b2⟩
    · exact ⟨h, hy_F.rf⟩
theorem md_t0_s {t : hy_T} (ht : tr_ok t) : md_ok (md_t0 t) ∧ hy_F dsX t (md_t0 t) := by
  obtain ⟨t1, t2, t3, t4⟩ := ht
  refine ⟨⟨⟨t1, t2, t3, fun i hi => tr_row_e (fun r h8 _ => ?_) (t4 i hi)⟩, Int.le_refl _, ?_⟩, ((hy_F.rf.up rfl).up rfl).up rfl⟩
  · unfold md_t0; rw [hy_up_ne (by omega), hy_up_ne (by omega), hy_up_ne (by omega)]
  · show 0 + t 59 34 ≤ 16
    omega
theorem md_days_s {t : hy_T} (ht : tr_ok t) (n : Int) : md_ok (md_days t n) ∧ hy_F dsX t (md_days t n) := by
  obtain ⟨a1, a2⟩ := md_t0_s ht
  obtain ⟨b1, b2⟩ := md_daysN_s n.toNat a1
  exact ⟨b1, a2.tr' b2⟩
theorem dsX_law : ∀ r j, mlawX r j = true → dsX r j = false := fun r j h => by revert h; simp [mlawX, dsX, enX, hvX, mftX]; omega
theorem tr_mv {t t1 : hy_T} (h : hy_F mvX t t1) (hk : tr_ok t) : tr_ok t1 := tr_ok_F h (fun r j q => by revert q; simp [stX, mvX]; omega) hk
/-! the model's days -/
theorem lw_bit : ∀ w : Nat, w < 16 → 1 ≤ w → sp_lowN (w : Int) 4 0 < 4 := by decide +kernel
section ND
variable {sc : List Int32} {t : hy_T}
theorem c_M_lowest {w : Int} (h4 : sp_lowN w 4 0 < 4) : hy_Ct sc hm_M_lowest 1 [.inl w] t (hy_e (some (sp_lowN w 4 0)) t) := by
  refine hy_mk_ct ok_M_lowest ck_M_lowest (Nat.le_of_ble_eq_true rfl) ?_
  generalize hG : sp_lowN w 4 0 = G at h4
  have loop : ∀ (n : Nat), ∀ (q : Int), 0 ≤ q → n + q = 4 → sp_lowN w n q = G → hy_W sc hm_M_lowest 1 2 [.inl w, .inl q] [] t (hy_e (some G) t) := by
    intro n
    induction n with
    | zero =>
      intro q h0 h1 h2
      simp only [sp_lowN] at h2
      omega
    | succ n ih =>
      intro q h0 h1 h2
      simp only [sp_lowN] at h2
      by_cases hb : hz_b w q = false
      · rw [if_pos ⟨by omega, hb⟩] at h2
        refine hy_iload (i := 2) rfl rfl ?_
        refine hy_iload (i := 3) rfl rfl ?_
        refine hy_cS2e (i := 4) rfl (by decide) mj_M_has (by decide) rfl (Nat.le_of_ble_eq_true rfl) (c_M_has) ?_
        refine hy_ib_ne (i := 5) (tt := 11) rfl (fun zc1 => ?_) (fun zc1 => ?_)
        · exact bb_abs (by assumption) hb
        · refine hy_iload (i := 6) rfl rfl ?_
          refine hy_const (i := 7) rfl (by decide) ?_
          refine hy_iadd (i := 8) rfl (by omega) ?_
          refine hy_istore (i := 9) rfl ?_
          refine hy_goto (i := 10) (tt := 2) rfl ?_
          exact ih (q + 1) (by omega) (by omega) h2
      · rw [if_neg (fun h => hb h.2)] at h2
        refine hy_iload (i := 2) rfl rfl ?_
        refine hy_iload (i := 3) rfl rfl ?_
        refine hy_cS2e (i := 4) rfl (by decide) mj_M_has (by decide) rfl (Nat.le_of_ble_eq_true rfl) (c_M_has) ?_
        refine hy_ib_ne (i := 5) (tt := 11) rfl (fun zc1 => ?_) (fun zc1 => ?_)
        · refine hy_iload (i := 11) rfl rfl ?_
          refine hy_ireturn (i := 12) rfl rfl ?_
          exact ⟨congrArg some h2, rfl⟩
        · exact absurd (by assumption) hb
  refine hy_const (i := 0) rfl (by decide) ?_
  refine hy_istore (i := 1) rfl ?_
  exact loop 4 0 (by omega) (by omega) hG
theorem c_M_breaksBy {i : Nat} (hk : ml_ok t) (hi : i < 16) (hr : tr_row t i) (hd : 0 ≤ t 59 2 ∧ t 59 2 ≤ 9999) : hy_Ct sc hm_M_breaksBy 4 [.inr (some 59), .inl (i : Int)] t (fun r t' => r = some (mb_br t i) ∧ hy_F mvX t t') := by
  refine hy_mk_ct ok_M_breaksBy ck_M_breaksBy (Nat.le_of_ble_eq_true rfl) ?_
  obtain ⟨r1, r2, r3, r4, r5, r6⟩ := hr
  have hl := lw_in' r2
  have hl4 := hl.2
  refine hy_aload (i := 0) rfl rfl ?_
  refine hy_aload (i := 1) rfl rfl ?_
  refine hy_getr (i := 2) rfl rfl ?_
  refine hy_iload (i := 3) rfl rfl ?_
  refine hy_iald (i := 4) rfl rfl (by omega) (k := i) (by omega) ?_
  refine hy_aload (i := 5) rfl rfl ?_
  refine hy_getr (i := 6) rfl rfl ?_
  refine hy_iload (i := 7) rfl rfl ?_
  refine hy_iald (i := 8) rfl rfl (by omega) (k := i) (by omega) ?_
  refine hy_aload (i := 9) rfl rfl ?_
  refine hy_getr (i := 10) rfl rfl ?_
  refine hy_iload (i := 11) rfl rfl ?_
  refine hy_iald (i := 12) rfl rfl (by omega) (k := i) (by omega) ?_
  refine hy_cS1e (i := 13) rfl (by decide) mj_M_lowest (by decide) rfl (Nat.le_of_ble_eq_true rfl) (c_M_lowest (by assumption)) ?_
  refine hy_cV3 (i := 14) rfl mj_M_feels (by decide) rfl (Nat.le_of_ble_eq_true rfl) rfl rfl rfl (c_M_feels (by omega) (by omega)) (fun r2_ t2_ h2 => ?_)
  obtain ⟨rfl, hF2, hV2⟩ := h2
  dsimp only [hy_st, List.nil_append]
  have g2 : t2_ 59 2 = t 59 2 := hF2 59 2 rfl
  have g90 : t2_ 90 i = t 90 i := hF2 90 i rfl
  refine hy_aload (i := 15) rfl rfl ?_
  refine hy_getr (i := 16) rfl rfl ?_
  refine hy_const (i := 17) rfl (by decide) ?_
  refine hy_aload (i := 18) rfl rfl ?_
  refine hy_get (i := 19) (fk := 2) rfl rfl rfl ?_
  refine hy_aload (i := 20) rfl rfl ?_
  refine hy_getr (i := 21) rfl rfl ?_
  refine hy_iload (i := 22) rfl rfl ?_
  refine hy_iald (i := 23) rfl rfl (by omega) (k := i) (by omega) ?_
  rw [g2, g90]
  refine hy_isub (i := 24) rfl (by omega) ?_
  refine hy_iast (i := 25) rfl rfl (by omega) (show _ = 9 from rfl) ?_
  refine hy_aload (i := 26) rfl rfl ?_
  refine hy_const (i := 27) rfl (by decide) ?_
  refine hy_const (i := 28) rfl (by decide) ?_
  have hk3 := ml_ok_F (hF2.up (r := 78) (j := 9) (v := t 59 2 - t 90 i) rfl) (fun r j h => by revert h; simp [mlawX]; omega) hk
  refine hy_cV2 (i := 29) rfl mj_M_byLaw (by decide) rfl (Nat.le_of_ble_eq_true rfl) rfl rfl rfl (c_M_byLaw hk3 (.inl rfl)) (fun r3_ t3_ h3 => ?_)
  obtain ⟨rfl, hF3⟩ := h3
  dsimp only [hy_st, List.cons_append, List.nil_append]
  refine hy_ireturn (i := 30) rfl rfl ?_
  exact ⟨congrArg some (mq_tellO hk hF2 hV2 _ 98 10 (.inl rfl)), (mv_78 (hF2.up rfl)).tr' (ml_mv (by assumption))⟩
theorem c_M_ends {i : Nat} (ht : tr_ok t) (hi : (i : Int) < t 59 34) (hb : 0 ≤ t 59 58 ∧ t 59 58 ≤ 100) : hy_Ct sc hm_M_ends 2 [.inr (some 59), .inl (i : Int)] t (hy_e none (me_end t i)) := by
  refine hy_mk_ct ok_M_ends ck_M_ends (Nat.le_of_ble_eq_true rfl) ?_
  obtain ⟨t1, t2, t3, t4⟩ := id ht
  have hr := t4 i hi
  have a := me_e1_F t i
  have r1 : ∀ r j, r ≠ 59 → me_e1 t i r j = t r j := fun r j h => a r j (by simp; omega)
  have b1 : 0 ≤ me_e1 t i 85 i ∧ me_e1 t i 85 i < 12 := by rw [r1 85 i (by decide)]; exact hr.1
  have b : hy_F hvX (me_e1 t i) (me_e2 (me_e1 t i) i) := mf_chN_F b1 _ 4 (by omega)
  have c1 : 0 ≤ me_e2 (me_e1 t i) i 85 i ∧ me_e2 (me_e1 t i) i 85 i < 12 := by rw [b 85 i rfl]; exact b1
  have c : hy_F hvX (me_e2 (me_e1 t i) i) (me_e3 (me_e2 (me_e1 t i) i) i) := mf_chN_F c1 _ 4 (by omega)
  have d34 : me_e3 (me_e2 (me_e1 t i) i) i 59 34 = t 59 34 := by rw [c 59 34 rfl, b 59 34 rfl, a 59 34 rfl]
  have loop : ∀ (m : Nat), ∀ (k : Nat) (u : hy_T), u 59 34 = t 59 34 - 1 → m + k = (t 59 34).toNat - 1 → me_shN m k u = me_end t i → hy_W sc hm_M_ends 2 57 [.inr (some 59), .inl (i : Int), .inl (k : Int)] [] u (hy_e none (me_end t i)) := by
    intro m
    induction m with
    | zero =>
      intro k u hu hm hv
      refine hy_iload (i := 57) rfl rfl ?_
      refine hy_aload (i := 58) rfl rfl ?_
      refine hy_get (i := 59) (fk := 34) rfl rfl rfl ?_
      refine hy_ic_ge (i := 60) (tt := 123) rfl (fun zc1 => ?_) (fun zc1 => ?_)
      · refine hy_return (i := 123) rfl rfl ?_
        exact ⟨rfl, hv⟩
      · omega
    | succ m ih =>
      intro k u hu hm hv
      refine hy_iload (i := 57) rfl rfl ?_
      refine hy_aload (i := 58) rfl rfl ?_
      refine hy_get (i := 59) (fk := 34) rfl rfl rfl ?_
      refine hy_ic_ge (i := 60) (tt := 123) rfl (fun zc1 => ?_) (fun zc1 => ?_)
      · omega
      · refine hy_aload (i := 61) rfl rfl ?_
        refine hy_getr (i := 62) rfl rfl ?_
        refine hy_iload (i := 63) rfl rfl ?_
        refine hy_aload (i := 64) rfl rfl ?_
        refine hy_getr (i := 65) rfl rfl ?_
        refine hy_iload (i := 66) rfl rfl ?_
        refine hy_const (i := 67) rfl (by decide) ?_
        refine hy_iadd (i := 68) rfl (by omega) ?_
        refine hy_iald (i := 69) rfl rfl (by omega) (k := k + 1) (by omega) ?_
        refine hy_iast (i := 70) rfl rfl (by omega) (k := k) (by omega) ?_
        refine hy_aload (i := 71) rfl rfl ?_
        refine hy_getr (i := 72) rfl rfl ?_
        refine hy_iload (i := 73) rfl rfl ?_
        refine hy_aload (i := 74) rfl rfl ?_
        refine hy_getr (i := 75) rfl rfl ?_
        refine hy_iload (i := 76) rfl rfl ?_
        refine hy_const (i := 77) rfl (by decide) ?_
        refine hy_iadd (i := 78) rfl (by omega) ?_
        refine hy_iald (i := 79) rfl rfl (by omega) (k := k + 1) (by omega) ?_
        refine hy_iast (i := 80) rfl rfl (by omega) (k := k) (by omega) ?_
        refine hy_aload (i := 81) rfl rfl ?_
        refine hy_getr (i := 82) rfl rfl ?_
        refine hy_iload (i := 83) rfl rfl ?_
        refine hy_aload (i := 84) rfl rfl ?_
        refine hy_getr (i := 85) rfl rfl ?_
        refine hy_iload (i := 86) rfl rfl ?_
        refine hy_const (i := 87) rfl (by decide) ?_
        refine hy_iadd (i := 88) rfl (by omega) ?_
        refine hy_iald (i := 89) rfl rfl (by omega) (k := k + 1) (by omega) ?_
        refine hy_iast (i := 90) rfl rfl (by omega) (k := k) (by omega) ?_
        refine hy_aload (i := 91) rfl rfl ?_
        refine hy_getr (i := 92) rfl rfl ?_
        refine hy_iload (i := 93) rfl rfl ?_
        refine hy_aload (i := 94) rfl rfl ?_
        refine hy_getr (i := 95) rfl rfl ?_
        refine hy_iload (i := 96) rfl rfl ?_
        refine hy_const (i := 97) rfl (by decide) ?_
        refine hy_iadd (i := 98) rfl (by omega) ?_
        refine hy_iald (i := 99) rfl rfl (by omega) (k := k + 1) (by omega) ?_
        refine hy_iast (i := 100) rfl rfl (by omega) (k := k) (by omega) ?_
        refine hy_aload (i := 101) rfl rfl ?_
        refine hy_getr (i := 102) rfl rfl ?_
        refine hy_iload (i := 103) rfl rfl ?_
        refine hy_aload (i := 104) rfl rfl ?_
        refine hy_getr (i := 105) rfl rfl ?_
        refine hy_iload (i := 106) rfl rfl ?_
        refine hy_const (i := 107) rfl (by decide) ?_
        refine hy_iadd (i := 108) rfl (by omega) ?_
        refine hy_iald (i := 109) rfl rfl (by omega) (k := k + 1) (by omega) ?_
        refine hy_iast (i := 110) rfl rfl (by omega) (k := k) (by omega) ?_
        refine hy_aload (i := 111) rfl rfl ?_
        refine hy_getr (i := 112) rfl rfl ?_
        refine hy_iload (i := 113) rfl rfl ?_
        refine hy_aload (i := 114) rfl rfl ?_
        refine hy_getr (i := 115) rfl rfl ?_
        refine hy_iload (i := 116) rfl rfl ?_
        refine hy_const (i := 117) rfl (by decide) ?_
        refine hy_iadd (i := 118) rfl (by omega) ?_
        refine hy_iald (i := 119) rfl rfl (by omega) (k := k + 1) (by omega) ?_
        refine hy_iast (i := 120) rfl rfl (by omega) (k := k) (by omega) ?_
        refine hy_iinc (i := 121) rfl rfl (by omega) ?_
        refine hy_goto (i := 122) (tt := 57) rfl ?_
        exact ih (k + 1) _ hu (by omega) hv
  have mid : ∀ u, u = me_e0 t i → hy_W sc hm_M_ends 2 13 [.inr (some 59), .inl (i : Int), .inr none] [] u (hy_e none (me_end t i)) := by
    intro u hu
    have e58 : u 59 58 = t 59 58 := by rw [hu]; exact me_e0_F t i 59 58 rfl
    refine hy_aload (i := 13) rfl rfl ?_
    refine hy_aload (i := 14) rfl rfl ?_
    refine hy_get (i := 15) (fk := 58) rfl rfl rfl ?_
    refine hy_const (i := 16) rfl (by decide) ?_
    refine hy_iadd (i := 17) rfl (by omega) ?_
    refine hy_put (i := 18) (fk := 58) rfl rfl rfl rfl ?_
    rw [show hy_up u 59 58 (u 59 58 + 1) = me_e1 t i by rw [hu]; rfl]
    refine hy_aload (i := 19) rfl rfl ?_
    refine hy_aload (i := 20) rfl rfl ?_
    refine hy_getr (i := 21) rfl rfl ?_
    refine hy_iload (i := 22) rfl rfl ?_
    refine hy_iald (i := 23) rfl rfl (by omega) (k := i) (by omega) ?_
    refine hy_aload (i := 24) rfl rfl ?_
    refine hy_getr (i := 25) rfl rfl ?_
    refine hy_iload (i := 26) rfl rfl ?_
    refine hy_iald (i := 27) rfl rfl (by omega) (k := i) (by omega) ?_
    refine hy_aload (i := 28) rfl rfl ?_
    refine hy_getr (i := 29) rfl rfl ?_
    refine hy_iload (i := 30) rfl rfl ?_
    refine hy_iald (i := 31) rfl rfl (by omega) (k := i) (by omega) ?_
    refine hy_const (i := 32) rfl (by decide) ?_
    refine hy_cV4v (i := 33) rfl mj_M_changes (by decide) rfl (Nat.le_of_ble_eq_true rfl) rfl rfl rfl (c_M_changes (by omega)) ?_
    rw [show mf_chN (me_e1 t i) (me_e1 t i 85 i) (me_e1 t i 86 i) (me_e1 t i 88 i) 0 4 = me_e2 (me_e1 t i) i from rfl]
    refine hy_aload (i := 34) rfl rfl ?_
    refine hy_aload (i := 35) rfl rfl ?_
    refine hy_getr (i := 36) rfl rfl ?_
    refine hy_iload (i := 37) rfl rfl ?_
    refine hy_iald (i := 38) rfl rfl (by omega) (k := i) (by omega) ?_
    refine hy_aload (i := 39) rfl rfl ?_
    refine hy_getr (i := 40) rfl rfl ?_
    refine hy_iload (i := 41) rfl rfl ?_
    refine hy_iald (i := 42) rfl rfl (by omega) (k := i) (by omega) ?_
    refine hy_aload (i := 43) rfl rfl ?_
    refine hy_getr (i := 44) rfl rfl ?_
    refine hy_iload (i := 45) rfl rfl ?_
    refine hy_iald (i := 46) rfl rfl (by omega) (k := i) (by omega) ?_
    refine hy_const (i := 47) rfl (by decide) ?_
    refine hy_cV4v (i := 48) rfl mj_M_changes (by decide) rfl (Nat.le_of_ble_eq_true rfl) rfl rfl rfl (c_M_changes (by omega)) ?_
    rw [show mf_chN (me_e2 (me_e1 t i) i) (me_e2 (me_e1 t i) i 85 i) (me_e2 (me_e1 t i) i 86 i) (me_e2 (me_e1 t i) i 87 i) 1 4 = me_e3 (me_e2 (me_e1 t i) i) i from rfl]
    refine hy_aload (i := 49) rfl rfl ?_
    refine hy_aload (i := 50) rfl rfl ?_
    refine hy_get (i := 51) (fk := 34) rfl rfl rfl ?_
    refine hy_const (i := 52) rfl (by decide) ?_
    refine hy_isub (i := 53) rfl (by omega) ?_
    refine hy_put (i := 54) (fk := 34) rfl rfl rfl rfl ?_
    refine hy_iload (i := 55) rfl rfl ?_
    refine hy_istore (i := 56) rfl ?_
    exact loop ((t 59 34).toNat - 1 - i) i _ (by show me_e3 (me_e2 (me_e1 t i) i) i 59 34 - 1 = _; rw [d34]) (by omega) rfl
  by_cases h58 : t 59 58 = 0
  · have m1 := mid _ (show hy_up (hy_up t 59 59 (t 59 2)) 59 60 (t 87 i) = me_e0 t i by unfold me_e0; rw [if_pos h58])
    refine hy_aload (i := 0) rfl rfl ?_
    refine hy_get (i := 1) (fk := 58) rfl rfl rfl ?_
    refine hy_if_ne (i := 2) (tt := 13) rfl (fun zc1 => ?_) (fun zc1 => ?_)
    · exact absurd h58 zc1
    · refine hy_aload (i := 3) rfl rfl ?_
      refine hy_aload (i := 4) rfl rfl ?_
      refine hy_get (i := 5) (fk := 2) rfl rfl rfl ?_
      refine hy_put (i := 6) (fk := 59) rfl rfl rfl rfl ?_
      refine hy_aload (i := 7) rfl rfl ?_
      refine hy_aload (i := 8) rfl rfl ?_
      refine hy_getr (i := 9) rfl rfl ?_
      refine hy_iload (i := 10) rfl rfl ?_
      refine hy_iald (i := 11) rfl rfl (by omega) (k := i) (by omega) ?_
      refine hy_put (i := 12) (fk := 60) rfl rfl rfl rfl ?_
      exact m1
  · have m1 := mid _ (show t = me_e0 t i by unfold me_e0; rw [if_neg h58])
    refine hy_aload (i := 0) rfl rfl ?_
    refine hy_get (i := 1) (fk := 58) rfl rfl rfl ?_
    refine hy_if_ne (i := 2) (tt := 13) rfl (fun zc1 => ?_) (fun zc1 => ?_)
    · exact m1
    · exact absurd zc1 h58
theorem c_M_daysGo {n : Int} (hk : ml_ok t) (ht : tr_ok t) (hn : n ≤ 99) : hy_Ct sc hm_M_daysGo 5 [.inr (some 59), .inl n] t (fun r t' => r = none ∧ hy_F mvX (md_days t n) t') := by
  refine hy_mk_ct ok_M_daysGo ck_M_daysGo (Nat.le_of_ble_eq_true rfl) ?_
  have inner : ∀ (kk : Int) (Q : Option Int → hy_T → Prop) (m : Nat), ∀ (i : Nat) (u v : hy_T), md_ok u → ml_ok u → hy_F mvX u v → (u 59 34 - i : Int) < m → (∀ v', hy_F mvX (md_turnN m u i) v' → ∀ x3, hy_W sc hm_M_daysGo 5 51 [.inr (some 59), .inl n, .inl kk, x3] [] v' Q) → hy_W sc hm_M_daysGo 5 20 [.inr (some 59), .inl n, .inl kk, .inl (i : Int)] [] v Q := by
    intro kk Q m
    induction m with
    | zero =>
      intro i u v hu hl hF hm hQ
      have e34 : v 59 34 = u 59 34 := hF 59 34 rfl
      have h34 := hu.1.1
      refine hy_iload (i := 20) rfl rfl ?_
      refine hy_aload (i := 21) rfl rfl ?_
      refine hy_get (i := 22) (fk := 34) rfl rfl rfl ?_
      refine hy_ic_ge (i := 23) (tt := 51) rfl (fun zc1 => ?_) (fun zc1 => ?_)
      · exact hQ _ hF _
      · omega
    | succ m ih =>
      intro i u v hu hl hF hm hQ
      have e34 : v 59 34 = u 59 34 := hF 59 34 rfl
      obtain ⟨u1, u2, u3⟩ := id hu
      obtain ⟨w1, w2, w3, w4⟩ := id u1
      simp only [md_turnN] at hQ
      by_cases hc : (i : Int) < u 59 34
      · rw [if_pos hc] at hQ
        obtain ⟨x1, x2⟩ := md_x_s u1
        have hx : md_ok (md_x u) := ⟨x1, u2, u3⟩
        have hlx : ml_ok (md_x u) := ml_ok_F x2 dsX_law hl
        have hFx : hy_F mvX (md_x u) (hy_up v 59 1 ((25173 * v 59 1 + 13849) % 65536)) := hF_up hF 59 1 (by rw [hF 59 1 rfl])
        have ev1 : v 59 1 = u 59 1 := hF 59 1 rfl
        have hlv := ml_ok_F hFx (meq_law mvX_meq) hlx
        have htv := tr_mv hFx x1
        have hrv := htv.2.2.2 i (by show (i : Int) < v 59 34; omega)
        have hdv : 0 ≤ hy_up v 59 1 ((25173 * v 59 1 + 13849) % 65536) 59 2 ∧ hy_up v 59 1 ((25173 * v 59 1 + 13849) % 65536) 59 2 ≤ 9999 := htv.2.1
        have ex : md_x u 59 1 = (25173 * v 59 1 + 13849) % 65536 := by rw [ev1]; rfl
        have eb := mb_br_E hFx i
        rw [ex] at hQ
        refine hy_iload (i := 20) rfl rfl ?_
        refine hy_aload (i := 21) rfl rfl ?_
        refine hy_get (i := 22) (fk := 34) rfl rfl rfl ?_
        refine hy_ic_ge (i := 23) (tt := 51) rfl (fun zc1 => ?_) (fun zc1 => ?_)
        · omega
        · refine hy_aload (i := 24) rfl rfl ?_
          refine hy_const (i := 25) rfl (by decide) ?_
          refine hy_aload (i := 26) rfl rfl ?_
          refine hy_get (i := 27) (fk := 1) rfl rfl rfl ?_
          refine hy_imul (i := 28) rfl (by omega) ?_
          refine hy_const (i := 29) rfl (by decide) ?_
          refine hy_iadd (i := 30) rfl (by omega) ?_
          refine hy_const (i := 31) rfl (by decide) ?_
          refine hy_irem (i := 32) rfl (by omega) (by omega) ?_
          refine hy_put (i := 33) (fk := 1) rfl rfl rfl rfl ?_
          refine hy_aload (i := 34) rfl rfl ?_
          refine hy_get (i := 35) (fk := 1) rfl rfl rfl ?_
          refine hy_const (i := 36) rfl (by decide) ?_
          rw [show hy_up v 59 1 ((25173 * v 59 1 + 13849) % 65536) 59 1 = (25173 * v 59 1 + 13849) % 65536 from rfl]
          refine hy_irem (i := 37) rfl (by omega) (by omega) ?_
          refine hy_aload (i := 38) rfl rfl ?_
          refine hy_iload (i := 39) rfl rfl ?_
          refine hy_cV1 (i := 40) rfl mj_M_breaksBy (by decide) rfl (Nat.le_of_ble_eq_true rfl) rfl rfl rfl (c_M_breaksBy (i := i) hlv (by omega) hrv hdv) (fun r1_ t1_ h1 => ?_)
          obtain ⟨rfl, hF1⟩ := h1
          dsimp only [hy_st, List.cons_append, List.nil_append]
          rw [eb]
          refine hy_ic_ge (i := 41) (tt := 46) rfl (fun zc2 => ?_) (fun zc2 => ?_)
          · refine hy_iload (i := 46) rfl rfl ?_
            refine hy_const (i := 47) rfl (by decide) ?_
            refine hy_iadd (i := 48) rfl (by omega) ?_
            refine hy_istore (i := 49) rfl ?_
            refine hy_goto (i := 50) (tt := 20) rfl ?_
            first | (rw [if_pos (by omega)] at hQ; obtain ⟨f1, f2, f3, f4⟩ := me_end_s (i := i) x1 hc (by show 0 ≤ u 59 58 ∧ u 59 58 ≤ 100; omega); have q34 : md_x u 59 34 = u 59 34 := rfl; have q58 : md_x u 59 58 = u 59 58 := rfl; exact ih i (me_end (md_x u) i) _ ⟨f2, by omega, by omega⟩ (ml_ok_F f1 (fun r j h => by revert h; simp [mlawX, enX, hvX, mftX]; omega) hlx) (me_end_E (hFx.tr' hF1) i) (by omega) hQ) | (rw [if_neg (by omega)] at hQ; exact ih (i + 1) (md_x u) _ hx hlx (hFx.tr' hF1) (by show u 59 34 - ((i + 1 : Nat) : Int) < _; omega) hQ)
          · refine hy_aload (i := 42) rfl rfl ?_
            refine hy_iload (i := 43) rfl rfl ?_
            refine hy_cV1v (i := 44) rfl mj_M_ends (by decide) rfl (Nat.le_of_ble_eq_true rfl) rfl rfl rfl (c_M_ends (i := i) (tr_mv hF1 htv) (by rw [hF1 59 34 rfl]; show (i : Int) < v 59 34; omega) (by rw [hF1 59 58 rfl]; show 0 ≤ v 59 58 ∧ v 59 58 ≤ 100; rw [hF 59 58 rfl]; omega)) ?_
            refine hy_goto (i := 45) (tt := 20) rfl ?_
            first | (rw [if_pos (by omega)] at hQ; obtain ⟨f1, f2, f3, f4⟩ := me_end_s (i := i) x1 hc (by show 0 ≤ u 59 58 ∧ u 59 58 ≤ 100; omega); have q34 : md_x u 59 34 = u 59 34 := rfl; have q58 : md_x u 59 58 = u 59 58 := rfl; exact ih i (me_end (md_x u) i) _ ⟨f2, by omega, by omega⟩ (ml_ok_F f1 (fun r j h => by revert h; simp [mlawX, enX, hvX, mftX]; omega) hlx) (me_end_E (hFx.tr' hF1) i) (by omega) hQ) | (rw [if_neg (by omega)] at hQ; exact ih (i + 1) (md_x u) _ hx hlx (hFx.tr' hF1) (by show u 59 34 - ((i + 1 : Nat) : Int) < _; omega) hQ)
      · rw [if_neg hc] at hQ
        refine hy_iload (i := 20) rfl rfl ?_
        refine hy_aload (i := 21) rfl rfl ?_
        refine hy_get (i := 22) (fk := 34) rfl rfl rfl ?_
        refine hy_ic_ge (i := 23) (tt := 51) rfl (fun zc1 => ?_) (fun zc1 => ?_)
        · exact hQ _ hF _
        · omega
  have loop : ∀ (m : Nat), ∀ (k : Nat) (u v : hy_T) (x3 : hy_V), m + k = n.toNat → md_ok u → ml_ok u → hy_F mvX u v → md_daysN m u = md_days t n → hy_W sc hm_M_daysGo 5 11 [.inr (some 59), .inl n, .inl (k : Int), x3] [] v (fun r t' => r = none ∧ hy_F mvX (md_days t n) t') := by
    intro m
    induction m with
    | zero =>
      intro k u v x3 hm hu hl hF hv
      refine hy_iload (i := 11) rfl rfl ?_
      refine hy_iload (i := 12) rfl rfl ?_
      refine hy_ic_ge (i := 13) (tt := 59) rfl (fun zc1 => ?_) (fun zc1 => ?_)
      · refine hy_return (i := 59) rfl rfl ?_
        exact ⟨rfl, by rw [← hv]; exact hF⟩
      · omega
    | succ m ih =>
      intro k u v x3 hm hu hl hF hv
      have e2 : v 59 2 = u 59 2 := hF 59 2 rfl
      have h16 := hu.1.1
      simp only [md_daysN] at hv
      by_cases hd : u 59 2 < 9999
      · rw [if_pos hd] at hv
        obtain ⟨a1, a2⟩ := md_day_s hu hd
        obtain ⟨c1, c2, c3⟩ := md_turnN_s 17 0 hu
        have hd2 := hu.1.2.1
        have la := ml_ok_F a2 dsX_law hl
        have nx : ∀ v', hy_F mvX (md_turnN 17 u 0) v' → ∀ x3, hy_W sc hm_M_daysGo 5 51 [.inr (some 59), .inl n, .inl (k : Int), x3] [] v' (fun r t' => r = none ∧ hy_F mvX (md_days t n) t') := by
          intro v' hv' x3
          have e3 : v' 59 2 = u 59 2 := (hv' 59 2 rfl).trans c3
          refine hy_aload (i := 51) rfl rfl ?_
          refine hy_aload (i := 52) rfl rfl ?_
          refine hy_get (i := 53) (fk := 2) rfl rfl rfl ?_
          refine hy_const (i := 54) rfl (by decide) ?_
          refine hy_iadd (i := 55) rfl (by omega) ?_
          refine hy_put (i := 56) (fk := 2) rfl rfl rfl rfl ?_
          refine hy_iinc (i := 57) rfl rfl (by omega) ?_
          refine hy_goto (i := 58) (tt := 11) rfl ?_
          exact ih (k + 1) (md_day u) _ _ (by omega) a1 la (hF_up hv' 59 2 (by rw [hv' 59 2 rfl])) hv
        refine hy_iload (i := 11) rfl rfl ?_
        refine hy_iload (i := 12) rfl rfl ?_
        refine hy_ic_ge (i := 13) (tt := 59) rfl (fun zc1 => ?_) (fun zc1 => ?_)
        · omega
        · refine hy_aload (i := 14) rfl rfl ?_
          refine hy_get (i := 15) (fk := 2) rfl rfl rfl ?_
          refine hy_const (i := 16) rfl (by decide) ?_
          refine hy_ic_ge (i := 17) (tt := 59) rfl (fun zc2 => ?_) (fun zc2 => ?_)
          · omega
          · refine hy_const (i := 18) rfl (by decide) ?_
            refine hy_istore (i := 19) rfl ?_
            exact inner _ _ 17 0 u v hu hl hF (by omega) nx
      · rw [if_neg hd] at hv
        refine hy_iload (i := 11) rfl rfl ?_
        refine hy_iload (i := 12) rfl rfl ?_
        refine hy_ic_ge (i := 13) (tt := 59) rfl (fun zc1 => ?_) (fun zc1 => ?_)
        · refine hy_return (i := 59) rfl rfl ?_
          exact ⟨rfl, by rw [← hv]; exact hF⟩
        · refine hy_aload (i := 14) rfl rfl ?_
          refine hy_get (i := 15) (fk := 2) rfl rfl rfl ?_
          refine hy_const (i := 16) rfl (by decide) ?_
          refine hy_ic_ge (i := 17) (tt := 59) rfl (fun zc2 => ?_) (fun zc2 => ?_)
          · refine hy_return (i := 59) rfl rfl ?_
            exact ⟨rfl, by rw [← hv]; exact hF⟩
          · omega
  obtain ⟨a1, a2⟩ := md_t0_s ht
  refine hy_aload (i := 0) rfl rfl ?_
  refine hy_const (i := 1) rfl (by decide) ?_
  refine hy_put (i := 2) (fk := 58) rfl rfl rfl rfl ?_
  refine hy_aload (i := 3) rfl rfl ?_
  refine hy_const (i := 4) rfl (by decide) ?_
  refine hy_put (i := 5) (fk := 59) rfl rfl rfl rfl ?_
  refine hy_aload (i := 6) rfl rfl ?_
  refine hy_const (i := 7) rfl (by decide) ?_
  refine hy_put (i := 8) (fk := 60) rfl rfl rfl rfl ?_
  refine hy_const (i := 9) rfl (by decide) ?_
  refine hy_istore (i := 10) rfl ?_
  exact loop n.toNat 0 (md_t0 t) _ _ rfl a1 (ml_ok_F a2 dsX_law hk) hy_F.rf rfl
theorem c_M_days {n : Int} (hk : ml_ok t) (ht : tr_ok t) : hy_Ct sc hm_M_days 6 [.inr (some 59), .inl n] t (fun r t' => r = some (if 1 ≤ n ∧ n ≤ 99 then md_days t n 59 58 else -1) ∧ hy_F mvX (if 1 ≤ n ∧ n ≤ 99 then md_days t n else t) t') := by
  refine hy_mk_ct ok_M_days ck_M_days (Nat.le_of_ble_eq_true rfl) ?_
  by_cases hq : 1 ≤ n ∧ n ≤ 99
  · rw [if_pos hq]
    simp only [if_pos hq]
    refine hy_iload (i := 0) rfl rfl ?_
    refine hy_const (i := 1) rfl (by decide) ?_
    refine hy_const (i := 2) rfl (by decide) ?_
    refine hy_cS3e (i := 3) rfl (by decide) mj_M_in (by decide) rfl (Nat.le_of_ble_eq_true rfl) (c_M_in) ?_
    refine hy_ib_ne (i := 4) (tt := 7) rfl (fun zc1 => ?_) (fun zc1 => ?_)
    · refine hy_aload (i := 7) rfl rfl ?_
      refine hy_iload (i := 8) rfl rfl ?_
      refine hy_cV1 (i := 9) rfl mj_M_daysGo (by decide) rfl (Nat.le_of_ble_eq_true rfl) rfl rfl rfl (c_M_daysGo (by assumption) (by assumption) (by omega)) (fun r2_ t2_ h2 => ?_)
      obtain ⟨rfl, hF2⟩ := h2
      dsimp only [hy_st, List.cons_append, List.nil_append]
      refine hy_aload (i := 10) rfl rfl ?_
      refine hy_get (i := 11) (fk := 58) rfl rfl rfl ?_
      refine hy_ireturn (i := 12) rfl rfl ?_
      exact ⟨congrArg some (hF2 59 58 rfl), hF2⟩
    · simp only [decide_eq_false_iff_not] at zc1; omega
  · rw [if_neg hq]
    simp only [if_neg hq]
    refine hy_iload (i := 0) rfl rfl ?_
    refine hy_const (i := 1) rfl (by decide) ?_
    refine hy_const (i := 2) rfl (by decide) ?_
    refine hy_cS3e (i := 3) rfl (by decide) mj_M_in (by decide) rfl (Nat.le_of_ble_eq_true rfl) (c_M_in) ?_
    refine hy_ib_ne (i := 4) (tt := 7) rfl (fun zc1 => ?_) (fun zc1 => ?_)
    · simp only [decide_eq_true_eq] at zc1; omega
    · refine hy_const (i := 5) rfl (by decide) ?_
      refine hy_ireturn (i := 6) rfl rfl ?_
      exact ⟨rfl, hy_F.rf⟩
def md_w10 (w : Int) : Int := (Int32.ofInt (w - 10)).toInt
abbrev md_trc (t : hy_T) (n w : Int) : Prop := (1 ≤ n ∧ n ≤ 99) ∧ ((0 ≤ w ∧ w ≤ 2) ∨ mf_plain t (md_w10 w) = true)
def md_tried (u : hy_T) (w : Int) : Int := if w = 0 then u 59 58 else if w = 1 then u 59 59 else if w = 2 then u 59 60 else mf_hadN u (md_w10 w) 4
abbrev tdX : Nat → Nat → Bool := fun r j => mfaX r j || mvX r j || (r == 59 && (j == 58 || j == 59 || j == 60))
theorem mf_hadN_F {X : Nat → Nat → Bool} {t t1 : hy_T} (h : hy_F X t t1) (hX : ∀ j, X 62 j = false) (c : Int) : ∀ n, mf_hadN t1 c n = mf_hadN t c n
  | 0 => rfl
  | n + 1 => by simp only [mf_hadN, mf_hadN_F h hX c n, h 62 _ (hX _)]
theorem c_M_tried {n w : Int} (hk : ml_ok t) (ht : tr_ok t) : hy_Ct sc hm_M_tried 6 [.inr (some 59), .inl n, .inl w] t (fun r t' => r = some (if md_trc t n w then md_tried (md_days (mf_begins t) n) w else -1) ∧ hy_F tdX t t') := by
  refine hy_mk_ct ok_M_tried ck_M_tried (Nat.le_of_ble_eq_true rfl) ?_
  by_cases hq : md_trc t n w
  · rw [if_pos hq]
    obtain ⟨ha, hB⟩ := begins_as t
    have hkb := ml_ok_F hB (fun r j h => by revert h; simp [mlawX, mfaX]; omega) hk
    have htb := tr_ok_F hB (fun r j h => by revert h; simp [stX, mfaX]; omega) ht
    obtain ⟨d1, d2⟩ := md_days_s htb n
    have had : as_of t (md_days (mf_begins t) n) := as_of_F d2 (fun r j h => by revert h; simp [mfaX, dsX, enX, hvX, mftX]; omega) ha
    have fin : ∀ (v : hy_T) (x : Int), hy_F mvX (md_days (mf_begins t) n) v → x = md_tried (md_days (mf_begins t) n) w → hy_W sc hm_M_tried 6 45 [.inr (some 59), .inl n, .inl w, .inr none] [.inl x] v (fun r t' => r = some (md_tried (md_days (mf_begins t) n) w) ∧ hy_F tdX t t') := by
      intro v x hF hx
      have hav := as_of_F hF (fun r j h => by revert h; simp [mfaX, mvX]; omega) had
      refine hy_istore (i := 45) rfl ?_
      refine hy_aload (i := 46) rfl rfl ?_
      refine hy_cV0v (i := 47) rfl mj_M_again (by decide) rfl (Nat.le_of_ble_eq_true rfl) rfl rfl rfl (c_M_again) ?_
      refine hy_iload (i := 48) rfl rfl ?_
      refine hy_ireturn (i := 49) rfl rfl ?_
      refine ⟨congrArg some hx, again_back hav (fun r j hX hs => ?_)⟩
      rw [hF r j (by revert hX; simp [tdX, mvX]; omega), d2 r j (by revert hX hs; simp [tdX, dsX, enX, hvX, mftX, stX]; omega)]
      exact hB r j (by revert hX; simp [tdX, mfaX]; omega)
    have fin2 : ∀ (v : hy_T), hy_F mvX (md_days (mf_begins t) n) v → ((0 ≤ w ∧ w ≤ 2) ∨ mf_plain t (md_w10 w) = true) → hy_W sc hm_M_tried 6 23 [.inr (some 59), .inl n, .inl w, .inr none] [] v (fun r t' => r = some (md_tried (md_days (mf_begins t) n) w) ∧ hy_F tdX t t') := by
      intro v hF hw
      by_cases h2 : 0 ≤ w ∧ w ≤ 2
      · skip
        refine hy_iload (i := 23) rfl rfl ?_
        refine hy_if_ne (i := 24) (tt := 28) rfl (fun zc1 => ?_) (fun zc1 => ?_)
        · refine hy_iload (i := 28) rfl rfl ?_
          refine hy_const (i := 29) rfl (by decide) ?_
          refine hy_ic_ne (i := 30) (tt := 34) rfl (fun zc2 => ?_) (fun zc2 => ?_)
          · refine hy_iload (i := 34) rfl rfl ?_
            refine hy_const (i := 35) rfl (by decide) ?_
            refine hy_ic_ne (i := 36) (tt := 40) rfl (fun zc3 => ?_) (fun zc3 => ?_)
            · omega
            · refine hy_aload (i := 37) rfl rfl ?_
              refine hy_get (i := 38) (fk := 60) rfl rfl rfl ?_
              refine hy_goto (i := 39) (tt := 45) rfl ?_
              refine fin _ _ hF ?_
              unfold md_tried
              first | (rw [if_pos (by assumption)]; exact hF 59 _ rfl) | (rw [if_neg (by assumption), if_pos (by assumption)]; exact hF 59 _ rfl) | (rw [if_neg (by assumption), if_neg (by assumption), if_pos (by assumption)]; exact hF 59 _ rfl)
          · refine hy_aload (i := 31) rfl rfl ?_
            refine hy_get (i := 32) (fk := 59) rfl rfl rfl ?_
            refine hy_goto (i := 33) (tt := 45) rfl ?_
            refine fin _ _ hF ?_
            unfold md_tried
            first | (rw [if_pos (by assumption)]; exact hF 59 _ rfl) | (rw [if_neg (by assumption), if_pos (by assumption)]; exact hF 59 _ rfl) | (rw [if_neg (by assumption), if_neg (by assumption), if_pos (by assumption)]; exact hF 59 _ rfl)
        · refine hy_aload (i := 25) rfl rfl ?_
          refine hy_get (i := 26) (fk := 58) rfl rfl rfl ?_
          refine hy_goto (i := 27) (tt := 45) rfl ?_
          refine fin _ _ hF ?_
          unfold md_tried
          first | (rw [if_pos (by assumption)]; exact hF 59 _ rfl) | (rw [if_neg (by assumption), if_pos (by assumption)]; exact hF 59 _ rfl) | (rw [if_neg (by assumption), if_neg (by assumption), if_pos (by assumption)]; exact hF 59 _ rfl)
      · have hp : mf_plain t (md_w10 w) = true := by rcases hw with h | h; exact absurd h h2; exact h
        have hp2 := hp
        simp only [mf_plain, Bool.and_eq_true] at hp2
        have hc := sp_told_in hp2.1
        refine hy_iload (i := 23) rfl rfl ?_
        refine hy_if_ne (i := 24) (tt := 28) rfl (fun zc1 => ?_) (fun zc1 => ?_)
        · refine hy_iload (i := 28) rfl rfl ?_
          refine hy_const (i := 29) rfl (by decide) ?_
          refine hy_ic_ne (i := 30) (tt := 34) rfl (fun zc2 => ?_) (fun zc2 => ?_)
          · refine hy_iload (i := 34) rfl rfl ?_
            refine hy_const (i := 35) rfl (by decide) ?_
            refine hy_ic_ne (i := 36) (tt := 40) rfl (fun zc3 => ?_) (fun zc3 => ?_)
            · refine hy_aload (i := 40) rfl rfl ?_
              refine hy_iload (i := 41) rfl rfl ?_
              refine hy_const (i := 42) rfl (by decide) ?_
              refine hy_isubw (i := 43) rfl ?_
              refine hy_cV1e (i := 44) rfl mj_M_hadAll (by decide) rfl (Nat.le_of_ble_eq_true rfl) rfl rfl rfl (c_M_hadAll (c := md_w10 w) (by omega)) ?_
              refine fin _ _ hF ?_
              unfold md_tried
              rw [if_neg (by assumption), if_neg (by assumption), if_neg (by assumption)]
              exact mf_hadN_F hF (fun _ => rfl) _ 4
            · omega
          · omega
        · omega
    refine hy_iload (i := 0) rfl rfl ?_
    refine hy_const (i := 1) rfl (by decide) ?_
    refine hy_const (i := 2) rfl (by decide) ?_
    refine hy_cS3e (i := 3) rfl (by decide) mj_M_in (by decide) rfl (Nat.le_of_ble_eq_true rfl) (c_M_in) ?_
    refine hy_ib_eq (i := 4) (tt := 16) rfl (fun zc1 => ?_) (fun zc1 => ?_)
    · simp only [decide_eq_false_iff_not] at zc1; omega
    · refine hy_iload (i := 5) rfl rfl ?_
      refine hy_const (i := 6) rfl (by decide) ?_
      refine hy_const (i := 7) rfl (by decide) ?_
      refine hy_cS3e (i := 8) rfl (by decide) mj_M_in (by decide) rfl (Nat.le_of_ble_eq_true rfl) (c_M_in) ?_
      refine hy_ib_ne (i := 9) (tt := 18) rfl (fun zc2 => ?_) (fun zc2 => ?_)
      · refine hy_aload (i := 18) rfl rfl ?_
        refine hy_cV0v (i := 19) rfl mj_M_begins (by decide) rfl (Nat.le_of_ble_eq_true rfl) rfl rfl rfl (c_M_begins) ?_
        refine hy_aload (i := 20) rfl rfl ?_
        refine hy_iload (i := 21) rfl rfl ?_
        refine hy_cV1 (i := 22) rfl mj_M_daysGo (by decide) rfl (Nat.le_of_ble_eq_true rfl) rfl rfl rfl (c_M_daysGo hkb htb (by omega)) (fun r4_ t4_ h4 => ?_)
        obtain ⟨rfl, hF4⟩ := h4
        dsimp only [hy_st, List.cons_append, List.nil_append]
        exact fin2 _ (by assumption) hq.2
      · refine hy_aload (i := 10) rfl rfl ?_
        refine hy_iload (i := 11) rfl rfl ?_
        refine hy_const (i := 12) rfl (by decide) ?_
        refine hy_isubw (i := 13) rfl ?_
        refine hy_cV1e (i := 14) rfl mj_M_isPlain (by decide) rfl (Nat.le_of_ble_eq_true rfl) rfl rfl rfl (c_M_isPlain) ?_
        refine hy_ib_ne (i := 15) (tt := 18) rfl (fun zc3 => ?_) (fun zc3 => ?_)
        · refine hy_aload (i := 18) rfl rfl ?_
          refine hy_cV0v (i := 19) rfl mj_M_begins (by decide) rfl (Nat.le_of_ble_eq_true rfl) rfl rfl rfl (c_M_begins) ?_
          refine hy_aload (i := 20) rfl rfl ?_
          refine hy_iload (i := 21) rfl rfl ?_
          refine hy_cV1 (i := 22) rfl mj_M_daysGo (by decide) rfl (Nat.le_of_ble_eq_true rfl) rfl rfl rfl (c_M_daysGo hkb htb (by omega)) (fun r5_ t5_ h5 => ?_)
          obtain ⟨rfl, hF5⟩ := h5
          dsimp only [hy_st, List.cons_append, List.nil_append]
          exact fin2 _ (by assumption) hq.2
        · exfalso; rcases hq.2 with h | h; simp only [decide_eq_false_iff_not] at zc2; omega; exact bb_abs h (by assumption)
  · rw [if_neg hq]
    refine hy_iload (i := 0) rfl rfl ?_
    refine hy_const (i := 1) rfl (by decide) ?_
    refine hy_const (i := 2) rfl (by decide) ?_
    refine hy_cS3e (i := 3) rfl (by decide) mj_M_in (by decide) rfl (Nat.le_of_ble_eq_true rfl) (c_M_in) ?_
    refine hy_ib_eq (i := 4) (tt := 16) rfl (fun zc1 => ?_) (fun zc1 => ?_)
    · refine hy_const (i := 16) rfl (by decide) ?_
      refine hy_ireturn (i := 17) rfl rfl ?_
      exact ⟨rfl, hy_F.rf⟩
    · refine hy_iload (i := 5) rfl rfl ?_
      refine hy_const (i := 6) rfl (by decide) ?_
      refine hy_const (i := 7) rfl (by decide) ?_
      refine hy_cS3e (i := 8) rfl (by decide) mj_M_in (by decide) rfl (Nat.le_of_ble_eq_true rfl) (c_M_in) ?_
      refine hy_ib_ne (i := 9) (tt := 18) rfl (fun zc2 => ?_) (fun zc2 => ?_)
      · exfalso; simp only [decide_eq_true_eq] at *; exact hq ⟨by assumption, .inl (by assumption)⟩
      · refine hy_aload (i := 10) rfl rfl ?_
        refine hy_iload (i := 11) rfl rfl ?_
        refine hy_const (i := 12) rfl (by decide) ?_
        refine hy_isubw (i := 13) rfl ?_
        refine hy_cV1e (i := 14) rfl mj_M_isPlain (by decide) rfl (Nat.le_of_ble_eq_true rfl) rfl rfl rfl (c_M_isPlain) ?_
        refine hy_ib_ne (i := 15) (tt := 18) rfl (fun zc3 => ?_) (fun zc3 => ?_)
        · exfalso; simp only [decide_eq_true_eq] at zc1; exact hq ⟨by assumption, .inr (by assumption)⟩
        · refine hy_const (i := 16) rfl (by decide) ?_
          refine hy_ireturn (i := 17) rfl rfl ?_
          exact ⟨rfl, hy_F.rf⟩
end ND
