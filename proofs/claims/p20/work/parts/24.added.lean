/-! the class's purse: what one more colour adds -/
def ad_w (x : Int) : Int := (Int32.ofInt x).toInt
theorem ad_w_R (x : Int) : -2147483648 ≤ ad_w x ∧ ad_w x ≤ 2147483647 := by
  have h1 := Int32.le_toInt (Int32.ofInt x)
  have h2 := Int32.toInt_lt (Int32.ofInt x)
  unfold ad_w
  omega
def ad_o (n : Int) : Int := if 0 ≤ n ∧ n < 6 then [1, 1, 2, 6, 24, 120].getD n.toNat 0 else 0
def ad_add (t : hy_T) (P : Nat → Int) (e c q g : Int) : Int := sp_worthN P (sp_seenN t e q (hz_ior g (hz_ishl 1 c)) 12) 12 - sp_worthN P (sp_seenN t e q g 12) 12
def ad_sumN (t : hy_T) (P : Nat → Int) (e c q rest : Int) : Nat → Int × Int
  | 0 => (rest, 0)
  | n + 1 =>
    let p := ad_sumN t P e c q rest n
    (hz_iand (ad_w (p.1 - 1)) rest, ad_w (p.2 + ad_w (ad_w (ad_o (sp_bc p.1) * ad_o (sp_bc rest - sp_bc p.1)) * ad_add t P e c q p.1)))
def ad_rest (cs c : Int) : Int := hz_iand cs (hz_ixor (hz_ishl 1 c) (-1))
def ad_by (t : hy_T) (cs c e q : Int) : Int := (ad_sumN t (fun x => sp_price t e q cs x) e c q (ad_rest cs c) (hz_ishl 1 (sp_bc (ad_rest cs c))).toNat).2
theorem ad_worth_F {t t1 : hy_T} (h : hy_F pX t t1) {P : Nat → Int} {e q : Int} (hp : ∀ c : Nat, c < 12 → t1 48 c = P c) (plain : Int) : sp_worthN (t1 48) (sp_seenN t1 e q plain 12) 12 = sp_worthN P (sp_seenN t e q plain 12) 12 := by
  rw [sp_seenN_G h (pX_law h) rfl rfl (fun _ => rfl) (fun _ => rfl)]
  exact sp_worthN_eq hp _ 12 (Nat.le_refl _)
theorem ad_shl_le (o : Int) : hz_ishl 1 o ≤ 2147483647 := by
  have h2 := Int32.toInt_lt (Int32.ofInt 1 <<< (Int32.ofInt o &&& 31))
  unfold hz_ishl
  omega
section PD
variable {sc : List Int32} {t : hy_T}
theorem c_U_addedBy {cs c e q : Int} (hk : lc_ok t) : hy_Ct sc hm_U_addedBy 5 [.inr (some 47), .inl cs, .inl c, .inl e, .inl q] t (fun r t' => r = some (ad_by t cs c e q) ∧ hy_F pX t t') := by
  refine hy_mk_ct ok_U_addedBy ck_U_addedBy (Nat.le_of_ble_eq_true rfl) ?_
  have hb := ad_shl_le (sp_bc (ad_rest cs c))
  have ho := hz_bc_le (ad_rest cs c)
  have hP0 : ∀ x : Nat, x < 12 → 0 ≤ sp_price t e q cs x ∧ sp_price t e q cs x ≤ 6400 := fun x _ => sp_price_le t e q cs x
  have loop : ∀ (n : Nat), ∀ (k : Nat) (p : Int × Int) (t1 : hy_T) (v10 v11 : hy_V), n + k = (hz_ishl 1 (sp_bc (ad_rest cs c))).toNat → hy_F pX t t1 → (∀ x : Nat, x < 12 → t1 48 x = sp_price t e q cs x) → p = ad_sumN t (fun x => sp_price t e q cs x) e c q (ad_rest cs c) k →
      hy_W sc hm_U_addedBy 5 22 [.inr (some 47), .inl cs, .inl c, .inl e, .inl q, .inl (ad_rest cs c), .inl (sp_bc (ad_rest cs c)), .inl p.2, .inl p.1, .inl (k : Int), v10, v11] [] t1 (fun r t' => r = some (ad_by t cs c e q) ∧ hy_F pX t t') := by
    intro n
    induction n with
    | zero =>
      intro k p t1 v10 v11 hn hF hP hp
      have hk1 : k = (hz_ishl 1 (sp_bc (ad_rest cs c))).toNat := by omega
      refine hy_iload (i := 22) rfl rfl ?_
      refine hy_const (i := 23) rfl (by decide) ?_
      refine hy_iload (i := 24) rfl rfl ?_
      refine hy_ishl (i := 25) rfl ?_
      refine hy_ic_ge (i := 26) (tt := 66) rfl (fun zc1 => ?_) (fun zc1 => ?_)
      · refine hy_iload (i := 66) rfl rfl ?_
        refine hy_ireturn (i := 67) rfl rfl ?_
        exact ⟨congrArg some (by rw [hp, hk1]; rfl), hF⟩
      · omega
    | succ n ih =>
      intro k p t1 v10 v11 hn hF hP hp
      have hk1 := lc_ok_same (pX_law hF) hk
      have hp1 : ∀ x : Nat, x < 12 → 0 ≤ t1 48 x ∧ t1 48 x ≤ 6400 := fun x hx => by rw [hP x hx]; exact hP0 x hx
      have hz1 := hz_bc_le p.1
      have hw1 := sp_worthN_le hP0 (sp_seenN t e q (hz_ior p.1 (hz_ishl 1 c)) 12) 12 (Nat.le_refl _)
      have hw2 := sp_worthN_le hP0 (sp_seenN t e q p.1 12) 12 (Nat.le_refl _)
      refine hy_iload (i := 22) rfl rfl ?_
      refine hy_const (i := 23) rfl (by decide) ?_
      refine hy_iload (i := 24) rfl rfl ?_
      refine hy_ishl (i := 25) rfl ?_
      refine hy_ic_ge (i := 26) (tt := 66) rfl (fun zc1 => ?_) (fun zc1 => ?_)
      · omega
      · refine hy_iload (i := 27) rfl rfl ?_
        refine hy_cS1e (i := 28) rfl (by decide) mj_J_bitCount (by decide) rfl (Nat.le_of_ble_eq_true rfl) (c_J_bitCount) ?_
        refine hy_istore (i := 29) rfl ?_
        refine hy_aload (i := 30) rfl rfl ?_
        refine hy_iload (i := 31) rfl rfl ?_
        refine hy_iload (i := 32) rfl rfl ?_
        refine hy_iload (i := 33) rfl rfl ?_
        refine hy_const (i := 34) rfl (by decide) ?_
        refine hy_iload (i := 35) rfl rfl ?_
        refine hy_ishl (i := 36) rfl ?_
        refine hy_ior (i := 37) rfl ?_
        refine hy_cV3 (i := 38) rfl mj_U_worthWith (by decide) rfl (Nat.le_of_ble_eq_true rfl) rfl rfl rfl (c_U_worthWith hk1 hp1) (fun r2_ t2_ h2 => ?_)
        obtain ⟨rfl, hF2⟩ := h2
        dsimp only [hy_st, List.cons_append, List.nil_append]
        refine hy_aload (i := 39) rfl rfl ?_
        refine hy_iload (i := 40) rfl rfl ?_
        refine hy_iload (i := 41) rfl rfl ?_
        refine hy_iload (i := 42) rfl rfl ?_
        have hG2 : hy_F pX t t2_ := hF.tr' (eX_pX hF2)
        have hk2 := lc_ok_same (pX_law hG2) hk
        have hq2 : ∀ x : Nat, x < 12 → t2_ 48 x = sp_price t e q cs x := fun x hx => by rw [hF2 48 x rfl]; exact hP x hx
        have hp2 : ∀ x : Nat, x < 12 → 0 ≤ t2_ 48 x ∧ t2_ 48 x ≤ 6400 := fun x hx => by rw [hq2 x hx]; exact hP0 x hx
        refine hy_cV3 (i := 43) rfl mj_U_worthWith (by decide) rfl (Nat.le_of_ble_eq_true rfl) rfl rfl rfl (c_U_worthWith hk2 hp2) (fun r3_ t3_ h3 => ?_)
        obtain ⟨rfl, hF3⟩ := h3
        dsimp only [hy_st, List.cons_append, List.nil_append]
        rw [ad_worth_F hF hP, ad_worth_F hG2 hq2]
        refine hy_isub (i := 44) rfl (by omega) ?_
        refine hy_istore (i := 45) rfl ?_
        refine hy_iload (i := 46) rfl rfl ?_
        refine hy_iload (i := 47) rfl rfl ?_
        refine hy_cS1e (i := 48) rfl (by decide) mj_U_orders (by decide) rfl (Nat.le_of_ble_eq_true rfl) (c_U_orders) ?_
        refine hy_iload (i := 49) rfl rfl ?_
        refine hy_iload (i := 50) rfl rfl ?_
        refine hy_isub (i := 51) rfl (by omega) ?_
        refine hy_cS1e (i := 52) rfl (by decide) mj_U_orders (by decide) rfl (Nat.le_of_ble_eq_true rfl) (c_U_orders) ?_
        refine hy_imulw (i := 53) rfl ?_
        refine hy_iload (i := 54) rfl rfl ?_
        refine hy_imulw (i := 55) rfl ?_
        refine hy_iaddw (i := 56) rfl ?_
        refine hy_istore (i := 57) rfl ?_
        refine hy_iload (i := 58) rfl rfl ?_
        refine hy_const (i := 59) rfl (by decide) ?_
        refine hy_isubw (i := 60) rfl ?_
        refine hy_iload (i := 61) rfl rfl ?_
        refine hy_iand (i := 62) rfl ?_
        refine hy_istore (i := 63) rfl ?_
        refine hy_iinc (i := 64) rfl rfl (by omega) ?_
        refine hy_goto (i := 65) (tt := 22) rfl ?_
        exact ih (k + 1) (_, _) _ _ _ (by omega) (hG2.tr' (eX_pX hF3)) (fun x hx => by rw [hF3 48 x rfl]; exact hq2 x hx) (by simp only [ad_sumN]; rw [← hp]; rfl)
  refine hy_aload (i := 0) rfl rfl ?_
  refine hy_iload (i := 1) rfl rfl ?_
  refine hy_iload (i := 2) rfl rfl ?_
  refine hy_iload (i := 3) rfl rfl ?_
  refine hy_cV3 (i := 4) rfl mj_U_price (by decide) rfl (Nat.le_of_ble_eq_true rfl) rfl rfl rfl (c_U_price (by assumption)) (fun r1_ t1_ h1 => ?_)
  obtain ⟨rfl, hP1, hF1⟩ := h1
  dsimp only [hy_st, List.nil_append]
  refine hy_iload (i := 5) rfl rfl ?_
  refine hy_const (i := 6) rfl (by decide) ?_
  refine hy_iload (i := 7) rfl rfl ?_
  refine hy_ishl (i := 8) rfl ?_
  refine hy_const (i := 9) rfl (by decide) ?_
  refine hy_ixor (i := 10) rfl ?_
  refine hy_iand (i := 11) rfl ?_
  refine hy_istore (i := 12) rfl ?_
  refine hy_iload (i := 13) rfl rfl ?_
  refine hy_cS1e (i := 14) rfl (by decide) mj_J_bitCount (by decide) rfl (Nat.le_of_ble_eq_true rfl) (c_J_bitCount) ?_
  refine hy_istore (i := 15) rfl ?_
  refine hy_const (i := 16) rfl (by decide) ?_
  refine hy_istore (i := 17) rfl ?_
  refine hy_iload (i := 18) rfl rfl ?_
  refine hy_istore (i := 19) rfl ?_
  refine hy_const (i := 20) rfl (by decide) ?_
  refine hy_istore (i := 21) rfl ?_
  exact loop _ 0 (_, _) _ _ _ rfl hF1 hP1 rfl
end PD
