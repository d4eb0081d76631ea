/-! bits -/
theorem hb_nat {x : Int} (h : 0 ≤ x ∧ x ≤ 2147483647) : (Int32.ofInt x).toBitVec.toNat = x.toNat := by
  have h1 : Int32.ofInt x = nI x.toNat := by
    rw [← Int32.toInt_inj, hy_ti (by unfold hy_R; omega), nI_toInt (by omega)]
    omega
  rw [h1, pk_tn (by omega)]
theorem hb_int {y : Int32} {n : Nat} (h : y.toBitVec.toNat = n) (hn : n < 2147483648) : y.toInt = n := by
  show y.toBitVec.toInt = n
  rw [BitVec.toInt_eq_toNat_of_lt (by omega), h]
theorem hz_iand_n {x y : Int} (hx : 0 ≤ x ∧ x ≤ 2147483647) (hy : 0 ≤ y ∧ y ≤ 2147483647) : hz_iand x y = ((x.toNat &&& y.toNat : Nat) : Int) := by
  unfold hz_iand
  refine hb_int ?_ ?_
  · rw [Int32.toBitVec_and, BitVec.toNat_and, hb_nat hx, hb_nat hy]
  · have := @Nat.and_le_left x.toNat y.toNat
    omega
theorem hz_ior_n {x y : Int} (hx : 0 ≤ x ∧ x ≤ 2147483647) (hy : 0 ≤ y ∧ y ≤ 2147483647) : hz_ior x y = ((x.toNat ||| y.toNat : Nat) : Int) := by
  unfold hz_ior
  refine hb_int ?_ ?_
  · rw [Int32.toBitVec_or, BitVec.toNat_or, hb_nat hx, hb_nat hy]
  · have := @Nat.or_lt_two_pow x.toNat y.toNat 31 (by omega) (by omega)
    omega
theorem hz_ixor_n {x y : Int} (hx : 0 ≤ x ∧ x ≤ 2147483647) (hy : 0 ≤ y ∧ y ≤ 2147483647) : hz_ixor x y = ((x.toNat ^^^ y.toNat : Nat) : Int) := by
  unfold hz_ixor
  refine hb_int ?_ ?_
  · rw [Int32.toBitVec_xor, BitVec.toNat_xor, hb_nat hx, hb_nat hy]
  · have := @Nat.xor_lt_two_pow x.toNat y.toNat 31 (by omega) (by omega)
    omega
theorem hz_iand_le {x m : Int} (hm : 0 ≤ m ∧ m ≤ 2147483647) : 0 ≤ hz_iand x m ∧ hz_iand x m ≤ m := by
  have h : (Int32.ofInt x &&& Int32.ofInt m).toBitVec.toNat ≤ m.toNat := by
    rw [Int32.toBitVec_and, BitVec.toNat_and, hb_nat hm]
    exact Nat.and_le_right
  have e := hb_int (y := Int32.ofInt x &&& Int32.ofInt m) rfl (by omega)
  unfold hz_iand
  omega
theorem hz_iand_lel {x m : Int} (hm : 0 ≤ x ∧ x ≤ 2147483647) : 0 ≤ hz_iand x m ∧ hz_iand x m ≤ x := by
  have h : (Int32.ofInt x &&& Int32.ofInt m).toBitVec.toNat ≤ x.toNat := by
    rw [Int32.toBitVec_and, BitVec.toNat_and, hb_nat hm]
    exact Nat.and_le_left
  have e := hb_int (y := Int32.ofInt x &&& Int32.ofInt m) rfl (by omega)
  unfold hz_iand
  omega
/-- x without y -/
theorem hz_sub_n {x y : Int} (hx : 0 ≤ x ∧ x ≤ 2147483647) (hy : 0 ≤ y ∧ y ≤ 2147483647) : hz_iand x (hz_ixor y (-1)) = ((x.toNat ^^^ (x.toNat &&& y.toNat) : Nat) : Int) := by
  unfold hz_iand hz_ixor
  rw [hy_oi]
  have e : (Int32.ofInt x &&& (Int32.ofInt y ^^^ Int32.ofInt (-1))).toBitVec.toNat = x.toNat ^^^ (x.toNat &&& y.toNat) := by
    rw [Int32.toBitVec_and, Int32.toBitVec_xor, ← hb_nat hx, ← hb_nat hy, show (Int32.ofInt (-1)).toBitVec = BitVec.allOnes 32 from rfl]
    generalize (Int32.ofInt x).toBitVec = v
    generalize (Int32.ofInt y).toBitVec = w
    rw [← BitVec.toNat_and, ← BitVec.toNat_xor]
    congr 1
    ext i hi
    simp only [BitVec.getElem_and, BitVec.getElem_xor, BitVec.getElem_allOnes]
    cases v[i] <;> cases w[i] <;> rfl
  refine hb_int e ?_
  have h1 := @Nat.and_le_left x.toNat y.toNat
  have := @Nat.xor_lt_two_pow x.toNat (x.toNat &&& y.toNat) 31 (by omega) (by omega)
  omega
theorem hb_sh {k : Int} (hk : 0 ≤ k ∧ k ≤ 31) : ((Int32.ofInt k &&& 31).toBitVec.smod 32).toNat = k.toNat ∧ (((Int32.ofInt k).toUInt32 &&& Int32.toUInt32 31).toBitVec % 32).toNat = k.toNat := by
  have h : ∀ j : Nat, j < 32 → ((Int32.ofInt (j : Int) &&& 31).toBitVec.smod 32).toNat = j ∧ (((Int32.ofInt (j : Int)).toUInt32 &&& Int32.toUInt32 31).toBitVec % 32).toNat = j := by decide +kernel
  have h1 := h k.toNat (by omega)
  rw [show ((k.toNat : Nat) : Int) = k by omega] at h1
  exact h1
theorem hb_nI {x : Int} (h : 0 ≤ x ∧ x ≤ 2147483647) : Int32.ofInt x = nI x.toNat := by
  rw [← Int32.toInt_inj, hy_ti (by unfold hy_R; omega), nI_toInt (by omega)]
  omega
theorem hz_ishl_n {x k : Int} (hx : 0 ≤ x ∧ x ≤ 2147483647) (hk : 0 ≤ k ∧ k ≤ 31) (h : x.toNat * 2 ^ k.toNat < 2147483648) : hz_ishl x k = ((x.toNat * 2 ^ k.toNat : Nat) : Int) := by
  unfold hz_ishl
  rw [hb_nI hx, pk_shlN _ k.toNat (hb_sh hk).1 (by omega), nI_toInt (by omega)]
theorem hz_ishr_n {x k : Int} (hx : 0 ≤ x ∧ x ≤ 2147483647) (hk : 0 ≤ k ∧ k ≤ 31) : hz_ishr x k = ((x.toNat / 2 ^ k.toNat : Nat) : Int) := by
  unfold hz_ishr
  have h1 : x.toNat / 2 ^ k.toNat ≤ x.toNat := Nat.div_le_self _ _
  rw [hb_nI hx, pk_shrN (by omega) _ k.toNat (hb_sh hk).1, nI_toInt (by omega)]
theorem hz_iushr_n {x k : Int} (hx : 0 ≤ x ∧ x ≤ 2147483647) (hk : 0 ≤ k ∧ k ≤ 31) : hz_iushr x k = ((x.toNat / 2 ^ k.toNat : Nat) : Int) := by
  unfold hz_iushr
  have h1 : x.toNat / 2 ^ k.toNat ≤ x.toNat := Nat.div_le_self _ _
  rw [hb_nI hx, pk_ushrN (by omega) _ k.toNat (hb_sh hk).2, nI_toInt (by omega)]
theorem hz_b_n {x k : Int} (hx : 0 ≤ x ∧ x ≤ 2147483647) (hk : 0 ≤ k ∧ k ≤ 31) : hz_b x k = x.toNat.testBit k.toNat := by
  unfold hz_b
  have h1 : x.toNat / 2 ^ k.toNat ≤ x.toNat := Nat.div_le_self _ _
  rw [hz_ishr_n hx hk, Nat.testBit_eq_decide_div_mod_eq]
  generalize x.toNat / 2 ^ k.toNat = m at h1
  rw [hz_iand_n (by omega) (by decide)]
  rw [show (1 : Int).toNat = 1 from rfl, Int.toNat_natCast, Nat.and_one_is_mod]
  congr 1
  apply propext
  omega
theorem hz_one {k : Int} (hk : 0 ≤ k ∧ k ≤ 30) : hz_ishl 1 k = ((2 ^ k.toNat : Nat) : Int) ∧ 2 ^ k.toNat < 2147483648 := by
  have h1 : 2 ^ k.toNat ≤ 2 ^ 30 := Nat.pow_le_pow_right (by decide) (by omega)
  refine ⟨?_, by omega⟩
  rw [hz_ishl_n (by decide) (by omega) (by rw [show (1 : Int).toNat = 1 from rfl]; omega)]
  simp
/-- the bits of what has one bit more -/
theorem hz_set {x k : Int} (hx : 0 ≤ x ∧ x ≤ 2147483647) (hk : 0 ≤ k ∧ k ≤ 30) : hz_ior x (hz_ishl 1 k) = ((x.toNat ||| 2 ^ k.toNat : Nat) : Int) := by
  obtain ⟨h1, h2⟩ := hz_one hk
  rw [h1]
  generalize 2 ^ k.toNat = m at h2
  rw [hz_ior_n hx (by omega), Int.toNat_natCast]
theorem hz_bc_le (x : Int) : 0 ≤ sp_bc x ∧ sp_bc x ≤ 63 := by
  unfold sp_bc
  exact hz_iand_le (by decide)
def popc : Nat → Nat → Nat
  | 0, _ => 0
  | k + 1, n => n % 2 + popc k (n / 2)
theorem sp_bc_pop (n : Nat) (h : n < 4096) : sp_bc n = popc 12 n := by
  have h1 : ∀ a : Nat, a < 64 → ∀ b : Nat, b < 64 → sp_bc ((64 * a + b : Nat) : Int) = popc 12 (64 * a + b) := by decide +kernel
  have h2 := h1 (n / 64) (by omega) (n % 64) (by omega)
  rw [show 64 * (n / 64) + n % 64 = n by omega] at h2
  exact h2
