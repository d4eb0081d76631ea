/-! the world behind the two constructors -/
def t0 : hy_T := fun r j =>
  if r = 9 ∨ r = 63 then 12 else if r = 35 ∨ r = 39 ∨ r = 43 ∨ r = 64 then 6 else if (r = 33 ∨ r = 37 ∨ r = 41) ∧ j = 5 then 1
  else if (r = 33 ∨ r = 37 ∨ r = 41) ∧ (j = 6 ∨ j = 7) then -2 else if r = 49 ∧ (j = 7 ∨ j = 8) then -2 else if r = 59 ∧ j = 1 then 1 else if r = 60 then -1 else 0
theorem t0_R (k j : Nat) : hy_R (t0 k j) := by
  unfold t0
  repeat' split
  all_goals decide
def hr_1 : hr_E := hr_run 1500 3 hm_W_init 0 ([.ref 2] ++ List.replicate (hx_L hm_W_init - 1) .null) [] [hr_q 10]
def hr_2 (h1 : hx_H) : hr_E := hr_run 1500 3 hm_M_init 0 ([.ref 59] ++ List.replicate (hx_L hm_M_init - 1) .null) [] (h1 ++ [hr_q 11])
def hr_chk : Bool := match hr_1 with
  | some (h1, c1, s1) => decide (h1.length = 57) && (match hr_2 h1 with
    | some (h2, c2, s2) => decide (h2 = hy_mk t0) && decide (c1 + c2 ≤ 200) && decide (s1 + s2 ≤ 7000)
    | none => false)
  | none => false
theorem hr_chk_is : hr_chk = true := by decide +kernel
theorem hr_made : ∃ (h1 : hx_H) (c1 s1 c2 s2 : Nat), hr_1 = some (h1, c1, s1) ∧ h1.length = 57 ∧ hr_2 h1 = some (hy_mk t0, c2, s2) ∧ c1 + c2 ≤ 200 ∧ s1 + s2 ≤ 7000 := by
  have h := hr_chk_is
  unfold hr_chk at h
  split at h
  · next h1 c1 s1 e1 =>
    rw [Bool.and_eq_true, decide_eq_true_eq] at h
    obtain ⟨l1, h⟩ := h
    split at h
    · next h2 c2 s2 e2 =>
      simp only [Bool.and_eq_true, decide_eq_true_eq] at h
      obtain ⟨⟨rfl, hc⟩, hs⟩ := h
      exact ⟨h1, c1, s1, c2, s2, e1, l1, e2, hc, hs⟩
    · cases h
  · cases h
