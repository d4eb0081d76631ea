/-! the full relation at first, and a colour that is told -/
section FX
variable {sc : List Int32} {t : hy_T}
theorem fr_0 : fr t0 := ⟨⟨⟨rfl, fun j hj => (show (0 : Int) = hz_iand 0 255 by decide)⟩, p3_rel0, fun c hc hm => by
    have e : hz_b (t0 5 3) c = false := hz_b_0 c
    rw [e] at hm
    cases hm⟩, ⟨⟨fun j hj => (show (12 : Int) = 12 from rfl), fun j hj => (show (0 : Int) = 0 from rfl)⟩, ⟨rfl, (show (0 : Int) ≤ 0 by decide), (show (0 : Int) ≤ 16 by decide)⟩, fun i hi => absurd hi (show ¬ (i : Int) < 0 by omega)⟩,
  ⟨⟨⟨⟨rfl, (show (0 : Int) ≤ 0 by decide), (show (0 : Int) ≤ 16 by decide)⟩, rfl, rfl⟩, fun j hj => (show (0 : Int) = 0 from rfl), fun i w hi hw => absurd hi (show ¬ (i : Int) < 0 by omega)⟩, ⟨fun j hj => ⟨(show (0 : Int) ≤ 0 ∧ (0 : Int) ≤ 63 by decide), fun _ => (show (0 : Int) = 0 from rfl)⟩, fun i hi => absurd hi (show ¬ (i : Int) < 0 by omega)⟩, fun j hj => (show (6 : Int) = 6 from rfl)⟩, rfl, fun q => absurd (show t0 2 9 = 0 from rfl) q⟩
theorem fr_col {a b c : Int} (h : ci_I fr t) : (hy_Ct sc hm_W_colour 3 [.inr (some 2), .inl a, .inl b, .inl c] t (fun r t1 => ∃ v : Int, r = some v ∧ (t1 = if sp_tellable (t 5 2) a b c = true then sp_tellC t a b c else t))) ∧ ∀ (v : Int) (t1 : hy_T), (t1 = if sp_tellable (t 5 2) a b c = true then sp_tellC t a b c else t) → hy_Ct sc hm_M_colour 2 [.inr (some 59), .inl a, .inl b, .inl c] t1 (fun r t2 => ∃ v2 : Int, r = some v2 ∧ ci_I fr t2) := by
  obtain ⟨k, m, hr⟩ := h
  have e : t 5 2 = t 59 0 := hr.1.2.1.1.1
  refine ⟨c_W_colour.mono (fun r t' q => ⟨_, q.1, q.2⟩), fun v t1 e1 => c_M_colour.mono (fun r t2 q => ?_)⟩
  obtain ⟨rfl, e2⟩ := q
  refine ⟨_, rfl, ?_⟩
  by_cases hq : sp_tellable (t 5 2) a b c = true
  · rw [if_pos hq] at e1
    obtain ⟨k1, F⟩ := cK_tell k hq
    rw [← e1] at k1 F
    have e0 : t1 59 0 = t 5 2 := (F 59 0 rfl).trans e.symm
    have m1 := mK_W F sw0 m
    rw [e0, if_pos hq] at e2
    obtain ⟨m2, F2⟩ := mK_tell m1 (c := a) (f := b) (s := c) (by rw [e0]; exact hq)
    rw [← e2] at m2 F2
    exact ⟨cK_M F2 sm0 k1, m2, fr_tell hr hq F F2 e1 e2⟩
  · rw [if_neg hq] at e1
    subst e1
    rw [← e, if_neg hq] at e2
    subst e2
    exact ⟨k, m, hr⟩
end FX
