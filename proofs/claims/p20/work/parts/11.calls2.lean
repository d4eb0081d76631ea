/-- an exact end -/
def hy_e (x : Option Int) (t1 : hy_T) : Option Int → hy_T → Prop := fun r t' => r = x ∧ t' = t1
/-- what is not of X stays -/
def hy_F (X : Nat → Nat → Bool) (t t' : hy_T) : Prop := ∀ r j, X r j = false → t' r j = t r j
theorem hy_F.rf {X : Nat → Nat → Bool} {t : hy_T} : hy_F X t t := fun _ _ _ => rfl
theorem hy_F.tr {X Y Z : Nat → Nat → Bool} {a b c : hy_T} (h1 : hy_F X a b) (h2 : hy_F Y b c) (hX : ∀ r j, Z r j = false → X r j = false) (hY : ∀ r j, Z r j = false → Y r j = false) : hy_F Z a c := fun r j h => (h2 r j (hY r j h)).trans (h1 r j (hX r j h))
theorem hy_F.tr' {X : Nat → Nat → Bool} {a b c : hy_T} (h1 : hy_F X a b) (h2 : hy_F X b c) : hy_F X a c := fun r j h => (h2 r j h).trans (h1 r j h)
theorem hy_F.up {X : Nat → Nat → Bool} {t t' : hy_T} {r j : Nat} {v : Int} (h : hy_F X t t') (hx : X r j = true) : hy_F X t (hy_up t' r j v) := fun r' j' h' => by
  unfold hy_up
  split
  · next q => rw [q.1, q.2, hx] at h'; cases h'
  · exact h r' j' h'
theorem hy_F.w {X Y : Nat → Nat → Bool} {a b : hy_T} (h : hy_F X a b) (hX : ∀ r j, Y r j = false → X r j = false) : hy_F Y a b := fun r j q => h r j (hX r j q)
def hy_cp (t : hy_T) (r0 r1 n : Nat) : hy_T := fun r j => if r = r1 ∧ j < n then t r0 j else t r j
section HYD
variable {sc : List Int32} {u v : hx_M} {d d' i j : Nat} {loc rest st : List hy_V} {t t1 : hy_T} {Q Q' : Option Int → hy_T → Prop}
theorem hy_copy {r0 r1 n0 n1 : Nat} {n : Int} (hop : (hx_ops u)[i]? = some (.invokestatic 9999)) (hl : st.length ≤ 8) (ha0 : hy_arr r0 = some (0, n0)) (ha1 : hy_arr r1 = some (0, n1)) (hn : 0 ≤ n ∧ n ≤ n0 ∧ n ≤ n1) (kk : hy_W sc u d (i + 1) loc st (hy_cp t r0 r1 n.toNat) Q) : hy_W sc u d i loc (.inl n :: .inl 0 :: .inr (some r1) :: .inl 0 :: .inr (some r0) :: st) t Q := fun h1 h2 h3 => by
  obtain ⟨k0, rfl, e0⟩ := hy_arr_s ha0
  obtain ⟨k1, rfl, e1⟩ := hy_arr_s ha1
  obtain ⟨hnR, hs⟩ := hy_one h2
  obtain ⟨-, hs⟩ := hy_one hs
  obtain ⟨-, hs⟩ := hy_one hs
  obtain ⟨-, hs⟩ := hy_one hs
  obtain ⟨-, hs⟩ := hy_one hs
  have hcl := hy_cl (x := n) hnR
  refine hx_copy hop (a0 := k0) (a1 := k1) (hy_vall st) (by rw [List.length_map]; exact hl) (by rw [hy_mk_at, e0]; rfl) (by rw [hy_mk_at, e1]; rfl) (by intro q; have := (hy_lt hnR hy_R0).mp q; omega) (by rw [hy_arr_len, hcl]; omega) (by rw [hy_arr_len, hcl]; omega) ?_
  rw [hcl]
  have hh : (hy_mk t).set k1 (.inl (0, ((List.range n0).map (fun j => Int32.ofInt (t (k0 + 2) j))).take n.toNat ++ ((List.range n1).map (fun j => Int32.ofInt (t (k1 + 2) j))).drop n.toNat)) = hy_mk (hy_cp t (k0 + 2) (k1 + 2) n.toNat) := by
    apply List.ext_getElem?
    intro m
    rw [hy_mk_at, List.getElem?_set, hy_mk_at]
    by_cases hik : k1 = m
    · subst hik
      have hl2 : k1 < (hy_mk t).length := by simp [hy_mk]; exact (List.getElem?_eq_some_iff.mp e1).1
      simp only [hl2, if_true, e1, Option.map_some, hy_cell]
      congr 3
      apply List.ext_getElem?
      intro z
      by_cases hz : z < n.toNat
      · rw [List.getElem?_append_left (by simp; omega), List.getElem?_take_of_lt hz, List.getElem?_map, List.getElem?_map, List.getElem?_range (by omega), List.getElem?_range (by omega)]
        simp [hy_cp]
        rw [if_pos (by omega)]
      · rw [List.getElem?_append_right (by simp; omega), List.getElem?_drop, List.getElem?_map, List.getElem?_map]
        have e3 : n.toNat + (z - (((List.range n0).map (fun j => Int32.ofInt (t (k0 + 2) j))).take n.toNat).length) = z := by simp; omega
        rw [e3]
        by_cases hz1 : z < n1
        · rw [List.getElem?_range hz1]
          simp [hy_cp]
          rw [if_neg (by omega)]
        · rw [List.getElem?_eq_none (by simp; omega)]
          rfl
    · rw [if_neg hik]
      congr 1
      funext s'
      have e : ∀ j', hy_cp t (k0 + 2) (k1 + 2) n.toNat (m + 2) j' = t (m + 2) j' := fun j' => by
        unfold hy_cp
        rw [if_neg]
        omega
      cases s' with
      | inl q => simp only [hy_cell, e]
      | inr q => simp only [hy_cell, e]
  have h := kk h1 hs (fun k j => by unfold hy_cp; split <;> exact h3 _ _)
  rw [← hh] at h
  exact h
theorem hy_slen (hop : (hx_ops u)[i]? = some .arraylength) (hs : sc.length < 2147483648) (kk : hy_W sc u d (i + 1) loc (.inl (sc.length : Int) :: st) t Q) : hy_W sc u d i loc (.inr (some 0) :: st) t Q := fun h1 h2 h3 =>
  hx_alen_s hop (kk h1 (hy_cons (by show hy_R _; unfold hy_R; omega) (hy_one h2).2) h3)
theorem hy_sld {z : Int} (hop : (hx_ops u)[i]? = some .iaload) (hz : 0 ≤ z ∧ z < sc.length) (kk : hy_W sc u d (i + 1) loc (.inl (sc.getD z.toNat 0).toInt :: st) t Q) : hy_W sc u d i loc (.inl z :: .inr (some 0) :: st) t Q := fun h1 h2 h3 => by
  obtain ⟨hzR, hs⟩ := hy_one h2
  refine hx_iald_s hop (hy_in hzR hz) ?_
  have h := kk h1 (hy_cons (hy_Ri _) (hy_one hs).2) h3
  rw [hy_cl hzR]
  simp only [List.map_cons, hy_v, hy_oi] at h ⊢
  exact h
theorem hy_cV0 {r ci : Nat} {q : vw_C} (hop : (hx_ops u)[i]? = some (.invokevirtual j)) (hj : hx_ms[j]? = some v) (hd : d' < d) (hn : 0 = hx_na v) (hrl : rest.length ≤ 8) (hr : hy_cls r = some ci) (hcl : hx_cl[ci]? = some q) (hqy : q.1 = (hx_y v).cls) (hct : hy_Ct sc v d' [.inr (some r)] t Q') (kk : ∀ r t', Q' r t' → hy_W sc u d (i + 1) loc (hy_st r ++ rest) t' Q) : hy_W sc u d i loc (.inr (some r) :: rest) t Q :=
  hy_callV (as := []) hop hj hd hn hrl hr hcl hqy hct kk
theorem hy_cV0e {r ci : Nat} {q : vw_C} {x : Int} (hop : (hx_ops u)[i]? = some (.invokevirtual j)) (hj : hx_ms[j]? = some v) (hd : d' < d) (hn : 0 = hx_na v) (hrl : rest.length ≤ 8) (hr : hy_cls r = some ci) (hcl : hx_cl[ci]? = some q) (hqy : q.1 = (hx_y v).cls) (hct : hy_Ct sc v d' [.inr (some r)] t (hy_e (some x) t1)) (kk : hy_W sc u d (i + 1) loc (.inl x :: rest) t1 Q) : hy_W sc u d i loc (.inr (some r) :: rest) t Q :=
  hy_callV (as := []) hop hj hd hn hrl hr hcl hqy hct (fun r t' h => by obtain ⟨rfl, rfl⟩ := h; exact kk)
theorem hy_cV0v {r ci : Nat} {q : vw_C} (hop : (hx_ops u)[i]? = some (.invokevirtual j)) (hj : hx_ms[j]? = some v) (hd : d' < d) (hn : 0 = hx_na v) (hrl : rest.length ≤ 8) (hr : hy_cls r = some ci) (hcl : hx_cl[ci]? = some q) (hqy : q.1 = (hx_y v).cls) (hct : hy_Ct sc v d' [.inr (some r)] t (hy_e none t1)) (kk : hy_W sc u d (i + 1) loc rest t1 Q) : hy_W sc u d i loc (.inr (some r) :: rest) t Q :=
  hy_callV (as := []) hop hj hd hn hrl hr hcl hqy hct (fun r t' h => by obtain ⟨rfl, rfl⟩ := h; exact kk)
theorem hy_cS0 (hop : (hx_ops u)[i]? = some (.invokestatic j)) (hj9 : j < 9991) (hj : hx_ms[j]? = some v) (hd : d' < d) (hn : 0 = hx_na v) (hrl : rest.length ≤ 8) (hct : hy_Ct sc v d' [] t Q') (kk : ∀ r t', Q' r t' → hy_W sc u d (i + 1) loc (hy_st r ++ rest) t' Q) : hy_W sc u d i loc (rest) t Q :=
  hy_callS (as := []) hop hj9 hj hd hn hrl hct kk
theorem hy_cS0e {x : Int} (hop : (hx_ops u)[i]? = some (.invokestatic j)) (hj9 : j < 9991) (hj : hx_ms[j]? = some v) (hd : d' < d) (hn : 0 = hx_na v) (hrl : rest.length ≤ 8) (hct : hy_Ct sc v d' [] t (hy_e (some x) t1)) (kk : hy_W sc u d (i + 1) loc (.inl x :: rest) t1 Q) : hy_W sc u d i loc (rest) t Q :=
  hy_callS (as := []) hop hj9 hj hd hn hrl hct (fun r t' h => by obtain ⟨rfl, rfl⟩ := h; exact kk)
theorem hy_cV1 {a1 : hy_V} {r ci : Nat} {q : vw_C} (hop : (hx_ops u)[i]? = some (.invokevirtual j)) (hj : hx_ms[j]? = some v) (hd : d' < d) (hn : 1 = hx_na v) (hrl : rest.length ≤ 8) (hr : hy_cls r = some ci) (hcl : hx_cl[ci]? = some q) (hqy : q.1 = (hx_y v).cls) (hct : hy_Ct sc v d' [.inr (some r), a1] t Q') (kk : ∀ r t', Q' r t' → hy_W sc u d (i + 1) loc (hy_st r ++ rest) t' Q) : hy_W sc u d i loc (a1 :: .inr (some r) :: rest) t Q :=
  hy_callV (as := [a1]) hop hj hd hn hrl hr hcl hqy hct kk
theorem hy_cV1e {a1 : hy_V} {r ci : Nat} {q : vw_C} {x : Int} (hop : (hx_ops u)[i]? = some (.invokevirtual j)) (hj : hx_ms[j]? = some v) (hd : d' < d) (hn : 1 = hx_na v) (hrl : rest.length ≤ 8) (hr : hy_cls r = some ci) (hcl : hx_cl[ci]? = some q) (hqy : q.1 = (hx_y v).cls) (hct : hy_Ct sc v d' [.inr (some r), a1] t (hy_e (some x) t1)) (kk : hy_W sc u d (i + 1) loc (.inl x :: rest) t1 Q) : hy_W sc u d i loc (a1 :: .inr (some r) :: rest) t Q :=
  hy_callV (as := [a1]) hop hj hd hn hrl hr hcl hqy hct (fun r t' h => by obtain ⟨rfl, rfl⟩ := h; exact kk)
theorem hy_cV1v {a1 : hy_V} {r ci : Nat} {q : vw_C} (hop : (hx_ops u)[i]? = some (.invokevirtual j)) (hj : hx_ms[j]? = some v) (hd : d' < d) (hn : 1 = hx_na v) (hrl : rest.length ≤ 8) (hr : hy_cls r = some ci) (hcl : hx_cl[ci]? = some q) (hqy : q.1 = (hx_y v).cls) (hct : hy_Ct sc v d' [.inr (some r), a1] t (hy_e none t1)) (kk : hy_W sc u d (i + 1) loc rest t1 Q) : hy_W sc u d i loc (a1 :: .inr (some r) :: rest) t Q :=
  hy_callV (as := [a1]) hop hj hd hn hrl hr hcl hqy hct (fun r t' h => by obtain ⟨rfl, rfl⟩ := h; exact kk)
theorem hy_cS1 {a1 : hy_V} (hop : (hx_ops u)[i]? = some (.invokestatic j)) (hj9 : j < 9991) (hj : hx_ms[j]? = some v) (hd : d' < d) (hn : 1 = hx_na v) (hrl : rest.length ≤ 8) (hct : hy_Ct sc v d' [a1] t Q') (kk : ∀ r t', Q' r t' → hy_W sc u d (i + 1) loc (hy_st r ++ rest) t' Q) : hy_W sc u d i loc (a1 :: rest) t Q :=
  hy_callS (as := [a1]) hop hj9 hj hd hn hrl hct kk
theorem hy_cS1e {a1 : hy_V} {x : Int} (hop : (hx_ops u)[i]? = some (.invokestatic j)) (hj9 : j < 9991) (hj : hx_ms[j]? = some v) (hd : d' < d) (hn : 1 = hx_na v) (hrl : rest.length ≤ 8) (hct : hy_Ct sc v d' [a1] t (hy_e (some x) t1)) (kk : hy_W sc u d (i + 1) loc (.inl x :: rest) t1 Q) : hy_W sc u d i loc (a1 :: rest) t Q :=
  hy_callS (as := [a1]) hop hj9 hj hd hn hrl hct (fun r t' h => by obtain ⟨rfl, rfl⟩ := h; exact kk)
theorem hy_cV2 {a1 a2 : hy_V} {r ci : Nat} {q : vw_C} (hop : (hx_ops u)[i]? = some (.invokevirtual j)) (hj : hx_ms[j]? = some v) (hd : d' < d) (hn : 2 = hx_na v) (hrl : rest.length ≤ 8) (hr : hy_cls r = some ci) (hcl : hx_cl[ci]? = some q) (hqy : q.1 = (hx_y v).cls) (hct : hy_Ct sc v d' [.inr (some r), a1, a2] t Q') (kk : ∀ r t', Q' r t' → hy_W sc u d (i + 1) loc (hy_st r ++ rest) t' Q) : hy_W sc u d i loc (a2 :: a1 :: .inr (some r) :: rest) t Q :=
  hy_callV (as := [a1, a2]) hop hj hd hn hrl hr hcl hqy hct kk
theorem hy_cV2e {a1 a2 : hy_V} {r ci : Nat} {q : vw_C} {x : Int} (hop : (hx_ops u)[i]? = some (.invokevirtual j)) (hj : hx_ms[j]? = some v) (hd : d' < d) (hn : 2 = hx_na v) (hrl : rest.length ≤ 8) (hr : hy_cls r = some ci) (hcl : hx_cl[ci]? = some q) (hqy : q.1 = (hx_y v).cls) (hct : hy_Ct sc v d' [.inr (some r), a1, a2] t (hy_e (some x) t1)) (kk : hy_W sc u d (i + 1) loc (.inl x :: rest) t1 Q) : hy_W sc u d i loc (a2 :: a1 :: .inr (some r) :: rest) t Q :=
  hy_callV (as := [a1, a2]) hop hj hd hn hrl hr hcl hqy hct (fun r t' h => by obtain ⟨rfl, rfl⟩ := h; exact kk)
theorem hy_cV2v {a1 a2 : hy_V} {r ci : Nat} {q : vw_C} (hop : (hx_ops u)[i]? = some (.invokevirtual j)) (hj : hx_ms[j]? = some v) (hd : d' < d) (hn : 2 = hx_na v) (hrl : rest.length ≤ 8) (hr : hy_cls r = some ci) (hcl : hx_cl[ci]? = some q) (hqy : q.1 = (hx_y v).cls) (hct : hy_Ct sc v d' [.inr (some r), a1, a2] t (hy_e none t1)) (kk : hy_W sc u d (i + 1) loc rest t1 Q) : hy_W sc u d i loc (a2 :: a1 :: .inr (some r) :: rest) t Q :=
  hy_callV (as := [a1, a2]) hop hj hd hn hrl hr hcl hqy hct (fun r t' h => by obtain ⟨rfl, rfl⟩ := h; exact kk)
theorem hy_cS2 {a1 a2 : hy_V} (hop : (hx_ops u)[i]? = some (.invokestatic j)) (hj9 : j < 9991) (hj : hx_ms[j]? = some v) (hd : d' < d) (hn : 2 = hx_na v) (hrl : rest.length ≤ 8) (hct : hy_Ct sc v d' [a1, a2] t Q') (kk : ∀ r t', Q' r t' → hy_W sc u d (i + 1) loc (hy_st r ++ rest) t' Q) : hy_W sc u d i loc (a2 :: a1 :: rest) t Q :=
  hy_callS (as := [a1, a2]) hop hj9 hj hd hn hrl hct kk
theorem hy_cS2e {a1 a2 : hy_V} {x : Int} (hop : (hx_ops u)[i]? = some (.invokestatic j)) (hj9 : j < 9991) (hj : hx_ms[j]? = some v) (hd : d' < d) (hn : 2 = hx_na v) (hrl : rest.length ≤ 8) (hct : hy_Ct sc v d' [a1, a2] t (hy_e (some x) t1)) (kk : hy_W sc u d (i + 1) loc (.inl x :: rest) t1 Q) : hy_W sc u d i loc (a2 :: a1 :: rest) t Q :=
  hy_callS (as := [a1, a2]) hop hj9 hj hd hn hrl hct (fun r t' h => by obtain ⟨rfl, rfl⟩ := h; exact kk)
theorem hy_cV3 {a1 a2 a3 : hy_V} {r ci : Nat} {q : vw_C} (hop : (hx_ops u)[i]? = some (.invokevirtual j)) (hj : hx_ms[j]? = some v) (hd : d' < d) (hn : 3 = hx_na v) (hrl : rest.length ≤ 8) (hr : hy_cls r = some ci) (hcl : hx_cl[ci]? = some q) (hqy : q.1 = (hx_y v).cls) (hct : hy_Ct sc v d' [.inr (some r), a1, a2, a3] t Q') (kk : ∀ r t', Q' r t' → hy_W sc u d (i + 1) loc (hy_st r ++ rest) t' Q) : hy_W sc u d i loc (a3 :: a2 :: a1 :: .inr (some r) :: rest) t Q :=
  hy_callV (as := [a1, a2, a3]) hop hj hd hn hrl hr hcl hqy hct kk
theorem hy_cV3e {a1 a2 a3 : hy_V} {r ci : Nat} {q : vw_C} {x : Int} (hop : (hx_ops u)[i]? = some (.invokevirtual j)) (hj : hx_ms[j]? = some v) (hd : d' < d) (hn : 3 = hx_na v) (hrl : rest.length ≤ 8) (hr : hy_cls r = some ci) (hcl : hx_cl[ci]? = some q) (hqy : q.1 = (hx_y v).cls) (hct : hy_Ct sc v d' [.inr (some r), a1, a2, a3] t (hy_e (some x) t1)) (kk : hy_W sc u d (i + 1) loc (.inl x :: rest) t1 Q) : hy_W sc u d i loc (a3 :: a2 :: a1 :: .inr (some r) :: rest) t Q :=
  hy_callV (as := [a1, a2, a3]) hop hj hd hn hrl hr hcl hqy hct (fun r t' h => by obtain ⟨rfl, rfl⟩ := h; exact kk)
theorem hy_cV3v {a1 a2 a3 : hy_V} {r ci : Nat} {q : vw_C} (hop : (hx_ops u)[i]? = some (.invokevirtual j)) (hj : hx_ms[j]? = some v) (hd : d' < d) (hn : 3 = hx_na v) (hrl : rest.length ≤ 8) (hr : hy_cls r = some ci) (hcl : hx_cl[ci]? = some q) (hqy : q.1 = (hx_y v).cls) (hct : hy_Ct sc v d' [.inr (some r), a1, a2, a3] t (hy_e none t1)) (kk : hy_W sc u d (i + 1) loc rest t1 Q) : hy_W sc u d i loc (a3 :: a2 :: a1 :: .inr (some r) :: rest) t Q :=
  hy_callV (as := [a1, a2, a3]) hop hj hd hn hrl hr hcl hqy hct (fun r t' h => by obtain ⟨rfl, rfl⟩ := h; exact kk)
theorem hy_cS3 {a1 a2 a3 : hy_V} (hop : (hx_ops u)[i]? = some (.invokestatic j)) (hj9 : j < 9991) (hj : hx_ms[j]? = some v) (hd : d' < d) (hn : 3 = hx_na v) (hrl : rest.length ≤ 8) (hct : hy_Ct sc v d' [a1, a2, a3] t Q') (kk : ∀ r t', Q' r t' → hy_W sc u d (i + 1) loc (hy_st r ++ rest) t' Q) : hy_W sc u d i loc (a3 :: a2 :: a1 :: rest) t Q :=
  hy_callS (as := [a1, a2, a3]) hop hj9 hj hd hn hrl hct kk
theorem hy_cS3e {a1 a2 a3 : hy_V} {x : Int} (hop : (hx_ops u)[i]? = some (.invokestatic j)) (hj9 : j < 9991) (hj : hx_ms[j]? = some v) (hd : d' < d) (hn : 3 = hx_na v) (hrl : rest.length ≤ 8) (hct : hy_Ct sc v d' [a1, a2, a3] t (hy_e (some x) t1)) (kk : hy_W sc u d (i + 1) loc (.inl x :: rest) t1 Q) : hy_W sc u d i loc (a3 :: a2 :: a1 :: rest) t Q :=
  hy_callS (as := [a1, a2, a3]) hop hj9 hj hd hn hrl hct (fun r t' h => by obtain ⟨rfl, rfl⟩ := h; exact kk)
theorem hy_cV4 {a1 a2 a3 a4 : hy_V} {r ci : Nat} {q : vw_C} (hop : (hx_ops u)[i]? = some (.invokevirtual j)) (hj : hx_ms[j]? = some v) (hd : d' < d) (hn : 4 = hx_na v) (hrl : rest.length ≤ 8) (hr : hy_cls r = some ci) (hcl : hx_cl[ci]? = some q) (hqy : q.1 = (hx_y v).cls) (hct : hy_Ct sc v d' [.inr (some r), a1, a2, a3, a4] t Q') (kk : ∀ r t', Q' r t' → hy_W sc u d (i + 1) loc (hy_st r ++ rest) t' Q) : hy_W sc u d i loc (a4 :: a3 :: a2 :: a1 :: .inr (some r) :: rest) t Q :=
  hy_callV (as := [a1, a2, a3, a4]) hop hj hd hn hrl hr hcl hqy hct kk
theorem hy_cV4e {a1 a2 a3 a4 : hy_V} {r ci : Nat} {q : vw_C} {x : Int} (hop : (hx_ops u)[i]? = some (.invokevirtual j)) (hj : hx_ms[j]? = some v) (hd : d' < d) (hn : 4 = hx_na v) (hrl : rest.length ≤ 8) (hr : hy_cls r = some ci) (hcl : hx_cl[ci]? = some q) (hqy : q.1 = (hx_y v).cls) (hct : hy_Ct sc v d' [.inr (some r), a1, a2, a3, a4] t (hy_e (some x) t1)) (kk : hy_W sc u d (i + 1) loc (.inl x :: rest) t1 Q) : hy_W sc u d i loc (a4 :: a3 :: a2 :: a1 :: .inr (some r) :: rest) t Q :=
  hy_callV (as := [a1, a2, a3, a4]) hop hj hd hn hrl hr hcl hqy hct (fun r t' h => by obtain ⟨rfl, rfl⟩ := h; exact kk)
theorem hy_cV4v {a1 a2 a3 a4 : hy_V} {r ci : Nat} {q : vw_C} (hop : (hx_ops u)[i]? = some (.invokevirtual j)) (hj : hx_ms[j]? = some v) (hd : d' < d) (hn : 4 = hx_na v) (hrl : rest.length ≤ 8) (hr : hy_cls r = some ci) (hcl : hx_cl[ci]? = some q) (hqy : q.1 = (hx_y v).cls) (hct : hy_Ct sc v d' [.inr (some r), a1, a2, a3, a4] t (hy_e none t1)) (kk : hy_W sc u d (i + 1) loc rest t1 Q) : hy_W sc u d i loc (a4 :: a3 :: a2 :: a1 :: .inr (some r) :: rest) t Q :=
  hy_callV (as := [a1, a2, a3, a4]) hop hj hd hn hrl hr hcl hqy hct (fun r t' h => by obtain ⟨rfl, rfl⟩ := h; exact kk)
theorem hy_cS4 {a1 a2 a3 a4 : hy_V} (hop : (hx_ops u)[i]? = some (.invokestatic j)) (hj9 : j < 9991) (hj : hx_ms[j]? = some v) (hd : d' < d) (hn : 4 = hx_na v) (hrl : rest.length ≤ 8) (hct : hy_Ct sc v d' [a1, a2, a3, a4] t Q') (kk : ∀ r t', Q' r t' → hy_W sc u d (i + 1) loc (hy_st r ++ rest) t' Q) : hy_W sc u d i loc (a4 :: a3 :: a2 :: a1 :: rest) t Q :=
  hy_callS (as := [a1, a2, a3, a4]) hop hj9 hj hd hn hrl hct kk
theorem hy_cS4e {a1 a2 a3 a4 : hy_V} {x : Int} (hop : (hx_ops u)[i]? = some (.invokestatic j)) (hj9 : j < 9991) (hj : hx_ms[j]? = some v) (hd : d' < d) (hn : 4 = hx_na v) (hrl : rest.length ≤ 8) (hct : hy_Ct sc v d' [a1, a2, a3, a4] t (hy_e (some x) t1)) (kk : hy_W sc u d (i + 1) loc (.inl x :: rest) t1 Q) : hy_W sc u d i loc (a4 :: a3 :: a2 :: a1 :: rest) t Q :=
  hy_callS (as := [a1, a2, a3, a4]) hop hj9 hj hd hn hrl hct (fun r t' h => by obtain ⟨rfl, rfl⟩ := h; exact kk)
theorem hy_cV5 {a1 a2 a3 a4 a5 : hy_V} {r ci : Nat} {q : vw_C} (hop : (hx_ops u)[i]? = some (.invokevirtual j)) (hj : hx_ms[j]? = some v) (hd : d' < d) (hn : 5 = hx_na v) (hrl : rest.length ≤ 8) (hr : hy_cls r = some ci) (hcl : hx_cl[ci]? = some q) (hqy : q.1 = (hx_y v).cls) (hct : hy_Ct sc v d' [.inr (some r), a1, a2, a3, a4, a5] t Q') (kk : ∀ r t', Q' r t' → hy_W sc u d (i + 1) loc (hy_st r ++ rest) t' Q) : hy_W sc u d i loc (a5 :: a4 :: a3 :: a2 :: a1 :: .inr (some r) :: rest) t Q :=
  hy_callV (as := [a1, a2, a3, a4, a5]) hop hj hd hn hrl hr hcl hqy hct kk
theorem hy_cV5e {a1 a2 a3 a4 a5 : hy_V} {r ci : Nat} {q : vw_C} {x : Int} (hop : (hx_ops u)[i]? = some (.invokevirtual j)) (hj : hx_ms[j]? = some v) (hd : d' < d) (hn : 5 = hx_na v) (hrl : rest.length ≤ 8) (hr : hy_cls r = some ci) (hcl : hx_cl[ci]? = some q) (hqy : q.1 = (hx_y v).cls) (hct : hy_Ct sc v d' [.inr (some r), a1, a2, a3, a4, a5] t (hy_e (some x) t1)) (kk : hy_W sc u d (i + 1) loc (.inl x :: rest) t1 Q) : hy_W sc u d i loc (a5 :: a4 :: a3 :: a2 :: a1 :: .inr (some r) :: rest) t Q :=
  hy_callV (as := [a1, a2, a3, a4, a5]) hop hj hd hn hrl hr hcl hqy hct (fun r t' h => by obtain ⟨rfl, rfl⟩ := h; exact kk)
theorem hy_cV5v {a1 a2 a3 a4 a5 : hy_V} {r ci : Nat} {q : vw_C} (hop : (hx_ops u)[i]? = some (.invokevirtual j)) (hj : hx_ms[j]? = some v) (hd : d' < d) (hn : 5 = hx_na v) (hrl : rest.length ≤ 8) (hr : hy_cls r = some ci) (hcl : hx_cl[ci]? = some q) (hqy : q.1 = (hx_y v).cls) (hct : hy_Ct sc v d' [.inr (some r), a1, a2, a3, a4, a5] t (hy_e none t1)) (kk : hy_W sc u d (i + 1) loc rest t1 Q) : hy_W sc u d i loc (a5 :: a4 :: a3 :: a2 :: a1 :: .inr (some r) :: rest) t Q :=
  hy_callV (as := [a1, a2, a3, a4, a5]) hop hj hd hn hrl hr hcl hqy hct (fun r t' h => by obtain ⟨rfl, rfl⟩ := h; exact kk)
theorem hy_cS5 {a1 a2 a3 a4 a5 : hy_V} (hop : (hx_ops u)[i]? = some (.invokestatic j)) (hj9 : j < 9991) (hj : hx_ms[j]? = some v) (hd : d' < d) (hn : 5 = hx_na v) (hrl : rest.length ≤ 8) (hct : hy_Ct sc v d' [a1, a2, a3, a4, a5] t Q') (kk : ∀ r t', Q' r t' → hy_W sc u d (i + 1) loc (hy_st r ++ rest) t' Q) : hy_W sc u d i loc (a5 :: a4 :: a3 :: a2 :: a1 :: rest) t Q :=
  hy_callS (as := [a1, a2, a3, a4, a5]) hop hj9 hj hd hn hrl hct kk
theorem hy_cS5e {a1 a2 a3 a4 a5 : hy_V} {x : Int} (hop : (hx_ops u)[i]? = some (.invokestatic j)) (hj9 : j < 9991) (hj : hx_ms[j]? = some v) (hd : d' < d) (hn : 5 = hx_na v) (hrl : rest.length ≤ 8) (hct : hy_Ct sc v d' [a1, a2, a3, a4, a5] t (hy_e (some x) t1)) (kk : hy_W sc u d (i + 1) loc (.inl x :: rest) t1 Q) : hy_W sc u d i loc (a5 :: a4 :: a3 :: a2 :: a1 :: rest) t Q :=
  hy_callS (as := [a1, a2, a3, a4, a5]) hop hj9 hj hd hn hrl hct (fun r t' h => by obtain ⟨rfl, rfl⟩ := h; exact kk)
theorem hy_cV6 {a1 a2 a3 a4 a5 a6 : hy_V} {r ci : Nat} {q : vw_C} (hop : (hx_ops u)[i]? = some (.invokevirtual j)) (hj : hx_ms[j]? = some v) (hd : d' < d) (hn : 6 = hx_na v) (hrl : rest.length ≤ 8) (hr : hy_cls r = some ci) (hcl : hx_cl[ci]? = some q) (hqy : q.1 = (hx_y v).cls) (hct : hy_Ct sc v d' [.inr (some r), a1, a2, a3, a4, a5, a6] t Q') (kk : ∀ r t', Q' r t' → hy_W sc u d (i + 1) loc (hy_st r ++ rest) t' Q) : hy_W sc u d i loc (a6 :: a5 :: a4 :: a3 :: a2 :: a1 :: .inr (some r) :: rest) t Q :=
  hy_callV (as := [a1, a2, a3, a4, a5, a6]) hop hj hd hn hrl hr hcl hqy hct kk
theorem hy_cV6e {a1 a2 a3 a4 a5 a6 : hy_V} {r ci : Nat} {q : vw_C} {x : Int} (hop : (hx_ops u)[i]? = some (.invokevirtual j)) (hj : hx_ms[j]? = some v) (hd : d' < d) (hn : 6 = hx_na v) (hrl : rest.length ≤ 8) (hr : hy_cls r = some ci) (hcl : hx_cl[ci]? = some q) (hqy : q.1 = (hx_y v).cls) (hct : hy_Ct sc v d' [.inr (some r), a1, a2, a3, a4, a5, a6] t (hy_e (some x) t1)) (kk : hy_W sc u d (i + 1) loc (.inl x :: rest) t1 Q) : hy_W sc u d i loc (a6 :: a5 :: a4 :: a3 :: a2 :: a1 :: .inr (some r) :: rest) t Q :=
  hy_callV (as := [a1, a2, a3, a4, a5, a6]) hop hj hd hn hrl hr hcl hqy hct (fun r t' h => by obtain ⟨rfl, rfl⟩ := h; exact kk)
theorem hy_cV6v {a1 a2 a3 a4 a5 a6 : hy_V} {r ci : Nat} {q : vw_C} (hop : (hx_ops u)[i]? = some (.invokevirtual j)) (hj : hx_ms[j]? = some v) (hd : d' < d) (hn : 6 = hx_na v) (hrl : rest.length ≤ 8) (hr : hy_cls r = some ci) (hcl : hx_cl[ci]? = some q) (hqy : q.1 = (hx_y v).cls) (hct : hy_Ct sc v d' [.inr (some r), a1, a2, a3, a4, a5, a6] t (hy_e none t1)) (kk : hy_W sc u d (i + 1) loc rest t1 Q) : hy_W sc u d i loc (a6 :: a5 :: a4 :: a3 :: a2 :: a1 :: .inr (some r) :: rest) t Q :=
  hy_callV (as := [a1, a2, a3, a4, a5, a6]) hop hj hd hn hrl hr hcl hqy hct (fun r t' h => by obtain ⟨rfl, rfl⟩ := h; exact kk)
theorem hy_cS6 {a1 a2 a3 a4 a5 a6 : hy_V} (hop : (hx_ops u)[i]? = some (.invokestatic j)) (hj9 : j < 9991) (hj : hx_ms[j]? = some v) (hd : d' < d) (hn : 6 = hx_na v) (hrl : rest.length ≤ 8) (hct : hy_Ct sc v d' [a1, a2, a3, a4, a5, a6] t Q') (kk : ∀ r t', Q' r t' → hy_W sc u d (i + 1) loc (hy_st r ++ rest) t' Q) : hy_W sc u d i loc (a6 :: a5 :: a4 :: a3 :: a2 :: a1 :: rest) t Q :=
  hy_callS (as := [a1, a2, a3, a4, a5, a6]) hop hj9 hj hd hn hrl hct kk
theorem hy_cS6e {a1 a2 a3 a4 a5 a6 : hy_V} {x : Int} (hop : (hx_ops u)[i]? = some (.invokestatic j)) (hj9 : j < 9991) (hj : hx_ms[j]? = some v) (hd : d' < d) (hn : 6 = hx_na v) (hrl : rest.length ≤ 8) (hct : hy_Ct sc v d' [a1, a2, a3, a4, a5, a6] t (hy_e (some x) t1)) (kk : hy_W sc u d (i + 1) loc (.inl x :: rest) t1 Q) : hy_W sc u d i loc (a6 :: a5 :: a4 :: a3 :: a2 :: a1 :: rest) t Q :=
  hy_callS (as := [a1, a2, a3, a4, a5, a6]) hop hj9 hj hd hn hrl hct (fun r t' h => by obtain ⟨rfl, rfl⟩ := h; exact kk)
theorem hy_cV7 {a1 a2 a3 a4 a5 a6 a7 : hy_V} {r ci : Nat} {q : vw_C} (hop : (hx_ops u)[i]? = some (.invokevirtual j)) (hj : hx_ms[j]? = some v) (hd : d' < d) (hn : 7 = hx_na v) (hrl : rest.length ≤ 8) (hr : hy_cls r = some ci) (hcl : hx_cl[ci]? = some q) (hqy : q.1 = (hx_y v).cls) (hct : hy_Ct sc v d' [.inr (some r), a1, a2, a3, a4, a5, a6, a7] t Q') (kk : ∀ r t', Q' r t' → hy_W sc u d (i + 1) loc (hy_st r ++ rest) t' Q) : hy_W sc u d i loc (a7 :: a6 :: a5 :: a4 :: a3 :: a2 :: a1 :: .inr (some r) :: rest) t Q :=
  hy_callV (as := [a1, a2, a3, a4, a5, a6, a7]) hop hj hd hn hrl hr hcl hqy hct kk
theorem hy_cV7e {a1 a2 a3 a4 a5 a6 a7 : hy_V} {r ci : Nat} {q : vw_C} {x : Int} (hop : (hx_ops u)[i]? = some (.invokevirtual j)) (hj : hx_ms[j]? = some v) (hd : d' < d) (hn : 7 = hx_na v) (hrl : rest.length ≤ 8) (hr : hy_cls r = some ci) (hcl : hx_cl[ci]? = some q) (hqy : q.1 = (hx_y v).cls) (hct : hy_Ct sc v d' [.inr (some r), a1, a2, a3, a4, a5, a6, a7] t (hy_e (some x) t1)) (kk : hy_W sc u d (i + 1) loc (.inl x :: rest) t1 Q) : hy_W sc u d i loc (a7 :: a6 :: a5 :: a4 :: a3 :: a2 :: a1 :: .inr (some r) :: rest) t Q :=
  hy_callV (as := [a1, a2, a3, a4, a5, a6, a7]) hop hj hd hn hrl hr hcl hqy hct (fun r t' h => by obtain ⟨rfl, rfl⟩ := h; exact kk)
theorem hy_cV7v {a1 a2 a3 a4 a5 a6 a7 : hy_V} {r ci : Nat} {q : vw_C} (hop : (hx_ops u)[i]? = some (.invokevirtual j)) (hj : hx_ms[j]? = some v) (hd : d' < d) (hn : 7 = hx_na v) (hrl : rest.length ≤ 8) (hr : hy_cls r = some ci) (hcl : hx_cl[ci]? = some q) (hqy : q.1 = (hx_y v).cls) (hct : hy_Ct sc v d' [.inr (some r), a1, a2, a3, a4, a5, a6, a7] t (hy_e none t1)) (kk : hy_W sc u d (i + 1) loc rest t1 Q) : hy_W sc u d i loc (a7 :: a6 :: a5 :: a4 :: a3 :: a2 :: a1 :: .inr (some r) :: rest) t Q :=
  hy_callV (as := [a1, a2, a3, a4, a5, a6, a7]) hop hj hd hn hrl hr hcl hqy hct (fun r t' h => by obtain ⟨rfl, rfl⟩ := h; exact kk)
theorem hy_cS7 {a1 a2 a3 a4 a5 a6 a7 : hy_V} (hop : (hx_ops u)[i]? = some (.invokestatic j)) (hj9 : j < 9991) (hj : hx_ms[j]? = some v) (hd : d' < d) (hn : 7 = hx_na v) (hrl : rest.length ≤ 8) (hct : hy_Ct sc v d' [a1, a2, a3, a4, a5, a6, a7] t Q') (kk : ∀ r t', Q' r t' → hy_W sc u d (i + 1) loc (hy_st r ++ rest) t' Q) : hy_W sc u d i loc (a7 :: a6 :: a5 :: a4 :: a3 :: a2 :: a1 :: rest) t Q :=
  hy_callS (as := [a1, a2, a3, a4, a5, a6, a7]) hop hj9 hj hd hn hrl hct kk
theorem hy_cS7e {a1 a2 a3 a4 a5 a6 a7 : hy_V} {x : Int} (hop : (hx_ops u)[i]? = some (.invokestatic j)) (hj9 : j < 9991) (hj : hx_ms[j]? = some v) (hd : d' < d) (hn : 7 = hx_na v) (hrl : rest.length ≤ 8) (hct : hy_Ct sc v d' [a1, a2, a3, a4, a5, a6, a7] t (hy_e (some x) t1)) (kk : hy_W sc u d (i + 1) loc (.inl x :: rest) t1 Q) : hy_W sc u d i loc (a7 :: a6 :: a5 :: a4 :: a3 :: a2 :: a1 :: rest) t Q :=
  hy_callS (as := [a1, a2, a3, a4, a5, a6, a7]) hop hj9 hj hd hn hrl hct (fun r t' h => by obtain ⟨rfl, rfl⟩ := h; exact kk)
end HYD
