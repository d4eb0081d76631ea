/-! Math, arraycopy, Object's constructor, new cells, switches -/
set_option maxRecDepth 20000 in
theorem hx_math_ws : hx_wd 2174 (.static Lib.Math.min.name) = true ∧ hx_wd 2175 (.code Lib.Math.min.name Lib.Math.min.code 2 (some .int)) = true ∧ hx_wd 3238 (.static Lib.Math.max.name) = true ∧ hx_wd 3239 (.code Lib.Math.max.name Lib.Math.max.code 2 (some .int)) = true ∧ hx_wd 5028 (.static Lib.Math.abs.name) = true ∧ hx_wd 5029 (.code Lib.Math.abs.name Lib.Math.abs.code 1 (some .int)) = true ∧ hx_wd 1013 (.initialized "java/lang/Math") = true := by decide +kernel
set_option maxRecDepth 20000 in
theorem hx_sys_ws : hx_wd 3021 (.native arraycopyName) = true ∧ hx_wd 3020 (.static arraycopyName) = true ∧ hx_wd 1014 (.initialized "java/lang/System") = true ∧ hx_wd 1022 (.instanceMethod Lib.objectInit) = true ∧ hx_wd 1023 (.code Lib.objectInit ⟨#[0xb1]⟩ 1 none) = true := by decide +kernel
theorem hx_cpy {xs ys : List Int32} {n : Nat} (h1 : n ≤ xs.length) (h2 : n ≤ ys.length) : va_cpy (fun j => xs.getD j 0) (fun j => ys.getD j 0) 0 0 n = fun j => (xs.take n ++ ys.drop n).getD j 0 := by
  funext j
  simp only [va_cpy, List.getD_eq_getElem?_getD, Nat.zero_le, true_and, Nat.zero_add, Nat.sub_zero]
  by_cases hj : j < n
  · rw [if_pos hj, List.getElem?_append_left (by rw [List.length_take]; omega), List.getElem?_take_of_lt hj]
  · rw [if_neg hj, List.getElem?_append_right (by rw [List.length_take]; omega), List.length_take, List.getElem?_drop]
    congr 2
    omega
section HXU
variable {sc : List Int32} {u : hx_M} {d i : Nat} {loc st : List Value} {h : hx_H} {kc ks : Nat} {Q : Option Int32 → hx_H → Prop}
theorem hx_min {x y : Int32} (hop : (hx_ops u)[i]? = some (.invokestatic 9991)) (hst : st.all hx_v = true) (hl : st.length ≤ 8) (kk : hx_W sc u d (i + 1) loc (.int (if y < x then y else x) :: st) h kc ks Q) : hx_W sc u d i loc (.int y :: .int x :: st) h kc ks Q := by
  intro b o base D cA p l e R s m args below meth c H locs cells slots Qm ls hok hc hf hR hw hS hL hq
  have h1 := hx_at hok hop
  have h2 := kk b o base D cA p l e R s m args below meth c H locs cells slots Qm ls hok hc hf hR hw hS hL hq
  simp only [hx_okI, if_pos, Bool.and_eq_true] at h1
  obtain ⟨e1, e2⟩ := hx_dec_s h1.1
  rw [e2] at h2
  have hts := hc.2.2.2.2.1
  obtain ⟨w1, w2, w3, w4, w5, w6, w7⟩ := hx_math_ws
  exact va_mmin hc.1 hc.2.1 (hc.2.2.1.trans hL.1.symm) hc.2.2.2.1 (hts _ (hx_wd_in h1.2)) (hts _ (hx_wd_in w1)) (hts _ (hx_wd_in w7)) (hts _ (hx_wd_in w2)) (by omega) (by rw [hx_catsum hst _ (hx_g_cat b o base)]; omega) (by omega) (by omega) e1 h2
theorem hx_max {x y : Int32} (hop : (hx_ops u)[i]? = some (.invokestatic 9992)) (hst : st.all hx_v = true) (hl : st.length ≤ 8) (kk : hx_W sc u d (i + 1) loc (.int (if x < y then y else x) :: st) h kc ks Q) : hx_W sc u d i loc (.int y :: .int x :: st) h kc ks Q := by
  intro b o base D cA p l e R s m args below meth c H locs cells slots Qm ls hok hc hf hR hw hS hL hq
  have h1 := hx_at hok hop
  have h2 := kk b o base D cA p l e R s m args below meth c H locs cells slots Qm ls hok hc hf hR hw hS hL hq
  simp only [hx_okI, if_pos, if_neg (show ¬ (9992 = 9991) by decide), Bool.and_eq_true] at h1
  obtain ⟨e1, e2⟩ := hx_dec_s h1.1
  rw [e2] at h2
  have hts := hc.2.2.2.2.1
  obtain ⟨w1, w2, w3, w4, w5, w6, w7⟩ := hx_math_ws
  exact va_mmax hc.1 hc.2.1 (hc.2.2.1.trans hL.1.symm) hc.2.2.2.1 (hts _ (hx_wd_in h1.2)) (hts _ (hx_wd_in w3)) (hts _ (hx_wd_in w7)) (hts _ (hx_wd_in w4)) (by omega) (by rw [hx_catsum hst _ (hx_g_cat b o base)]; omega) (by omega) (by omega) e1 h2
theorem hx_abs {x : Int32} (hop : (hx_ops u)[i]? = some (.invokestatic 9993)) (hst : st.all hx_v = true) (hl : st.length ≤ 8) (kk : hx_W sc u d (i + 1) loc (.int (if 0 ≤ x then x else 0 - x) :: st) h kc ks Q) : hx_W sc u d i loc (.int x :: st) h kc ks Q := by
  intro b o base D cA p l e R s m args below meth c H locs cells slots Qm ls hok hc hf hR hw hS hL hq
  have h1 := hx_at hok hop
  have h2 := kk b o base D cA p l e R s m args below meth c H locs cells slots Qm ls hok hc hf hR hw hS hL hq
  simp only [hx_okI, if_pos, if_neg (show ¬ (9993 = 9991) by decide), if_neg (show ¬ (9993 = 9992) by decide), Bool.and_eq_true] at h1
  obtain ⟨e1, e2⟩ := hx_dec_s h1.1
  rw [e2] at h2
  have hts := hc.2.2.2.2.1
  obtain ⟨w1, w2, w3, w4, w5, w6, w7⟩ := hx_math_ws
  exact va_mabs hc.1 hc.2.1 (hc.2.2.1.trans hL.1.symm) hc.2.2.2.1 (hts _ (hx_wd_in h1.2)) (hts _ (hx_wd_in w5)) (hts _ (hx_wd_in w7)) (hts _ (hx_wd_in w6)) (by omega) (by rw [hx_catsum hst _ (hx_g_cat b o base)]; omega) (by omega) (by omega) e1 h2
/-- arraycopy of the first n of one int array over those of another -/
theorem hx_copy {a0 a1 : Nat} {xs ys : List Int32} {n : Int32} (hop : (hx_ops u)[i]? = some (.invokestatic 9999)) (hst : st.all hx_v = true) (hl : st.length ≤ 8) (hc0 : h[a0]? = some (.inl (0, xs))) (hc1 : h[a1]? = some (.inl (0, ys))) (hn : ¬ n < 0) (hn0 : n.toNatClampNeg ≤ xs.length) (hn1 : n.toNatClampNeg ≤ ys.length)
    (kk : hx_W sc u d (i + 1) loc st (h.set a1 (.inl (0, xs.take n.toNatClampNeg ++ ys.drop n.toNatClampNeg))) kc ks Q) : hx_W sc u d i loc (.int n :: .int 0 :: .ref (a1 + 2) :: .int 0 :: .ref (a0 + 2) :: st) h kc ks Q := by
  intro b o base D cA p l e R s m args below meth c H locs cells slots Qm ls hok hc hf hR hw hS hL hq
  have h1 := hx_at hok hop
  simp only [hx_okI, if_pos, if_neg (show ¬ (9999 = 9991) by decide), if_neg (show ¬ (9999 = 9992) by decide), if_neg (show ¬ (9999 = 9993) by decide), Bool.and_eq_true] at h1
  obtain ⟨e1, e2⟩ := hx_dec_s h1.1
  have hts := hc.2.2.2.2.1
  obtain ⟨w1, w2, w3, w4, w5⟩ := hx_sys_ws
  have nn : ∀ z : Int32, ¬ z < 0 → z.toInt = (z.toNatClampNeg : Int) := by
    intro z hz
    have hz0 : (0 : Int) ≤ z.toInt := by
      have := Int32.not_lt.mp hz
      simpa using Int32.le_iff_toInt_le.mp this
    show z.toInt = ((z.toInt.toNat : Nat) : Int)
    omega
  have z0 : (0 : Int32).toNatClampNeg = 0 := rfl
  intro T hT X
  have hP := hw.2
  have g0 : H[base + a0]? = some (vp_cell (cA 0) (xs.length, .inl (fun j => xs.getD j 0))) := hP a0 _ (hx_w_get hc0)
  have g1 : H[base + a1]? = some (vp_cell (cA 0) (ys.length, .inl (fun j => ys.getD j 0))) := hP a1 _ (hx_w_get hc1)
  obtain ⟨-, k0, hk0, cm0, hkk0⟩ := (hf.1.2 0 _ rfl).1 xs.length (fun j => .int (xs.getD j 0))
  obtain ⟨-, k1, hk1, cm1, hkk1⟩ := (hf.1.2 0 _ rfl).1 ys.length (fun j => .int (ys.getD j 0))
  obtain ⟨vm', X', step⟩ := X.arraycopy hc.1 hc.2.2.2.1 (hts _ (hx_wd_in h1.2)) (hts _ (hx_wd_in w1)) (hts _ (hx_wd_in w2)) (hts _ (hx_wd_in w3)) (src := base + a0) (dst := base + a1) (cs := vp_cell (cA 0) (xs.length, .inl (fun j => xs.getD j 0))) (cd := vp_cell (cA 0) (ys.length, .inl (fun j => ys.getD j 0))) (srcPos := 0) (destPos := 0) (n := n) (by rw [hT]; exact g0) (by rw [hT]; exact g1)
    (fun _ h => by cases h) (fun _ h => by cases h) (fun h => by cases h) (fun h => by cases h) hk0 hk1 hkk0 hkk1 (by rfl) (by decide) (by decide) hn
    (by rw [nn n hn]; show ¬ _ > ((arrV (cA 0) xs.length (fun j => .int (xs.getD j 0))).slots.size : Int); rw [arrV_size, show (0 : Int32).toInt = 0 from rfl]; omega)
    (by rw [nn n hn]; show ¬ _ > ((arrV (cA 0) ys.length (fun j => .int (ys.getD j 0))).slots.size : Int); rw [arrV_size, show (0 : Int32).toInt = 0 from rfl]; omega)
    (fun vm₁ _ j hj => by
      have e : (vp_cell (cA 0) (xs.length, .inl (fun j => xs.getD j 0))).slots.getD ((0 : Int32).toNatClampNeg + j) .null = .int (xs.getD ((0 : Int32).toNatClampNeg + j) 0) := by
        show (arrV (cA 0) xs.length (fun j => .int (xs.getD j 0))).slots.getD _ _ = _
        rw [Array.getD_eq_getD_getElem?, arrV_read _ _ (by rw [z0]; omega)]
        rfl
      refine ⟨?_, ?_⟩
      · rw [e]
        rfl
      · rw [e]
        exact trivial)
    (g := F0 m (hx_pc u i) ls (.int n :: .int 0 :: .ref (base + a1) :: .int 0 :: .ref (base + a0) :: st.map (hx_g b o base))) rfl (by rw [hc.2.2.1]; exact hL.1) (rest := st.map (hx_g b o base)) rfl (by rw [hc.2.1]; exact e1) (by omega) (by show 2 * 0 + _ + _ ≤ _; rw [hx_catsum hst _ (hx_g_cat b o base), show nativeFrameWords "java/lang/System" "arraycopy" 5 = 7 from by decide]; omega)
  have e3 : copied (vp_cell (cA 0) (xs.length, .inl (fun j => xs.getD j 0))) (vp_cell (cA 0) (ys.length, .inl (fun j => ys.getD j 0))) 0 0 n = vp_cell (cA 0) (ys.length, .inl (va_cpy (fun j => xs.getD j 0) (fun j => ys.getD j 0) 0 0 n.toNatClampNeg)) := va_copied (fun z => .int z) (cA 0) (cA 0) (fun j => xs.getD j 0) (fun j => ys.getD j 0) (by rw [z0]; omega)
  rw [e3, hx_cpy hn0 hn1] at X' step
  have hlt : base + a1 < H.size := (Array.getElem?_eq_some_iff.mp g1).1
  have hlen : (xs.take n.toNatClampNeg ++ ys.drop n.toNatClampNeg).length = ys.length := by simp; omega
  have hheap : ((T.setVm vm').setCell (base + a1) (vp_cell (cA 0) (ys.length, .inl (fun j => (xs.take n.toNatClampNeg ++ ys.drop n.toNatClampNeg).getD j 0)))).heap = H.setIfInBounds (base + a1) (vp_cell (cA 0) (ys.length, .inl (fun j => (xs.take n.toNatClampNeg ++ ys.drop n.toNatClampNeg).getD j 0))) := by rw [← hT]; rfl
  have oq : ∀ q : Nat, q ≠ base + a1 → (H.setIfInBounds (base + a1) (vp_cell (cA 0) (ys.length, .inl (fun j => (xs.take n.toNatClampNeg ++ ys.drop n.toNatClampNeg).getD j 0))))[q]? = H[q]? := fun q hq => by simp [Array.getElem?_setIfInBounds, Ne.symm hq]
  have h2 := kk b o base D cA p l e R s m args below meth c (H.setIfInBounds (base + a1) (vp_cell (cA 0) (ys.length, .inl (fun j => (xs.take n.toNatClampNeg ++ ys.drop n.toNatClampNeg).getD j 0)))) _ cells slots Qm ls hok hc hf hR ⟨by simp; exact hw.1, by
      rw [hx_w_set]
      refine hP.set (hx_w_D b o base cA h) (hx_w_get hc1) ?_ oq
      show (H.setIfInBounds (base + a1) _)[base + a1]? = some (vp_cell (cA 0) ((xs.take n.toNatClampNeg ++ ys.drop n.toNatClampNeg).length, .inl (fun j => (xs.take n.toNatClampNeg ++ ys.drop n.toNatClampNeg).getD j 0)))
      rw [hlen]
      simp [Array.getElem?_setIfInBounds, hlt]⟩ ⟨by simp; exact hS.1, fun q g1 g2 => by
      rw [oq q (fun e => g2 (by rw [e]; omega))]
      exact hS.2.1 q g1 g2, fun q hq => by
      rcases List.mem_append.mp hq with h | h
      · exact hS.2.2 q h
      · obtain ⟨z, -, hz⟩ := List.mem_map.mp h
        rw [← hz]
        show base ≤ base + a1
        omega⟩ hL hq _ hheap X'
  obtain ⟨t, a1, b1⟩ := h2
  rw [e2] at a1
  exact ⟨t, step t a1, b1⟩
theorem hx_oinit {a : Nat} (hop : (hx_ops u)[i]? = some (.invokespecial 9999)) (hst : st.all hx_v = true) (hl : st.length ≤ 8) (kk : hx_W sc u d (i + 1) loc st h kc ks Q) : hx_W sc u d i loc (.ref (a + 2) :: st) h kc ks Q := by
  intro b o base D cA p l e R s m args below meth c H locs cells slots Qm ls hok hc hf hR hw hS hL hq
  have h1 := hx_at hok hop
  have h2 := kk b o base D cA p l e R s m args below meth c H locs cells slots Qm ls hok hc hf hR hw hS hL hq
  simp only [hx_okI, if_pos, Bool.and_eq_true] at h1
  obtain ⟨e1, e2⟩ := hx_dec_s h1.1
  rw [e2] at h2
  have hts := hc.2.2.2.2.1
  obtain ⟨w1, w2, w3, w4, w5⟩ := hx_sys_ws
  exact W.objInit hc.1 hc.2.1 hc.2.2.2.1 (hts _ (hx_wd_in h1.2)) (hts _ (hx_wd_in w4)) (hts _ (hx_wd_in w5)) rfl (by rw [hc.2.2.1]; exact hL.1) rfl e1 (by omega) (by show 2 * 0 + _ + 12 ≤ _; rw [hx_catsum hst _ (hx_g_cat b o base)]; omega) h2
/-- a new object -/
theorem hx_new {ci : Nat} {q : vw_C} {fs : List Value} {ty : Nat → FieldType} (hop : (hx_ops u)[i]? = some (.new ci)) (hcl : hx_cl[ci]? = some q) (hty : ∀ k, k < q.2.2 → parseFieldDescriptor (q.2.1 k).2.2.1 = some (ty k)) (hfs : ∀ j, j < q.2.2 → defaultValue (ty j) = vp_V fs j) (hng : ∀ b o base, fs.map (hx_g b o base) = fs)
    (kk : hx_W sc u d (i + 1) loc (.ref (h.length + 2) :: st) (h ++ [.inr (ci, fs)]) kc ks Q) : hx_W sc u d i loc st h (kc + 1) (ks + q.2.2) Q := by
  intro b o base D cA p l e R s m args below meth c H locs cells slots Qm ls hok hc hf hR hw hS hL hq
  have h1 := hx_at hok hop
  simp only [hx_okI, hcl, Bool.and_eq_true] at h1
  obtain ⟨⟨⟨h1, h3⟩, h4⟩, h5⟩ := h1
  obtain ⟨e1, e2⟩ := hx_dec_s h1
  have hts := hc.2.2.2.2.1
  have hKn := hf.1.1 ci _ hcl
  obtain ⟨g1, -, -⟩ := hx_own hcl
  refine W.newcK hc.1 hc.2.1 hc.2.2.2.1 (hts _ (hx_wd_in h3)) (hts _ (hx_wd_in h4)) (hts _ (hx_wd_in h5)) rfl e1 (by omega) (by omega) hKn.2.1 rfl fun H1 kC hkC z1 z2 z3 => ?_
  have hP := hw.2
  have hk : ∀ (k : Nat) (x : Nat × va_E), (hx_w b o base cA h)[k]? = some x → H1[x.1]? = H[x.1]? := fun k x hx => z3 x.1 ((hP k x hx).lt)
  have hH : H.size = base + h.length := hw.1
  have h2 := kk b o base D cA p l e R s m args below meth c H1 locs (cells + 1) (slots + q.2.2) Qm ls hok hc hf (by omega) ⟨by rw [z2, hH, List.length_append]; rfl, by
      rw [hx_w_app]
      refine (hP.kept hk).app (fun k x hx => ?_)
      have hz : k < 1 := (List.getElem?_eq_some_iff.mp hx).1
      rw [show k = 0 by omega] at hx
      cases hx
      refine ⟨_, hcl, ?_⟩
      show t_OB (base + h.length) (D.1 ci) q.2.2 (D.2 ci) H1 (vp_V (fs.map (hx_g b o base)))
      rw [hng, ← hH]
      exact (u_born ty hts g1 hKn hkC z1 hty).to hfs⟩ ⟨Nat.le_trans hS.1 (by omega), fun x h1 h2 => (z3 x (Nat.lt_of_lt_of_le h1 hS.1)).trans (hS.2.1 x h1 h2), hS.2.2⟩ hL (fun r h' H' locs' cells' slots' ls' pc' a1 a2 => hq r h' H' locs' cells' slots' ls' pc' (by omega) (by omega))
  rw [e2] at h2
  show W p l e R s m args below meth c H1 locs (cells + 1) (slots + q.2.2) Qm (F0 m (hx_pc u i + 3) ls (.ref H.size :: st.map (hx_g b o base)))
  rw [hH]
  exact h2
/-- a new array of ints, bytes, booleans -/
theorem hx_newa {t : Nat} {at0 : ArrayType} {n : Int32} (hop : (hx_ops u)[i]? = some (.newarray at0)) (ht : (t = 0 ∧ at0 = .int) ∨ (t = 1 ∧ at0 = .byte) ∨ (t = 2 ∧ at0 = .boolean)) (hn : ¬ n < 0) (hb8 : n.toNatClampNeg ≤ 100000)
    (kk : hx_W sc u d (i + 1) loc (.ref (h.length + 2) :: st) (h ++ [.inl (t, List.replicate n.toNatClampNeg 0)]) kc ks Q) : hx_W sc u d i loc (.int n :: st) h (kc + 1) (ks + n.toNatClampNeg) Q := by
  intro b o base D cA p l e R s m args below meth c H locs cells slots Qm ls hok hc hf hR hw hS hL hq
  have h1 := hx_at hok hop
  simp only [hx_okI, Bool.and_eq_true] at h1
  obtain ⟨h1, h3⟩ := h1
  obtain ⟨e1, e2⟩ := hx_dec_s h1
  have hts := hc.2.2.2.2.1
  have hP := hw.2
  have hH : H.size = base + h.length := hw.1
  have hby : n.toNatClampNeg * componentBytes (Op.newarray.typeOf at0) ≤ 536870912 := by
    rcases ht with ⟨-, rfl⟩ | ⟨-, rfl⟩ | ⟨-, rfl⟩
    · show n.toNatClampNeg * 4 ≤ _; omega
    · show n.toNatClampNeg * 1 ≤ _; omega
    · show n.toNatClampNeg * 1 ≤ _; omega
  refine va_newaK hc.1 hc.2.1 (atype := at0) (hts _ (hx_wd_in h3)) rfl e1 rfl hn rfl hby (by omega) (by omega) rfl fun H1 cA' z1 z2 z3 hAr hNm => ?_
  have hcA : cA' = cA t ∧ Op.newarray.typeOf at0 = (match t with | 0 => FieldType.int | 1 => .byte | _ => .boolean) := by
    rcases ht with ⟨rfl, rfl⟩ | ⟨rfl, rfl⟩ | ⟨rfl, rfl⟩
    · exact ⟨Option.some.inj (hNm.symm.trans (hf.1.2 0 _ rfl).2), rfl⟩
    · exact ⟨Option.some.inj (hNm.symm.trans (hf.1.2 1 _ rfl).2), rfl⟩
    · exact ⟨Option.some.inj (hNm.symm.trans (hf.1.2 2 _ rfl).2), rfl⟩
  have hk : ∀ (k : Nat) (x : Nat × va_E), (hx_w b o base cA h)[k]? = some x → H1[x.1]? = H[x.1]? := fun k x hx => z3 x.1 ((hP k x hx).lt)
  have hdf : defaultValue (Op.newarray.typeOf at0) = .int 0 := by rcases ht with ⟨-, rfl⟩ | ⟨-, rfl⟩ | ⟨-, rfl⟩ <;> rfl
  have h2 := kk b o base D cA p l e R s m args below meth c H1 locs (cells + 1) (slots + n.toNatClampNeg) Qm ls hok hc hf (by omega) ⟨by rw [z2, hH, List.length_append]; rfl, by
      rw [hx_w_app]
      refine (hP.kept hk).app (fun k x hx => ?_)
      have hz : k < 1 := (List.getElem?_eq_some_iff.mp hx).1
      rw [show k = 0 by omega] at hx
      cases hx
      show H1[base + h.length]? = some (vp_cell (cA t) ((List.replicate n.toNatClampNeg (0 : Int32)).length, .inl (fun j => (List.replicate n.toNatClampNeg (0 : Int32)).getD j 0)))
      rw [← hH, z1, hcA.1, hdf, List.length_replicate, vp_cell_i]
      congr 2
      funext j
      rw [List.getD_eq_getElem?_getD, List.getElem?_replicate]
      split <;> rfl⟩ ⟨Nat.le_trans hS.1 (by omega), fun x h1 h2 => (z3 x (Nat.lt_of_lt_of_le h1 hS.1)).trans (hS.2.1 x h1 h2), hS.2.2⟩ hL (fun r h' H' locs' cells' slots' ls' pc' a1 a2 => hq r h' H' locs' cells' slots' ls' pc' (by omega) (by omega))
  rw [e2] at h2
  show W p l e R s m args below meth c H1 locs (cells + 1) (slots + n.toNatClampNeg) Qm (F0 m (hx_pc u i + 2) ls (.ref H.size :: st.map (hx_g b o base)))
  rw [hH]
  exact h2
/-- switches: the target by what the data say -/
theorem hx_tsw {dd lo hi : Int} {offs : Array Int} {x : Int32} {t : Nat} (hop : (hx_ops u)[i]? = some (.tableswitch dd lo hi offs)) (ht : (if x.toInt < lo ∨ hi < x.toInt then some dd else offs.toList[(x.toInt - lo).toNat]?) = some (t : Int)) (kk : hx_W sc u d t loc st h kc ks Q) : hx_W sc u d i loc (.int x :: st) h kc ks Q := by
  intro b o base D cA p l e R s m args below meth c H locs cells slots Qm ls hok hc hf hR hw hS hL hq
  have h1 := hx_at hok hop
  have h2 := kk b o base D cA p l e R s m args below meth c H locs cells slots Qm ls hok hc hf hR hw hS hL hq
  have h3 : hx_tb u i dd lo hi offs = true := h1
  unfold hx_tb at h3
  split at h3
  · next d' lo' hi' offs' len he =>
    simp only [Bool.and_eq_true, decide_eq_true_eq] at h3
    obtain ⟨⟨⟨⟨⟨a1, a2⟩, a3⟩, a4⟩, a5⟩, a6⟩ := h3
    subst a1 a2 a3
    by_cases hx : x.toInt < lo' ∨ hi' < x.toInt
    · rw [if_pos hx] at ht
      cases ht
      exact lv_tableOut hc.1 hc.2.1 he hx hx_off_t h2
    · rw [if_neg hx] at ht
      refine lv_tableIn hc.1 hc.2.1 he (fun z => hx (Or.inl z)) (fun z => hx (Or.inr z)) (off := hx_off u i (t : Int)) ?_ hx_off_t h2
      rw [← Array.getElem?_toList, a4, List.getElem?_map, ht]
      rfl
  · cases h3
def hx_look (d0 : Int) : List (Int × Int) → Int → Int
  | [], _ => d0
  | q :: r, x => if q.1 = x then q.2 else hx_look d0 r x
theorem hx_lsw {dd : Int} {ps : Array (Int × Int)} {x : Int32} {t : Nat} (hop : (hx_ops u)[i]? = some (.lookupswitch dd ps)) (ht : hx_look dd ps.toList x.toInt = (t : Int)) (kk : hx_W sc u d t loc st h kc ks Q) : hx_W sc u d i loc (.int x :: st) h kc ks Q := by
  intro b o base D cA p l e R s m args below meth c H locs cells slots Qm ls hok hc hf hR hw hS hL hq
  have h1 := hx_at hok hop
  have h2 := kk b o base D cA p l e R s m args below meth c H locs cells slots Qm ls hok hc hf hR hw hS hL hq
  have h3 : hx_lk u i dd ps = true := h1
  unfold hx_lk at h3
  split at h3
  · next d' ps' len he =>
    simp only [Bool.and_eq_true, decide_eq_true_eq] at h3
    obtain ⟨⟨a1, a2⟩, a3⟩ := h3
    subst a1
    refine lv_lookup hc.1 hc.2.1 he a3 (off := hx_off u i (t : Int)) ?_ hx_off_t h2
    rw [a2, ← ht]
    generalize ps.toList = l0
    clear a2 ht
    induction l0 with
    | nil => rfl
    | cons q r ih =>
      rw [List.map_cons, Op.lookupswitch.offset_cons]
      show (if _ then _ else _) = hx_off u i (if q.1 = x.toInt then q.2 else hx_look dd r x.toInt)
      by_cases hq : q.1 = x.toInt
      · rw [if_pos hq, if_pos hq]
      · rw [if_neg hq, if_neg hq]
        exact ih
  · cases h3
end HXU
