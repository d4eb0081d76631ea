section HXT
variable {sc : List Int32} {u : hx_M} {d i : Nat} {loc st : List Value} {h : hx_H} {kc ks : Nat} {Q : Option Int32 → hx_H → Prop}
/-! arrays -/
theorem hx_iald {a : Nat} {xs : List Int32} {z : Int32} (hop : (hx_ops u)[i]? = some .iaload) (hcell : h[a]? = some (.inl (0, xs))) (hin : vp_in z xs.length) (kk : hx_W sc u d (i + 1) loc (.int (xs.getD z.toNatClampNeg 0) :: st) h kc ks Q) : hx_W sc u d i loc (.int z :: .ref (a + 2) :: st) h kc ks Q := by
  intro b o base D cA p l e R s m args below meth c H locs cells slots Qm ls hok hc hf hR hw hS hL hq
  have h1 := hx_at hok hop
  have h2 := kk b o base D cA p l e R s m args below meth c H locs cells slots Qm ls hok hc hf hR hw hS hL hq
  obtain ⟨e1, e2⟩ := hx_dec_s (show hx_dec u i .iaload 1 = true from h1)
  rw [e2] at h2
  exact va_iald hc.1 hc.2.1 hf.1 hw.2 a 0 (hx_w_get hcell) (cA := cA 0) rfl hin e1 h2
theorem hx_iald_s {z : Int32} (hop : (hx_ops u)[i]? = some .iaload) (hin : vp_in z sc.length) (kk : hx_W sc u d (i + 1) loc (.int (sc.getD z.toNatClampNeg 0) :: st) h kc ks Q) : hx_W sc u d i loc (.int z :: .ref 0 :: st) h kc ks Q := by
  intro b o base D cA p l e R s m args below meth c H locs cells slots Qm ls hok hc hf hR hw hS hL hq
  have h1 := hx_at hok hop
  have h2 := kk b o base D cA p l e R s m args below meth c H locs cells slots Qm ls hok hc hf hR hw hS hL hq
  obtain ⟨e1, e2⟩ := hx_dec_s (show hx_dec u i .iaload 1 = true from h1)
  rw [e2] at h2
  obtain ⟨-, hX, -, -, hb1, hb2, -⟩ := hf
  exact va_sld hc.1 hc.2.1 hX (Nat.lt_of_lt_of_le hb1 hb2) (Nat.not_le.mpr hb1) hS hin e1 h2
theorem hx_alen_s (hop : (hx_ops u)[i]? = some .arraylength) (kk : hx_W sc u d (i + 1) loc (.int (Int32.ofNat sc.length) :: st) h kc ks Q) : hx_W sc u d i loc (.ref 0 :: st) h kc ks Q := by
  intro b o base D cA p l e R s m args below meth c H locs cells slots Qm ls hok hc hf hR hw hS hL hq
  have h1 := hx_at hok hop
  have h2 := kk b o base D cA p l e R s m args below meth c H locs cells slots Qm ls hok hc hf hR hw hS hL hq
  obtain ⟨e1, e2⟩ := hx_dec_s (show hx_dec u i .arraylength 1 = true from h1)
  rw [e2] at h2
  obtain ⟨-, hX, -, -, hb1, hb2, -⟩ := hf
  exact va_slen hc.1 hc.2.1 hX (Nat.lt_of_lt_of_le hb1 hb2) (Nat.not_le.mpr hb1) hS e1 h2
theorem hx_iald_o {z : Int32} (hop : (hx_ops u)[i]? = some .iaload) (hin : vp_in z 6) (kk : hx_W sc u d (i + 1) loc (.int (hx_ors.getD z.toNatClampNeg 0) :: st) h kc ks Q) : hx_W sc u d i loc (.int z :: .ref 1 :: st) h kc ks Q := by
  intro b o base D cA p l e R s m args below meth c H locs cells slots Qm ls hok hc hf hR hw hS hL hq
  have h1 := hx_at hok hop
  have h2 := kk b o base D cA p l e R s m args below meth c H locs cells slots Qm ls hok hc hf hR hw hS hL hq
  obtain ⟨e1, e2⟩ := hx_dec_s (show hx_dec u i .iaload 1 = true from h1)
  rw [e2] at h2
  exact va_ti hc.1 hc.2.1 hf.2.2.1 hS hin rfl e1 h2
theorem hx_alen_o (hop : (hx_ops u)[i]? = some .arraylength) (kk : hx_W sc u d (i + 1) loc (.int 6 :: st) h kc ks Q) : hx_W sc u d i loc (.ref 1 :: st) h kc ks Q := by
  intro b o base D cA p l e R s m args below meth c H locs cells slots Qm ls hok hc hf hR hw hS hL hq
  have h1 := hx_at hok hop
  have h2 := kk b o base D cA p l e R s m args below meth c H locs cells slots Qm ls hok hc hf hR hw hS hL hq
  obtain ⟨e1, e2⟩ := hx_dec_s (show hx_dec u i .arraylength 1 = true from h1)
  rw [e2] at h2
  exact va_tlen hc.1 hc.2.1 hf.2.2.1 hS rfl e1 h2
theorem hx_gets {n : Nat} (hop : (hx_ops u)[i]? = some (.getstatic n)) (kk : hx_W sc u d (i + 1) loc (.ref 1 :: st) h kc ks Q) : hx_W sc u d i loc st h kc ks Q := by
  intro b o base D cA p l e R s m args below meth c H locs cells slots Qm ls hok hc hf hR hw hS hL hq
  have h1 := hx_at hok hop
  have h2 := kk b o base D cA p l e R s m args below meth c H locs cells slots Qm ls hok hc hf hR hw hS hL hq
  simp only [hx_okI, Bool.and_eq_true] at h1
  obtain ⟨e1, e2⟩ := hx_dec_s h1.1
  rw [e2] at h2
  exact va_gets hc.1 hc.2.1 hf.2.2.2.1 hS hc.2.2.2.1 (hc.2.2.2.2.1 _ (hx_wd_in h1.2)) (fun _ z => z) e1 h2
theorem hx_bald {a : Nat} {xs : List Int32} {z : Int32} (hop : (hx_ops u)[i]? = some .baload) (hcell : h[a]? = some (.inl (1, xs)) ∨ h[a]? = some (.inl (2, xs))) (hin : vp_in z xs.length) (kk : hx_W sc u d (i + 1) loc (.int (xs.getD z.toNatClampNeg 0) :: st) h kc ks Q) : hx_W sc u d i loc (.int z :: .ref (a + 2) :: st) h kc ks Q := by
  intro b o base D cA p l e R s m args below meth c H locs cells slots Qm ls hok hc hf hR hw hS hL hq
  have h1 := hx_at hok hop
  have h2 := kk b o base D cA p l e R s m args below meth c H locs cells slots Qm ls hok hc hf hR hw hS hL hq
  obtain ⟨e1, e2⟩ := hx_dec_s (show hx_dec u i .baload 1 = true from h1)
  rw [e2] at h2
  rcases hcell with hcell | hcell
  · exact va_bald hc.1 hc.2.1 hf.1 hw.2 a 1 (hx_w_get hcell) (cA := cA 1) rfl hin e1 h2
  · exact va_zald hc.1 hc.2.1 hf.1 hw.2 a 2 (hx_w_get hcell) (cA := cA 2) rfl hin e1 h2
theorem hx_alen {a t : Nat} {xs : List Int32} (hop : (hx_ops u)[i]? = some .arraylength) (ht : t < 3) (hcell : h[a]? = some (.inl (t, xs))) (kk : hx_W sc u d (i + 1) loc (.int (Int32.ofNat xs.length) :: st) h kc ks Q) : hx_W sc u d i loc (.ref (a + 2) :: st) h kc ks Q := by
  intro b o base D cA p l e R s m args below meth c H locs cells slots Qm ls hok hc hf hR hw hS hL hq
  have h1 := hx_at hok hop
  have h2 := kk b o base D cA p l e R s m args below meth c H locs cells slots Qm ls hok hc hf hR hw hS hL hq
  obtain ⟨e1, e2⟩ := hx_dec_s (show hx_dec u i .arraylength 1 = true from h1)
  rw [e2] at h2
  rcases (show t = 0 ∨ t = 1 ∨ t = 2 by omega) with rfl | rfl | rfl
  · exact va_alen hc.1 hc.2.1 hf.1 hw.2 a 0 (hx_w_get hcell) (cA := cA 0) (ty := .int) rfl rfl e1 h2
  · exact va_alen hc.1 hc.2.1 hf.1 hw.2 a 1 (hx_w_get hcell) (cA := cA 1) (ty := .byte) rfl rfl e1 h2
  · exact va_alen hc.1 hc.2.1 hf.1 hw.2 a 2 (hx_w_get hcell) (cA := cA 2) (ty := .boolean) rfl rfl e1 h2
/-- behind an array's store -/
theorem hx_stored {b o base : Nat} {D : va_G} {cA : Nat → ClassId} {H H1 : Heap} {a t : Nat} {xs : List Int32} {z x : Int32} (hw : hx_wld b o base D cA h H) (hcell : h[a]? = some (.inl (t, xs))) (hin : vp_in z xs.length) (e : H1[base + a]? = some ((vp_cell (cA t) (xs.length, .inl (fun j => xs.getD j 0))).setSlot z.toNatClampNeg (.int x))) (hz : H1.size = H.size) (oq : ∀ q, q ≠ base + a → H1[q]? = H[q]?) :
    hx_wld b o base D cA (h.set a (.inl (t, xs.set z.toNatClampNeg x))) H1 := by
  have hlt : z.toNatClampNeg < xs.length := Nat.not_le.mp fun q => hin (Or.inr q)
  refine ⟨by rw [List.length_set, hz]; exact hw.1, ?_⟩
  rw [hx_w_set]
  refine hw.2.set (hx_w_D b o base cA h) (hx_w_get hcell) ?_ oq
  show H1[base + a]? = some (vp_cell (cA t) ((xs.set z.toNatClampNeg x).length, .inl (fun j => (xs.set z.toNatClampNeg x).getD j 0)))
  rw [e, List.length_set, ← hx_upd hlt, vp_cell_i, vp_cell_i, arrV_store]
  congr 2
  funext q
  by_cases hq : q = z.toNatClampNeg
  · subst hq
    simp [updV, upd]
  · simp [updV, upd, hq]
theorem hx_iast {a : Nat} {xs : List Int32} {z x : Int32} (hop : (hx_ops u)[i]? = some .iastore) (hcell : h[a]? = some (.inl (0, xs))) (hin : vp_in z xs.length) (kk : hx_W sc u d (i + 1) loc st (h.set a (.inl (0, xs.set z.toNatClampNeg x))) kc ks Q) : hx_W sc u d i loc (.int x :: .int z :: .ref (a + 2) :: st) h kc ks Q := by
  intro b o base D cA p l e R s m args below meth c H locs cells slots Qm ls hok hc hf hR hw hS hL hq
  have h1 := hx_at hok hop
  obtain ⟨e1, e2⟩ := hx_dec_s (show hx_dec u i .iastore 1 = true from h1)
  refine W.iast (rest := st.map (hx_g b o base)) hc.1 hc.2.1 (hw.2 a _ (hx_w_get hcell)) ((hf.1.2 0 _ rfl).1 xs.length (fun j => .int (xs.getD j 0))) (fun q => by cases q) (by show ¬ (z < 0 ∨ (arrV _ _ _).slots.size ≤ _); rw [arrV_size]; exact hin) rfl rfl e1 fun H1 ez z1 oq => ?_
  have h2 := kk b o base D cA p l e R s m args below meth c H1 (locs ++ [⟨base + a, z.toNatClampNeg⟩]) cells slots Qm ls hok hc hf hR (hx_stored hw hcell hin ez z1 oq) (hS.put z1 oq (show base ≤ base + a by omega)) hL hq
  rw [e2] at h2
  exact h2
theorem hx_bast {a : Nat} {xs : List Int32} {z x : Int32} (hop : (hx_ops u)[i]? = some .bastore) (hcell : h[a]? = some (.inl (1, xs))) (hx : vp_nar .byte x = x) (hin : vp_in z xs.length) (kk : hx_W sc u d (i + 1) loc st (h.set a (.inl (1, xs.set z.toNatClampNeg x))) kc ks Q) : hx_W sc u d i loc (.int x :: .int z :: .ref (a + 2) :: st) h kc ks Q := by
  intro b o base D cA p l e R s m args below meth c H locs cells slots Qm ls hok hc hf hR hw hS hL hq
  have h1 := hx_at hok hop
  obtain ⟨e1, e2⟩ := hx_dec_s (show hx_dec u i .bastore 1 = true from h1)
  refine W.bast (rest := st.map (hx_g b o base)) hc.1 hc.2.1 (hw.2 a _ (hx_w_get hcell)) ((hf.1.2 1 _ rfl).1 xs.length (fun j => .int (xs.getD j 0))) (fun q => by cases q) (by show ¬ (z < 0 ∨ (arrV _ _ _).slots.size ≤ _); rw [arrV_size]; exact hin) rfl rfl e1 fun H1 ez z1 oq => ?_
  have hn : narrow .byte (.int x) = .int x := by rw [vp_nar_byte] at hx; show Value.int x.toInt8.toInt32 = _; rw [hx]
  rw [show narrow _ (.int x) = .int x from hn] at ez
  have h2 := kk b o base D cA p l e R s m args below meth c H1 (locs ++ [⟨base + a, z.toNatClampNeg⟩]) cells slots Qm ls hok hc hf hR (hx_stored hw hcell hin ez z1 oq) (hS.put z1 oq (show base ≤ base + a by omega)) hL hq
  rw [e2] at h2
  exact h2
theorem hx_zast {a : Nat} {xs : List Int32} {z x : Int32} (hop : (hx_ops u)[i]? = some .bastore) (hcell : h[a]? = some (.inl (2, xs))) (hx : x = 0 ∨ x = 1) (hin : vp_in z xs.length) (kk : hx_W sc u d (i + 1) loc st (h.set a (.inl (2, xs.set z.toNatClampNeg x))) kc ks Q) : hx_W sc u d i loc (.int x :: .int z :: .ref (a + 2) :: st) h kc ks Q := by
  intro b o base D cA p l e R s m args below meth c H locs cells slots Qm ls hok hc hf hR hw hS hL hq
  have h1 := hx_at hok hop
  obtain ⟨e1, e2⟩ := hx_dec_s (show hx_dec u i .bastore 1 = true from h1)
  refine W.zast (rest := st.map (hx_g b o base)) hc.1 hc.2.1 (hw.2 a _ (hx_w_get hcell)) ((hf.1.2 2 _ rfl).1 xs.length (fun j => .int (xs.getD j 0))) (fun q => by cases q) (by show ¬ (z < 0 ∨ (arrV _ _ _).slots.size ≤ _); rw [arrV_size]; exact hin) rfl rfl e1 fun H1 ez z1 oq => ?_
  have hn : narrow .boolean (.int x) = .int x := by rcases hx with rfl | rfl <;> rfl
  rw [show narrow _ (.int x) = .int x from hn] at ez
  have h2 := kk b o base D cA p l e R s m args below meth c H1 (locs ++ [⟨base + a, z.toNatClampNeg⟩]) cells slots Qm ls hok hc hf hR (hx_stored hw hcell hin ez z1 oq) (hS.put z1 oq (show base ≤ base + a by omega)) hL hq
  rw [e2] at h2
  exact h2
/-! ends -/
theorem hx_ireturn {x : Int32} {ty : FieldType} (hop : (hx_ops u)[i]? = some .ireturn) (hr : hx_ret u = some ty) (hn : narrow ty (.int x) = .int x) (hQ : Q (some x) h) : hx_W sc u d i loc [.int x] h kc ks Q := by
  intro b o base D cA p l e R s m args below meth c H locs cells slots Qm ls hok hc hf hR hw hS hL hq
  have h1 := hx_at hok hop
  exact hq (some x) h H locs cells slots ls (hx_pc u i) (by omega) (by omega) hQ hw hS ⟨of_decide_eq_true h1, ty, hr, hn⟩
theorem hx_return (hop : (hx_ops u)[i]? = some .return_) (hr : hx_ret u = none) (hQ : Q none h) : hx_W sc u d i loc [] h kc ks Q := by
  intro b o base D cA p l e R s m args below meth c H locs cells slots Qm ls hok hc hf hR hw hS hL hq
  have h1 := hx_at hok hop
  exact hq none h H locs cells slots ls (hx_pc u i) (by omega) (by omega) hQ hw hS ⟨of_decide_eq_true h1, hr⟩
/-- more room, a weaker end -/
theorem hx_W.mono {Q' : Option Int32 → hx_H → Prop} {kc' ks' : Nat} (k : hx_W sc u d i loc st h kc' ks' Q') (h1 : kc' ≤ kc) (h2 : ks' ≤ ks) (hQ : ∀ r h', Q' r h' → Q r h') : hx_W sc u d i loc st h kc ks Q := by
  intro b o base D cA p l e R s m args below meth c H locs cells slots Qm ls hok hc hf hR hw hS hL hq
  exact k b o base D cA p l e R s m args below meth c H locs cells slots Qm ls hok hc hf (by omega) hw hS hL (fun r h' H' locs' cells' slots' ls' pc' a1 a2 a3 a4 a5 a6 => hq r h' H' locs' cells' slots' ls' pc' (by omega) (by omega) (hQ r h' a3) a4 a5 a6)
end HXT
