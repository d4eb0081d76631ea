/-! contracts and calls -/
def hx_rm (d kc ks : Nat) : Room := { frames := d + 1, cells := kc, slots := ks, locals := 40 * (d + 1) }
def hx_Inv (b o base : Nat) (sc : List Int32) (D : va_G) (cA : Nat → ClassId) (h : hx_H) (U : State) : Prop := hx_fix b o base sc D cA U ∧ hx_wld b o base D cA h U.heap
def hx_Qc (b o base : Nat) (D : va_G) (cA : Nat → ClassId) (Q : Option Int32 → hx_H → Prop) : Array Value → State → Outcome → State → Prop := fun _ st oc t =>
  (∃ (r : Option Int32) (h' : hx_H), oc = .returned (r.map .int) ∧ Q r h' ∧ hx_wld b o base D cA h' t.heap) ∧ va_F (fun q => base ≤ q) st t
abbrev hx_ws (u : hx_M) : List Cond := .code (hx_y u) (hx_b u) (hx_L u) (hx_ret u) :: hx_T
/-- a contract: u, called with these in this world, comes back with Q -/
def hx_Ct (sc : List Int32) (u : hx_M) (d kc ks : Nat) (as : List Value) (h : hx_H) (Q : Option Int32 → hx_H → Prop) : Prop :=
  hx_cal u ∧ ∀ (l : Launch) (b o base : Nat) (D : va_G) (cA : Nat → ClassId), Met l (hx_y u) (hx_ws u) (hx_rm d kc ks) (va_Pc (as.map (hx_g b o base)) (hx_Inv b o base sc D cA h)) (hx_Qc b o base D cA Q) kc ks (fun q => base ≤ q)
theorem hx_args_mem : ∀ (vs : List Value) (k i : Nat) (w : Value), (∀ v ∈ vs, v.category = 1) → vs[i]? = some w → (k + i, w) ∈ lv_args k vs
  | [], _, _, _, _, h => by simp at h
  | v :: vs, k, 0, w, hc, h => by
    simp at h
    subst h
    exact List.mem_cons_self
  | v :: vs, k, i + 1, w, hc, h => by
    have h1 : v.category = 1 := hc v List.mem_cons_self
    have h2 := hx_args_mem vs (k + 1) i w (fun x hx => hc x (List.mem_cons_of_mem _ hx)) (by simpa using h)
    unfold lv_args
    rw [if_neg (by omega)]
    refine List.mem_cons_of_mem _ ?_
    rw [show k + (i + 1) = k + 1 + i by omega]
    exact h2
theorem hx_sl_len : ∀ (vs : List Value), (∀ v ∈ vs, v.category = 1) → (lg_sl vs).length = vs.length
  | [], _ => rfl
  | v :: vs, hc => by
    have h1 : v.category = 1 := hc v List.mem_cons_self
    have h2 := hx_sl_len vs (fun x hx => hc x (List.mem_cons_of_mem _ hx))
    unfold lg_sl at h2 ⊢
    rw [List.flatMap_cons, List.length_append, h2, if_neg (by omega)]
    simp
    omega
theorem hx_cats {vs : List Value} (h : vs.all hx_v = true) : ∀ v ∈ vs, v.category = 1 := fun v hv => hx_v_cat (List.all_eq_true.mp h v hv)
theorem hx_LR0 {b o base n : Nat} {as : List Value} (hv : as.all hx_v = true) (hn : as.length ≤ n) : hx_LR (hx_g b o base) ((lg_sl (as.map (hx_g b o base)) ++ List.replicate (n - (lg_sl (as.map (hx_g b o base))).length) Slot.unset).toArray) n (as ++ List.replicate (n - as.length) .null) := by
  have hc := hx_cats hv
  have hc2 : ∀ v ∈ as.map (hx_g b o base), v.category = 1 := fun v hv => by
    obtain ⟨w, h1, rfl⟩ := List.mem_map.mp hv
    rw [hx_g_cat]; exact hc w h1
  have hl := lv_entry (as.map (hx_g b o base)) (n := n) (by rw [hx_sl_len _ hc2, List.length_map]; exact hn)
  refine ⟨hl.1, hl.2.1, fun v hv => ?_, fun i v hi hne => ?_⟩
  · rcases List.mem_append.mp hv with h1 | h1
    · exact hc v h1
    · rw [List.eq_of_mem_replicate h1]; rfl
  · by_cases hia : i < as.length
    · rw [List.getElem?_append_left hia] at hi
      have h2 := hx_args_mem (as.map (hx_g b o base)) 0 i (hx_g b o base v) hc2 (by rw [List.getElem?_map, hi]; rfl)
      rw [Nat.zero_add] at h2
      exact hl.2.2 _ h2
    · rw [List.getElem?_append_right (by omega)] at hi
      exact absurd (List.eq_of_mem_replicate (List.mem_of_getElem? hi)) hne
/-- a contract out of a walk -/
theorem hx_mk {sc : List Int32} {u : hx_M} {d kc ks : Nat} {as : List Value} {h : hx_H} {Q : Option Int32 → hx_H → Prop} (hok : hx_okO u = true) (hcal : hx_cal u) (hl : as.length ≤ hx_L u) (hv : as.all hx_v = true)
    (kk : hx_W sc u d 0 (as ++ List.replicate (hx_L u - as.length) .null) [] h kc ks Q) : hx_Ct sc u d kc ks as h Q := by
  refine ⟨hcal, fun l b o base D cA => ?_⟩
  have hpn : plainName (hx_y u).cls = true := by
    have h1 := hcal.1
    unfold hx_okC at h1
    simp only [Bool.and_eq_true] at h1
    exact h1.1.1.1.1
  refine Met.ofW (cc := hx_b u) (maxL := hx_L u) (ret := hx_ret u) hpn rfl ?_
  intro p e s m args below meth c s₁ B hml hpc
  obtain ⟨rfl, hfix, hwld⟩ := hpc
  have hts := atoms_spec (ws := hx_ws u) B.pre
  have hown : s.vm.findClass (hx_y u).cls = some m.cls := findClass_of_methodNamed B.named
  have hc : hx_ctx u p s m (as.map (hx_g b o base)).toArray meth c := ⟨B.exec, B.bytes, hml, hown, fun w hw => hts w (List.mem_cons_of_mem _ hw), B.returns, B.notSynchronized, (name_of_methodNamed B.named B.method).1⟩
  rw [lg_entry_eq]
  have h0 := kk b o base D cA p l e (hx_rm d kc ks) s m (as.map (hx_g b o base)).toArray below meth c s.heap [] 0 0 (MQ below (hx_Qc b o base D cA Q) (as.map (hx_g b o base)).toArray s kc ks (fun q => base ≤ q)) _ hok hc hfix ⟨Nat.le_refl _, Nat.le_refl _, by simp [hx_rm], by simp [hx_rm]⟩ hwld va_S.rf (hx_LR0 hv hl)
  have hlocks := B.notSynchronized
  have h1 := h0 (by
    intro r h' H' locs' cells' slots' ls' pc' a1 a2 a3 a4 a5 a6
    refine W.widen (k := kc) (n := ks) (by omega) (by omega) ?_
    cases r with
    | none => exact W.vret hc.1 hc.2.1 (hc.2.2.2.2.2.1.trans a6.2) (fun t ht _ => ⟨⟨none, h', rfl, a3, by rw [ht]; exact a4⟩, a5.F ht⟩) a5.2.2 a6.1 hlocks
    | some x =>
      obtain ⟨a61, ty, a62, a63⟩ := a6
      exact W.zret hc.1 hc.2.1 (hc.2.2.2.2.2.1.trans a62) a63 (fun t ht _ => ⟨⟨some x, h', rfl, a3, by rw [ht]; exact a4⟩, a5.F ht⟩) a5.2.2 a61 hlocks)
  rw [hx_at0 hok] at h1
  exact h1
theorem hx_fix_moved {b o base : Nat} {sc : List Int32} {D : va_G} {cA : Nat → ClassId} {s U : State} {H : Heap} {locs : List Loc} (hf : hx_fix b o base sc D cA s) (hS : va_S (fun q => base ≤ q) s.heap H locs) (hU : U.heap = H) (hW : s.WarmedH U.vm) : hx_fix b o base sc D cA U := by
  obtain ⟨h1, h2, h3, h4, h5, h6, h7⟩ := hf
  have hvm := hW.alike
  have hk : ∀ a : Nat, a < s.heap.size → ¬ base ≤ a → U.heap[a]? = s.heap[a]? := fun a h1 h2 => by rw [hU]; exact hS.2.1 a h1 h2
  refine ⟨va_K.moved hvm h1, (h2.moved hvm).kept (hk b (by omega) (by omega)), (va_T.moved hvm h3).kept hk, (va_Z.moved hvm h4).kept hk, h5, by rw [hU]; exact Nat.le_trans h6 hS.1, fun w hw => (h7 w hw).warmM hW⟩
theorem hx_blind {b o base : Nat} {sc : List Int32} {D : va_G} {cA : Nat → ClassId} {h : hx_H} {av : List Value} : FrameBlind (va_Pc av (hx_Inv b o base sc D cA h)) := by
  intro a U g mk q
  obtain ⟨q1, q2, q3⟩ := q
  refine ⟨q1, ?_, q3⟩
  obtain ⟨h1, h2, h3, h4, h5, h6, h7⟩ := q2
  exact ⟨va_K.moved (u := U) (U := U.calling g mk a) (Vm.Alike.refl U.vm) h1, va_X.moved (u := U) (U := U.calling g mk a) (Vm.Alike.refl U.vm) h2, va_T.moved (u := U) (U := U.calling g mk a) (Vm.Alike.refl U.vm) h3, va_Z.moved (u := U) (U := U.calling g mk a) (Vm.Alike.refl U.vm) h4, h5, h6, fun w hw => va_Nw.same (u := U) (U := U.calling g mk a) rfl rfl (h7 w hw)⟩
theorem hx_catsum {vs : List Value} (h : vs.all hx_v = true) (f : Value → Value) (hf : ∀ v, (f v).category = v.category) : ((vs.map f).map fun v => v.category).sum = vs.length := by
  induction vs with
  | nil => rfl
  | cons v vs ih =>
    simp only [List.all_cons, Bool.and_eq_true] at h
    simp only [List.map_cons, List.sum_cons, List.length_cons, hf, hx_v_cat h.1, ih h.2]
    omega
section HXC
variable {sc : List Int32} {u v : hx_M} {d d' i j : Nat} {loc as rest : List Value} {h : hx_H} {kc ks kc' ks' : Nat} {Q Q' : Option Int32 → hx_H → Prop}
/-- behind a call -/
theorem hx_after {b o base : Nat} {D : va_G} {cA : Nat → ClassId} {p : Program} {l : Launch} {e : Env} {R : Room} {s : State} {m : MethodId} {args : Array Value} {below : List Frame} {meth : Method} {c : Code} {H : Heap} {locs : List Loc} {cells slots : Nat} {Qm : State → Prop} {ls : Array Slot} {st0 : List Value} {av : Array Value}
    (hok : hx_okO u = true) (hc : hx_ctx u p s m args meth c) (hf : hx_fix b o base sc D cA s) (hR : d + 1 ≤ R.frames ∧ 40 * (d + 1) ≤ R.locals ∧ cells + (kc + kc') ≤ R.cells ∧ slots + (ks + ks') ≤ R.slots) (hS : va_S (fun q => base ≤ q) s.heap H locs) (hL : hx_LR (hx_g b o base) ls (hx_L u) loc)
    (hq : ∀ (r : Option Int32) (h' : hx_H) (H' : Heap) (locs' : List Loc) (cells' slots' : Nat) (ls' : Array Slot) (pc' : Nat), cells' ≤ cells + (kc + kc') → slots' ≤ slots + (ks + ks') → Q r h' → hx_wld b o base D cA h' H' → va_S (fun q => base ≤ q) s.heap H' locs' → hx_rt u pc' r →
      W p l e R s m args below meth c H' locs' cells' slots' Qm (F0 m pc' ls' (hx_st r)))
    (e2 : hx_pc u (i + 1) = hx_pc u i + 3)
    (hr : va_Run p l e R s m args below meth c H locs cells slots kc' ks' (F0 m (hx_pc u i) ls st0) (rest.map (hx_g b o base)) (hx_Qc b o base D cA Q' av) (fun q => base ≤ q))
    (kk : ∀ r h', Q' r h' → hx_W sc u d (i + 1) loc (hx_st r ++ rest) h' kc ks Q) : W p l e R s m args below meth c H locs cells slots Qm (F0 m (hx_pc u i) ls st0) := by
  intro T hT X
  obtain ⟨v', st₀, t, T', L, h0, X', hL', e1, e3, ⟨⟨r, h', hv, hQ', hw'⟩, hz, hk⟩, st⟩ := hr T hT X
  cases hv
  rw [h0] at hz hk
  have hS' : va_S (fun q => base ≤ q) s.heap T'.heap (locs ++ L) := ⟨Nat.le_trans hS.1 (by rw [e1]; exact hz), fun q h1 h2 => by rw [e1, hk q (Nat.lt_of_lt_of_le h1 hS.1) h2]; exact hS.2.1 q h1 h2, fun q hq => by
    rcases List.mem_append.mp hq with h | h
    · exact hS.2.2 q h
    · exact hL' q h⟩
  have h2 := kk r h' hQ' b o base D cA p l e R s m args below meth c T'.heap (locs ++ L) (cells + kc') (slots + ks') Qm ls hok hc hf (by omega) (by rw [e1]; exact hw') hS' hL (fun r h' H' locs' cells' slots' ls' pc' a1 a2 => hq r h' H' locs' cells' slots' ls' pc' (by omega) (by omega))
  obtain ⟨t2, a1, b1⟩ := h2 T' rfl X'
  refine ⟨t2, st t2 ?_, b1⟩
  rw [e2] at a1
  cases r <;> exact a1
theorem hx_callV {a ci : Nat} {fs : List Value} {q : vw_C} (hop : (hx_ops u)[i]? = some (.invokevirtual j)) (hj : hx_ms[j]? = some v) (hd : d' < d) (hn : as.length = hx_na v) (hrest : rest.all hx_v = true) (hrl : rest.length ≤ 8) (hcell : h[a]? = some (.inr (ci, fs))) (hcl : hx_cl[ci]? = some q) (hqy : q.1 = (hx_y v).cls)
    (hct : hx_Ct sc v d' kc' ks' (.ref (a + 2) :: as) h Q') (kk : ∀ r h', Q' r h' → hx_W sc u d (i + 1) loc (hx_st r ++ rest) h' kc ks Q) : hx_W sc u d i loc (as.reverse ++ .ref (a + 2) :: rest) h (kc + kc') (ks + ks') Q := by
  intro b o base D cA p l e R s m args below meth c H locs cells slots Qm ls hok hc hf hR hw hS hL hq
  have h1 := hx_at hok hop
  simp only [hx_okI, hj, Bool.and_eq_true, decide_eq_true_eq] at h1
  obtain ⟨⟨hkind, h1⟩, h3⟩ := h1
  obtain ⟨e1, e2⟩ := hx_dec_s h1
  have hcal := hct.1
  have hC := hcal.1
  unfold hx_okC at hC
  rw [hkind] at hC
  simp only [Bool.and_eq_true, decide_eq_true_eq] at hC
  obtain ⟨⟨⟨⟨hpn, hmh⟩, hdesc⟩, hL21⟩, ⟨hi1, hi2⟩, hi3⟩ := hC
  have hts := hc.2.2.2.2.1
  have hm := hct.2 l b o base D cA
  refine hx_after (Q' := Q') hok hc hf hR hS hL hq e2 (va_runV (C := (hx_y v).cls) (b := base + a) (As := as.map (hx_g b o base)) (own := (hx_y u).cls) ⟨hc.1, hc.2.1, hc.2.2.1, hc.2.2.2.1, hts⟩ hm ⟨callB_of (hx_na v) hts ?_ rfl rfl rfl (hts _ (hx_wd_in hi3)) (hts _ (hx_wd_in h3)) ⟨hmh.1, hmh.2, hdesc⟩ ⟨?_, ?_⟩, hts _ (hx_wd_in hi1), hts _ (hx_wd_in hi2)⟩ ⟨hx_blind, ?_, ?_⟩ rfl (by rw [List.length_map]; exact hn) hL.1 ?_ ?_ e1 (by omega)) kk
  · intro w hw
    rcases List.mem_cons.mp hw with rfl | hw
    · exact hx_good _ hcal.2
    · exact hx_good _ hw
  · show d' + 1 + 1 ≤ R.frames; omega
  · show 8 + (hx_L v + 11) + 40 * (d' + 1) ≤ R.locals; omega
  · obtain ⟨cell, c1, c2, c3⟩ := va_recv hf.1 hw.2 hcl (hx_w_get hcell)
    exact ⟨cell, c1, c2, by rw [← hqy]; exact c3⟩
  · intro U hU hW
    exact ⟨rfl, hx_fix_moved hf hS hU hW, by rw [hU]; exact hw⟩
  · simp [F0, hx_g]
  · show 2 * 0 + _ ≤ 8
    rw [hx_catsum hrest _ (hx_g_cat b o base)]; omega
theorem hx_callI {a : Nat} (hop : (hx_ops u)[i]? = some (.invokespecial j)) (hj9 : j ≠ 9999) (hj : hx_ms[j]? = some v) (hd : d' < d) (hn : as.length = hx_na v) (hrest : rest.all hx_v = true) (hrl : rest.length ≤ 8)
    (hct : hx_Ct sc v d' kc' ks' (.ref (a + 2) :: as) h Q') (kk : ∀ r h', Q' r h' → hx_W sc u d (i + 1) loc (hx_st r ++ rest) h' kc ks Q) : hx_W sc u d i loc (as.reverse ++ .ref (a + 2) :: rest) h (kc + kc') (ks + ks') Q := by
  intro b o base D cA p l e R s m args below meth c H locs cells slots Qm ls hok hc hf hR hw hS hL hq
  have h1 := hx_at hok hop
  simp only [hx_okI, hj, if_neg hj9, Bool.and_eq_true, Bool.or_eq_true, decide_eq_true_eq] at h1
  obtain ⟨⟨hkind, h1⟩, h3⟩ := h1
  obtain ⟨e1, e2⟩ := hx_dec_s h1
  have hcal := hct.1
  have hC := hcal.1
  unfold hx_okC at hC
  rw [hkind] at hC
  simp only [Bool.and_eq_true, decide_eq_true_eq] at hC
  obtain ⟨⟨⟨⟨hpn, hmh⟩, hdesc⟩, hL21⟩, ⟨⟨hi1, hi2⟩, hi3⟩, hi4⟩ := hC
  have hts := hc.2.2.2.2.1
  have hm := hct.2 l b o base D cA
  have hG : GoodIn hx_T (hx_ws v) := by
    intro w hw
    rcases List.mem_cons.mp hw with rfl | hw
    · exact hx_good _ hcal.2
    · exact hx_good _ hw
  unfold hx_ws at hm hG
  rw [hi4] at hm hG
  have hst : (F0 m (hx_pc u i) ls ((as.reverse ++ .ref (a + 2) :: rest).map (hx_g b o base))).stack = (as.map (hx_g b o base)).reverse ++ .ref (base + a) :: rest.map (hx_g b o base) := by simp [F0, hx_g]
  have hW8 : 2 * (F0 m (hx_pc u i) ls ((as.reverse ++ .ref (a + 2) :: rest).map (hx_g b o base))).monitorRoom + ((rest.map (hx_g b o base)).map fun v => v.category).sum ≤ 8 := by
    show 2 * 0 + _ ≤ 8
    rw [hx_catsum hrest _ (hx_g_cat b o base)]; omega
  have hPre : PreS s H (va_Pc ((Value.ref (a + 2) :: as).map (hx_g b o base)) (hx_Inv b o base sc D cA h)) (.ref (base + a) :: as.map (hx_g b o base)) := ⟨hx_blind, fun U hU hW => ⟨rfl, hx_fix_moved hf hS hU hW, by rw [hU]; exact hw⟩⟩
  have hRm : (hx_rm d' kc' ks').frames + 1 ≤ R.frames ∧ 8 + (hx_L v + 11) + (hx_rm d' kc' ks').locals ≤ R.locals := ⟨by show d' + 1 + 1 ≤ R.frames; omega, by show 8 + (hx_L v + 11) + 40 * (d' + 1) ≤ R.locals; omega⟩
  rcases h3 with h3 | h3
  · exact hx_after (Q' := Q') hok hc hf hR hS hL hq e2 (va_runI (own := (hx_y u).cls) ⟨hc.1, hc.2.1, hc.2.2.1, hc.2.2.2.1, hts⟩ hm ⟨callB_of (hx_na v) hts hG rfl rfl rfl (hts _ (hx_wd_in hi2)) (hts _ (hx_wd_in h3)) ⟨hmh.1, hmh.2, hdesc⟩ hRm, hi3, hts _ (hx_wd_in hi1)⟩ hPre rfl (by rw [List.length_map]; exact hn) hL.1 hst hW8 e1 (by omega)) kk
  · exact hx_after (Q' := Q') hok hc hf hR hS hL hq e2 (va_runIN (own := (hx_y u).cls) ⟨hc.1, hc.2.1, hc.2.2.1, hc.2.2.2.1, hts⟩ hm ⟨va_cnB (hx_na v) hts hG rfl rfl rfl (hf.2.2.2.2.2.2 _ (List.mem_of_getElem? h3)) (hts _ (hx_wd_in hi2)) ⟨hmh.1, hmh.2, hdesc⟩ hRm, hi3, hts _ (hx_wd_in hi1)⟩ hPre rfl (by rw [List.length_map]; exact hn) hL.1 hst hW8 e1 (by omega)) kk
theorem hx_callS (hop : (hx_ops u)[i]? = some (.invokestatic j)) (hj9 : j < 9991) (hj : hx_ms[j]? = some v) (hd : d' < d) (hn : as.length = hx_na v) (hrest : rest.all hx_v = true) (hrl : rest.length ≤ 8)
    (hct : hx_Ct sc v d' kc' ks' as h Q') (kk : ∀ r h', Q' r h' → hx_W sc u d (i + 1) loc (hx_st r ++ rest) h' kc ks Q) : hx_W sc u d i loc (as.reverse ++ rest) h (kc + kc') (ks + ks') Q := by
  intro b o base D cA p l e R s m args below meth c H locs cells slots Qm ls hok hc hf hR hw hS hL hq
  have h1 := hx_at hok hop
  simp only [hx_okI, hj, if_neg (show ¬ j = 9991 by omega), if_neg (show ¬ j = 9992 by omega), if_neg (show ¬ j = 9993 by omega), if_neg (show ¬ j = 9999 by omega), Bool.and_eq_true, Bool.or_eq_true, decide_eq_true_eq] at h1
  obtain ⟨⟨hkind, h1⟩, h3⟩ := h1
  obtain ⟨e1, e2⟩ := hx_dec_s h1
  have hcal := hct.1
  have hC := hcal.1
  unfold hx_okC at hC
  rw [hkind] at hC
  simp only [Bool.and_eq_true, decide_eq_true_eq] at hC
  obtain ⟨⟨⟨⟨hpn, hmh⟩, hdesc⟩, hL21⟩, hi1, hi2⟩ := hC
  have hts := hc.2.2.2.2.1
  have hm := hct.2 l b o base D cA
  have hG : GoodIn hx_T (hx_ws v) := by
    intro w hw
    rcases List.mem_cons.mp hw with rfl | hw
    · exact hx_good _ hcal.2
    · exact hx_good _ hw
  have hst : (F0 m (hx_pc u i) ls ((as.reverse ++ rest).map (hx_g b o base))).stack = (as.map (hx_g b o base)).reverse ++ rest.map (hx_g b o base) := by simp [F0]
  have hW8 : 2 * (F0 m (hx_pc u i) ls ((as.reverse ++ rest).map (hx_g b o base))).monitorRoom + ((rest.map (hx_g b o base)).map fun v => v.category).sum ≤ 8 := by
    show 2 * 0 + _ ≤ 8
    rw [hx_catsum hrest _ (hx_g_cat b o base)]; omega
  have hPre : PreS s H (va_Pc (as.map (hx_g b o base)) (hx_Inv b o base sc D cA h)) (as.map (hx_g b o base)) := ⟨hx_blind, fun U hU hW => ⟨rfl, hx_fix_moved hf hS hU hW, by rw [hU]; exact hw⟩⟩
  have hRm : (hx_rm d' kc' ks').frames + 1 ≤ R.frames ∧ 8 + (hx_L v + 11) + (hx_rm d' kc' ks').locals ≤ R.locals := ⟨by show d' + 1 + 1 ≤ R.frames; omega, by show 8 + (hx_L v + 11) + 40 * (d' + 1) ≤ R.locals; omega⟩
  rcases h3 with h3 | h3
  · exact hx_after (Q' := Q') hok hc hf hR hS hL hq e2 (va_runS (own := (hx_y u).cls) ⟨hc.1, hc.2.1, hc.2.2.1, hc.2.2.2.1, hts⟩ hm ⟨callB_of (hx_na v) hts hG rfl rfl rfl (hts _ (hx_wd_in hi2)) (hts _ (hx_wd_in h3)) ⟨hmh.1, hmh.2, hdesc⟩ hRm, hts _ (hx_wd_in hi1)⟩ hPre rfl (by rw [List.length_map]; exact hn) hL.1 hst hW8 e1 (by omega)) kk
  · exact hx_after (Q' := Q') hok hc hf hR hS hL hq e2 (va_runSN (own := (hx_y u).cls) ⟨hc.1, hc.2.1, hc.2.2.1, hc.2.2.2.1, hts⟩ hm ⟨va_cnB (hx_na v) hts hG rfl rfl rfl (hf.2.2.2.2.2.2 _ (List.mem_of_getElem? h3)) (hts _ (hx_wd_in hi2)) ⟨hmh.1, hmh.2, hdesc⟩ hRm, hts _ (hx_wd_in hi1), trivial⟩ hPre rfl (by rw [List.length_map]; exact hn) hL.1 hst hW8 e1 (by omega)) kk
end HXC
