/-! the interpreter is right -/
theorem hr_run_s {sc : List Int32} : ∀ (n dp : Nat) (u : hx_M) (i : Nat) (loc st : List Value) (h h' : hx_H) (c s : Nat), hr_run n dp u i loc st h = some (h', c, s) → ∀ d : Nat, dp ≤ d → hx_W sc u d i loc st h c s (hr_Q h') := by
  intro n
  induction n with
  | zero => intro dp u i loc st h h' c s hh; cases hh
  | succ n ih =>
    intro dp u i loc st h h' c s hh d hd
    simp only [hr_run] at hh
    split at hh
    · next hop =>
      split at hh
      · split at hh
        · next hr =>
          cases hh
          exact hx_return hop hr ⟨rfl, rfl⟩
        · cases hh
      · cases hh
    · next k hop =>
      split at hh
      · next a hl => exact hx_aload hop hl (ih _ _ _ _ _ _ _ _ _ hh d hd)
      · cases hh
    · next k hop =>
      split at hh
      · next x hl => exact hx_iload hop hl (ih _ _ _ _ _ _ _ _ _ hh d hd)
      · cases hh
    · next v hop => exact hx_const hop (ih _ _ _ _ _ _ _ _ _ hh d hd)
    · next k hop =>
      split at hh
      · exact hx_istore hop (ih _ _ _ _ _ _ _ _ _ hh d hd)
      · cases hh
    · next k v hop =>
      split at hh
      · next x hl => exact hx_iinc hop hl (ih _ _ _ _ _ _ _ _ _ hh d hd)
      · cases hh
    · next t hop =>
      split at hh
      · next ht => exact hx_goto (t := t.toNat) (by rw [hop, Int.toNat_of_nonneg ht]) (ih _ _ _ _ _ _ _ _ _ hh d hd)
      · cases hh
    · next t hop =>
      split at hh
      · split at hh
        · next ht =>
          split at hh
          · next hc => exact hx_ic_ge (t := t.toNat) (by rw [hop, Int.toNat_of_nonneg ht]) (fun _ => ih _ _ _ _ _ _ _ _ _ hh d hd) (fun q => absurd hc q)
          · next hc => exact hx_ic_ge (t := t.toNat) (by rw [hop, Int.toNat_of_nonneg ht]) (fun q => absurd q hc) (fun _ => ih _ _ _ _ _ _ _ _ _ hh d hd)
        · cases hh
      · cases hh
    · next hop =>
      split at hh
      · split at hh
        · next hw => exact hx_dup hop hw (ih _ _ _ _ _ _ _ _ _ hh d hd)
        · cases hh
      · cases hh
    · next ci hop =>
      split at hh
      · next q hcl =>
        split at hh
        · next hc =>
          obtain ⟨a', b', e1, rfl, rfl⟩ := hr_add_s hh
          have hk : ∀ k, k < q.2.2 → parseFieldDescriptor (q.2.1 k).2.2.1 = some ((parseFieldDescriptor (q.2.1 k).2.2.1).getD .int) := fun k hk => by
            have h1 := List.all_eq_true.mp hc.1 k (List.mem_range.mpr hk)
            cases h2 : parseFieldDescriptor (q.2.1 k).2.2.1 with
            | none => rw [h2] at h1; cases h1
            | some ty => rfl
          refine hx_new hop hcl (ty := fun k => (parseFieldDescriptor (q.2.1 k).2.2.1).getD .int) hk (fun j hj => ?_) (fun b o base => hr_gs hc.2 b o base) (ih _ _ _ _ _ _ _ _ _ e1 d hd)
          have h1 := hk j hj
          simp only [vp_V, hr_defs, List.getD_eq_getElem?_getD, List.getElem?_map, List.getElem?_range hj, Option.map_some, Option.getD_some]
          rw [h1]
          rfl
        · cases hh
      · cases hh
    · next t hop =>
      split at hh
      · next k x st' hk =>
        split at hh
        · next hc =>
          obtain ⟨a', b', e1, rfl, rfl⟩ := hr_add_s hh
          refine hx_newa (t := k) hop ?_ hc.1 hc.2 (ih _ _ _ _ _ _ _ _ _ e1 d hd)
          cases t <;> simp [hr_at] at hk <;> subst hk <;> simp
        · cases hh
      · cases hh
    · next f hop =>
      split at hh
      · split at hh
        · next ci fs hcell =>
          split at hh
          · next w hv =>
            split at hh
            · next hc => exact hx_get hop hcell hc hv (ih _ _ _ _ _ _ _ _ _ hh d hd)
            · cases hh
          · cases hh
        · cases hh
      · cases hh
    · next f hop =>
      split at hh
      · split at hh
        · next ci fs hcell =>
          split at hh
          · next ty hty =>
            split at hh
            · next hc => exact hx_put hop hcell hc.1 hc.2.1 hty (fun b o base => (hr_fit_s hc.2.2 b o base).1) (fun b o base => (hr_fit_s hc.2.2 b o base).2) (ih _ _ _ _ _ _ _ _ _ hh d hd)
            · cases hh
          · cases hh
        · cases hh
      · cases hh
    · next hop =>
      split at hh
      · split at hh
        · next xs hcell =>
          split at hh
          · next hc => exact hx_iast hop hcell hc (ih _ _ _ _ _ _ _ _ _ hh d hd)
          · cases hh
        · cases hh
      · cases hh
    · next j hop =>
      split at hh
      · next hj =>
        subst hj
        split at hh
        · split at hh
          · next hc => exact hx_oinit hop hc.1 hc.2 (ih _ _ _ _ _ _ _ _ _ hh d hd)
          · cases hh
        · cases hh
      · next hj =>
        split at hh
        · next dp' v hv =>
          split at hh
          · next a rest hdr =>
            split at hh
            · next hc =>
              split at hh
              · next h1 c1 s1 hr =>
                obtain ⟨a', b', e1, rfl, rfl⟩ := hr_add_s hh
                obtain ⟨hj10, ⟨hl1, hl2⟩, ⟨hr1, hr2⟩, hv1⟩ := hc
                obtain ⟨o1, o2⟩ := hr_oks j v hj10 hv
                have hst : st = ((st.take (hx_na v)).reverse).reverse ++ .ref (a + 2) :: rest := by
                  rw [List.reverse_reverse, ← hdr, List.take_append_drop]
                have hct : hx_Ct sc v dp' c1 s1 (.ref (a + 2) :: (st.take (hx_na v)).reverse) h (hr_Q h1) := by
                  refine hx_mk o1 o2 (by rw [List.length_cons, List.length_reverse, hl2]; exact hl1) ?_ (ih _ _ _ _ _ _ _ _ _ hr dp' (Nat.le_refl _))
                  rw [List.all_cons, List.all_reverse, hv1]
                  rfl
                rw [hst]
                refine hx_callI (as := (st.take (hx_na v)).reverse) hop hj hv (d' := dp') (by omega) (by rw [List.length_reverse, hl2]) hr1 hr2 hct (fun r h2 hq => ?_)
                obtain ⟨rfl, rfl⟩ := hq
                exact ih _ _ _ _ _ _ _ _ _ e1 d hd
              · cases hh
            · cases hh
          · cases hh
        · cases hh
    · cases hh
