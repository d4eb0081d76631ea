/-! worlds as lists of cells; references by number: 0 the script, 1 ORDERS, k + 2 the k-th cell -/
abbrev hx_C : Type := (Nat × List Int32) ⊕ (Nat × List Value)
abbrev hx_H : Type := List hx_C
def hx_g (b o base : Nat) (v : Value) : Value := match v with
  | .ref 0 => .ref b
  | .ref 1 => .ref o
  | .ref (k + 2) => .ref (base + k)
  | v => v
def hx_v (v : Value) : Bool := match v with
  | .int _ => true
  | .ref _ => true
  | .null => true
  | _ => false
def hx_c (b o base : Nat) (cA : Nat → ClassId) (c : hx_C) : va_E := match c with
  | .inl q => .inl (cA q.1, q.2.length, .inl (fun j => q.2.getD j 0))
  | .inr q => .inr (q.1, q.2.map (hx_g b o base))
def hx_w (b o base : Nat) (cA : Nat → ClassId) (h : hx_H) : va_W := h.mapIdx (fun k c => (base + k, hx_c b o base cA c))
def hx_ors : List Int32 := [1, 1, 2, 6, 24, 120]
def hx_tys (cA : Nat → ClassId) : List (ClassId × FieldType) := [(cA 0, .int), (cA 1, .byte), (cA 2, .boolean)]
theorem hx_g_cat (b o base : Nat) (v : Value) : (hx_g b o base v).category = v.category := by
  unfold hx_g
  split <;> rfl
theorem hx_v_cat {v : Value} (h : hx_v v = true) : v.category = 1 := by
  cases v <;> first | rfl | cases h
theorem hx_w_at (b o base : Nat) (cA : Nat → ClassId) (h : hx_H) (k : Nat) : (hx_w b o base cA h)[k]? = (h[k]?).map (fun c => (base + k, hx_c b o base cA c)) := by
  simp [hx_w, List.getElem?_mapIdx]
theorem hx_w_get {b o base : Nat} {cA : Nat → ClassId} {h : hx_H} {k : Nat} {c : hx_C} (hk : h[k]? = some c) : (hx_w b o base cA h)[k]? = some (base + k, hx_c b o base cA c) := by
  rw [hx_w_at, hk]; rfl
theorem hx_w_set (b o base : Nat) (cA : Nat → ClassId) (h : hx_H) (k : Nat) (c : hx_C) : hx_w b o base cA (h.set k c) = (hx_w b o base cA h).set k (base + k, hx_c b o base cA c) := by
  apply List.ext_getElem?
  intro i
  rw [hx_w_at, List.getElem?_set, List.getElem?_set, hx_w_at]
  by_cases hik : k = i
  · subst hik
    by_cases hl : k < h.length
    · simp [hx_w, hl]
    · simp [hx_w, hl]
  · simp [hik]
theorem hx_w_app (b o base : Nat) (cA : Nat → ClassId) (h : hx_H) (c : hx_C) : hx_w b o base cA (h ++ [c]) = hx_w b o base cA h ++ [(base + h.length, hx_c b o base cA c)] := by
  simp [hx_w, List.mapIdx_append]
theorem hx_w_D (b o base : Nat) (cA : Nat → ClassId) (h : hx_H) : va_D (fun q => base ≤ q) (hx_w b o base cA h) := by
  have key : ∀ (k : Nat) (q : Nat × va_E), (hx_w b o base cA h)[k]? = some q → q.1 = base + k := by
    intro k q hq
    rw [hx_w_at] at hq
    cases hc : h[k]? with
    | none => rw [hc] at hq; cases hq
    | some c => rw [hc] at hq; cases hq; rfl
  refine ⟨fun i j p q hi hj hpq => ?_, fun k q hk => ?_⟩
  · have h1 := key i p hi
    have h2 := key j q hj
    omega
  · have h1 := key k q hk
    show base ≤ q.1
    omega
theorem hx_upd {xs : List Int32} {i : Nat} {x : Int32} (h : i < xs.length) : upd (fun j => xs.getD j 0) i x = fun j => (xs.set i x).getD j 0 := by
  funext j
  simp only [upd, List.getD_eq_getElem?_getD, List.getElem?_set]
  by_cases hj : j = i
  · subst hj; simp [h]
  · simp [hj, Ne.symm hj]
/-- what is known of the machine at a method's start -/
def hx_fix (b o base : Nat) (sc : List Int32) (D : va_G) (cA : Nat → ClassId) (s : State) : Prop :=
  va_K D hx_cl (hx_tys cA) s ∧ va_X b sc.length (fun j => sc.getD j 0) s s.heap ∧ va_T .int o 6 (fun j => .int (hx_ors.getD j 0)) (fun q => base ≤ q) s s.heap ∧ va_Z "HueWar$Purse" "ORDERS" "[I" (.ref o) (fun q => base ≤ q) s s.heap ∧ b < base ∧ base ≤ s.heap.size ∧ ∀ w ∈ hx_N, va_Nw (.methodLinkNest w.1 w.2.1 w.2.2.1 w.2.2.2) s
def hx_wld (b o base : Nat) (D : va_G) (cA : Nat → ClassId) (h : hx_H) (H : Heap) : Prop := H.size = base + h.length ∧ va_P D hx_cl (hx_w b o base cA h) H
/-- a method's context -/
def hx_ctx (u : hx_M) (p : Program) (s : State) (m : MethodId) (args : Array Value) (meth : Method) (c : Code) : Prop :=
  p.tables.exec = Jvm.exec ∧ c.code = hx_b u ∧ c.maxLocals = hx_L u ∧ s.vm.findClass (hx_y u).cls = some m.cls ∧ (∀ w ∈ hx_T, w.before args s = true) ∧ meth.sig.returnType = hx_ret u ∧ meth.locks = false ∧ meth.name = (hx_y u).name
/-- the locals -/
def hx_LR (g : Value → Value) (ls : Array Slot) (n : Nat) (loc : List Value) : Prop := ls.size = n ∧ lv_wf ls ∧ (∀ v ∈ loc, v.category = 1) ∧ ∀ (i : Nat) (v : Value), loc[i]? = some v → v ≠ .null → ls[i]? = some (.val (g v))
def hx_st (r : Option Int32) : List Value := match r with
  | some x => [.int x]
  | none => []
/-- an end of a method stands there -/
def hx_rt (u : hx_M) (pc : Nat) (r : Option Int32) : Prop := match r with
  | some x => decode (hx_b u) pc = .ok (.ireturn, 1) ∧ ∃ ty, hx_ret u = some ty ∧ narrow ty (.int x) = .int x
  | none => decode (hx_b u) pc = .ok (.return_, 1) ∧ hx_ret u = none
/-- THE JUDGEMENT: from the i-th instruction of u, with these locals, this stack, this world: it comes to an end with Q; it may make kc cells of ks slots; d: how many calls deep -/
def hx_W (sc : List Int32) (u : hx_M) (d i : Nat) (loc st : List Value) (h : hx_H) (kc ks : Nat) (Q : Option Int32 → hx_H → Prop) : Prop :=
  ∀ (b o base : Nat) (D : va_G) (cA : Nat → ClassId) (p : Program) (l : Launch) (e : Env) (R : Room) (s : State) (m : MethodId) (args : Array Value) (below : List Frame) (meth : Method) (c : Code) (H : Heap) (locs : List Loc) (cells slots : Nat) (Qm : State → Prop) (ls : Array Slot),
    hx_okO u = true → hx_ctx u p s m args meth c → hx_fix b o base sc D cA s → (d + 1 ≤ R.frames ∧ 40 * (d + 1) ≤ R.locals ∧ cells + kc ≤ R.cells ∧ slots + ks ≤ R.slots) → hx_wld b o base D cA h H → va_S (fun q => base ≤ q) s.heap H locs → hx_LR (hx_g b o base) ls (hx_L u) loc →
    (∀ (r : Option Int32) (h' : hx_H) (H' : Heap) (locs' : List Loc) (cells' slots' : Nat) (ls' : Array Slot) (pc' : Nat), cells' ≤ cells + kc → slots' ≤ slots + ks → Q r h' → hx_wld b o base D cA h' H' → va_S (fun q => base ≤ q) s.heap H' locs' → hx_rt u pc' r →
      W p l e R s m args below meth c H' locs' cells' slots' Qm (F0 m pc' ls' (hx_st r))) →
    W p l e R s m args below meth c H locs cells slots Qm (F0 m (hx_pc u i) ls (st.map (hx_g b o base)))
section HXR
variable {sc : List Int32} {u : hx_M} {d i : Nat} {loc st : List Value} {h : hx_H} {kc ks : Nat} {Q : Option Int32 → hx_H → Prop}
/-! locals -/
def hx_lv (g : Value → Value) (loc : List Value) : List (Nat × Value) := (List.range loc.length).filterMap (fun i => match (loc[i]? : Option Value) with
  | some (Value.null : Value) => none
  | some v => some (i, g v)
  | none => none)
theorem hx_lv_mem {g : Value → Value} {loc : List Value} {q : Nat × Value} : q ∈ hx_lv g loc ↔ ∃ v, loc[q.1]? = some v ∧ v ≠ .null ∧ q.2 = g v := by
  unfold hx_lv
  rw [List.mem_filterMap]
  constructor
  · rintro ⟨i, -, hi⟩
    cases hl : loc[i]? with
    | none => rw [hl] at hi; cases hi
    | some v =>
      rw [hl] at hi
      by_cases hv : v = .null
      · subst hv; cases hi
      · have e : some (i, g v) = some q := by
          cases v <;> first | exact absurd rfl hv | exact hi
        cases e
        exact ⟨v, hl, hv, rfl⟩
  · rintro ⟨v, hl, hv, he⟩
    refine ⟨q.1, List.mem_range.mpr (List.getElem?_eq_some_iff.mp hl).1, ?_⟩
    rw [hl]
    obtain ⟨a, b⟩ := q
    dsimp only at he hl ⊢
    subst he
    cases v <;> first | exact absurd rfl hv | rfl
theorem hx_LR.has {g : Value → Value} {ls : Array Slot} {n : Nat} {loc : List Value} (h : hx_LR g ls n loc) : lv_has ls n (hx_lv g loc) := by
  refine ⟨h.1, h.2.1, fun q hq => ?_⟩
  obtain ⟨v, h1, h2, h3⟩ := hx_lv_mem.mp hq
  rw [h3]
  exact h.2.2.2 q.1 v h1 h2
theorem hx_LR.set {g : Value → Value} {ls ls' : Array Slot} {n k : Nat} {loc : List Value} {v : Value} (hg : ∀ v, (g v).category = v.category) (h : hx_LR g ls n loc) (hv : v.category = 1) (h' : lv_has ls' n ((k, g v) :: (hx_lv g loc).filter (fun q => !(q.1 == k) && !(q.1 + 1 == k && q.2.category == 2)))) : hx_LR g ls' n (loc.set k v) := by
  refine ⟨h'.1, h'.2.1, fun w hw => ?_, fun i w hi hn => ?_⟩
  · rcases List.mem_or_eq_of_mem_set hw with h1 | h1
    · exact h.2.2.1 w h1
    · rw [h1]; exact hv
  · rw [List.getElem?_set] at hi
    by_cases hk : k = i
    · subst hk
      by_cases hl : k < loc.length
      · simp [hl] at hi
        subst hi
        exact h'.2.2 (k, g v) List.mem_cons_self
      · simp [hl] at hi
    · rw [if_neg hk] at hi
      refine h'.2.2 (i, g w) (List.mem_cons_of_mem _ (List.mem_filter.mpr ⟨hx_lv_mem.mpr ⟨w, hi, hn, rfl⟩, ?_⟩))
      have hc := h.2.2.1 w (List.mem_of_getElem? hi)
      simp [Ne.symm hk, hg, hc]
/-! one instruction, a rule -/
theorem hx_iload {k : Nat} {x : Int32} (hop : (hx_ops u)[i]? = some (.iload k)) (hl : loc[k]? = some (.int x)) (kk : hx_W sc u d (i + 1) loc (.int x :: st) h kc ks Q) : hx_W sc u d i loc st h kc ks Q := by
  intro b o base D cA p l e R s m args below meth c H locs cells slots Qm ls hok hc hf hR hw hS hL hq
  have h1 := hx_at hok hop
  have hv := hL.2.2.2 k _ hl (by simp)
  have h2 := kk b o base D cA p l e R s m args below meth c H locs cells slots Qm ls hok hc hf hR hw hS hL hq
  simp only [hx_okI] at h1
  split at h1
  · next h4 =>
    obtain ⟨e1, e2⟩ := hx_dec_s h1
    rw [e2] at h2
    exact lv_iload_n hc.1 hc.2.1 e1 rfl hv h2
  · obtain ⟨e1, e2⟩ := hx_dec_s h1
    rw [e2] at h2
    exact lv_iload hc.1 hc.2.1 e1 hv h2
theorem hx_aload {k a : Nat} (hop : (hx_ops u)[i]? = some (.aload k)) (hl : loc[k]? = some (.ref a)) (kk : hx_W sc u d (i + 1) loc (.ref a :: st) h kc ks Q) : hx_W sc u d i loc st h kc ks Q := by
  intro b o base D cA p l e R s m args below meth c H locs cells slots Qm ls hok hc hf hR hw hS hL hq
  have h1 := hx_at hok hop
  have hv := hL.2.2.2 k _ hl (by simp)
  have h2 := kk b o base D cA p l e R s m args below meth c H locs cells slots Qm ls hok hc hf hR hw hS hL hq
  obtain ⟨z, hz⟩ : ∃ z, hx_g b o base (.ref a) = .ref z := by
    unfold hx_g; split <;> first | exact ⟨_, rfl⟩ | (rename_i hn _; exact ⟨a, rfl⟩) | exact ⟨a, rfl⟩
  rw [List.map_cons, hz] at h2
  rw [hz] at hv
  simp only [hx_okI] at h1
  split at h1
  · next h4 =>
    obtain ⟨e1, e2⟩ := hx_dec_s h1
    rw [e2] at h2
    exact lv_aload_n hc.1 hc.2.1 e1 rfl hv h2
  · obtain ⟨e1, e2⟩ := hx_dec_s h1
    rw [e2] at h2
    exact lv_aload hc.1 hc.2.1 e1 hv h2
theorem hx_istore {k : Nat} {x : Int32} (hop : (hx_ops u)[i]? = some (.istore k)) (kk : hx_W sc u d (i + 1) (loc.set k (.int x)) st h kc ks Q) : hx_W sc u d i loc (.int x :: st) h kc ks Q := by
  intro b o base D cA p l e R s m args below meth c H locs cells slots Qm ls hok hc hf hR hw hS hL hq
  have h1 := hx_at hok hop
  have h2 := fun ls hL => kk b o base D cA p l e R s m args below meth c H locs cells slots Qm ls hok hc hf hR hw hS hL hq
  simp only [hx_okI, Bool.and_eq_true, decide_eq_true_eq] at h1
  obtain ⟨hk, h1⟩ := h1
  split at h1
  · next h4 =>
    obtain ⟨e1, e2⟩ := hx_dec_s h1
    rw [e2] at h2
    exact lv_istore_n hc.1 hc.2.1 e1 rfl hL.has hk rfl (fun ls' hl => h2 ls' (hL.set (v := .int x) (hx_g_cat b o base) rfl hl))
  · obtain ⟨e1, e2⟩ := hx_dec_s h1
    rw [e2] at h2
    exact lv_istore hc.1 hc.2.1 e1 hL.has hk rfl (fun ls' hl => h2 ls' (hL.set (v := .int x) (hx_g_cat b o base) rfl hl))
theorem hx_astore {k a : Nat} (hop : (hx_ops u)[i]? = some (.astore k)) (kk : hx_W sc u d (i + 1) (loc.set k (.ref a)) st h kc ks Q) : hx_W sc u d i loc (.ref a :: st) h kc ks Q := by
  intro b o base D cA p l e R s m args below meth c H locs cells slots Qm ls hok hc hf hR hw hS hL hq
  have h1 := hx_at hok hop
  have h2 := fun ls hL => kk b o base D cA p l e R s m args below meth c H locs cells slots Qm ls hok hc hf hR hw hS hL hq
  obtain ⟨z, hz⟩ : ∃ z, hx_g b o base (.ref a) = .ref z := by
    unfold hx_g; split <;> first | exact ⟨_, rfl⟩ | exact ⟨a, rfl⟩
  rw [List.map_cons, hz]
  simp only [hx_okI, Bool.and_eq_true, decide_eq_true_eq] at h1
  obtain ⟨hk, h1⟩ := h1
  split at h1
  · next h4 =>
    obtain ⟨e1, e2⟩ := hx_dec_s h1
    rw [e2] at h2
    exact lv_astore_n hc.1 hc.2.1 e1 rfl hL.has hk rfl (fun ls' hl => h2 ls' (hL.set (v := .ref a) (hx_g_cat b o base) rfl (by rw [hz]; exact hl)))
  · obtain ⟨e1, e2⟩ := hx_dec_s h1
    rw [e2] at h2
    exact lv_astore hc.1 hc.2.1 e1 hL.has hk rfl (fun ls' hl => h2 ls' (hL.set (v := .ref a) (hx_g_cat b o base) rfl (by rw [hz]; exact hl)))
theorem hx_iinc {k : Nat} {n : Int} {x : Int32} (hop : (hx_ops u)[i]? = some (.iinc k n)) (hl : loc[k]? = some (.int x)) (kk : hx_W sc u d (i + 1) (loc.set k (.int (x + Int32.ofInt n))) st h kc ks Q) : hx_W sc u d i loc st h kc ks Q := by
  intro b o base D cA p l e R s m args below meth c H locs cells slots Qm ls hok hc hf hR hw hS hL hq
  have h1 := hx_at hok hop
  have h2 := fun ls hL => kk b o base D cA p l e R s m args below meth c H locs cells slots Qm ls hok hc hf hR hw hS hL hq
  simp only [hx_okI, Bool.and_eq_true, decide_eq_true_eq] at h1
  obtain ⟨hk, h1⟩ := h1
  obtain ⟨e1, e2⟩ := hx_dec_s h1
  rw [e2] at h2
  have hm : (k, Value.int x) ∈ hx_lv (hx_g b o base) loc := hx_lv_mem.mpr ⟨_, hl, by simp, rfl⟩
  obtain ⟨j, hj⟩ := List.getElem?_of_mem hm
  exact lv_iinc hc.1 hc.2.1 e1 hL.has hj rfl hk rfl (fun ls' hl => h2 ls' (hL.set (v := .int (x + Int32.ofInt n)) (hx_g_cat b o base) rfl hl))
theorem hx_const {n : Int} (hop : (hx_ops u)[i]? = some (.bipush n)) (kk : hx_W sc u d (i + 1) loc (.int (Int32.ofInt n) :: st) h kc ks Q) : hx_W sc u d i loc st h kc ks Q := by
  intro b o base D cA p l e R s m args below meth c H locs cells slots Qm ls hok hc hf hR hw hS hL hq
  have h1 := hx_at hok hop
  have h2 := kk b o base D cA p l e R s m args below meth c H locs cells slots Qm ls hok hc hf hR hw hS hL hq
  simp only [hx_okI, Bool.or_eq_true, Bool.and_eq_true, decide_eq_true_eq] at h1
  rcases h1 with (((h1 | ⟨h1, h3⟩) | ⟨h1, h3⟩) | ⟨h1, h3⟩) | ⟨h1, h3⟩ <;> obtain ⟨e1, e2⟩ := hx_dec_s h1 <;> rw [e2] at h2
  · exact lv_iconst hc.1 hc.2.1 e1 rfl h2
  · exact lv_bipush hc.1 hc.2.1 e1 h3 h2
  · exact lv_sipush hc.1 hc.2.1 e1 h3 h2
  · exact lv_ldc hc.1 hc.2.1 hc.2.2.2.1 (hc.2.2.2.2.1 _ (hx_wd_in h3)) e1 h2
  · exact lv_ldcw hc.1 hc.2.1 hc.2.2.2.1 (hc.2.2.2.2.1 _ (hx_wd_in h3)) e1 h2
end HXR
