/-! worlds as lists of cells; references by number: 0 the script, 1 ORDERS, k + 2 the k-th cell -/
abbrev hx_C : Type := (Nat × List Int32) ⊕ (Nat × List Value)
abbrev hx_H : Type := List hx_C
def hx_g (b o base : Nat) (v : Value) : Value := match v with
  | .ref 0 => .ref b
  | .ref 1 => .ref o
  | .ref (k + 2) => .ref (base + k)
  | v => v
def hx_v (v : Value) : Bool := match v with
  | .int _ => true
  | .ref _ => true
  | .null => true
  | _ => false
def hx_c (b o base : Nat) (cA : Nat → ClassId) (c : hx_C) : va_E := match c with
  | .inl q => .inl (cA q.1, q.2.length, .inl (fun j => q.2.getD j 0))
  | .inr q => .inr (q.1, q.2.map (hx_g b o base))
def hx_w (b o base : Nat) (cA : Nat → ClassId) (h : hx_H) : va_W := h.mapIdx (fun k c => (base + k, hx_c b o base cA c))
def hx_ors : List Int32 := [1, 1, 2, 6, 24, 120]
def hx_tys (cA : Nat → ClassId) : List (ClassId × FieldType) := [(cA 0, .int), (cA 1, .byte), (cA 2, .boolean)]
theorem hx_g_cat (b o base : Nat) (v : Value) : (hx_g b o base v).category = v.category := by
  unfold hx_g
  split <;> rfl
theorem hx_v_cat {v : Value} (h : hx_v v = true) : v.category = 1 := by
  cases v <;> first | rfl | cases h
theorem hx_w_at (b o base : Nat) (cA : Nat → ClassId) (h : hx_H) (k : Nat) : (hx_w b o base cA h)[k]? = (h[k]?).map (fun c => (base + k, hx_c b o base cA c)) := by
  simp [hx_w, List.getElem?_mapIdx]
theorem hx_w_get {b o base : Nat} {cA : Nat → ClassId} {h : hx_H} {k : Nat} {c : hx_C} (hk : h[k]? = some c) : (hx_w b o base cA h)[k]? = some (base + k, hx_c b o base cA c) := by
  rw [hx_w_at, hk]; rfl
theorem hx_w_set (b o base : Nat) (cA : Nat → ClassId) (h : hx_H) (k : Nat) (c : hx_C) : hx_w b o base cA (h.set k c) = (hx_w b o base cA h).set k (base + k, hx_c b o base cA c) := by
  apply List.ext_getElem?
  intro i
  rw [hx_w_at, List.getElem?_set, List.getElem?_set, hx_w_at]
  by_cases hik : k = i
  · subst hik
    by_cases hl : k < h.length
    · simp [hx_w, hl]
    · simp [hx_w, hl]
  · simp [hik]
theorem hx_w_app (b o base : Nat) (cA : Nat → ClassId) (h : hx_H) (c : hx_C) : hx_w b o base cA (h ++ [c]) = hx_w b o base cA h ++ [(base + h.length, hx_c b o base cA c)] := by
  simp [hx_w, List.mapIdx_append]
theorem hx_w_D (b o base : Nat) (cA : Nat → ClassId) (h : hx_H) : va_D (fun q => base ≤ q) (hx_w b o base cA h) := by
  have key : ∀ (k : Nat) (q : Nat × va_E), (hx_w b o base cA h)[k]? = some q → q.1 = base + k := by
    intro k q hq
    rw [hx_w_at] at hq
    cases hc : h[k]? with
    | none => rw [hc] at hq; cases hq
    | some c => rw [hc] at hq; cases hq; rfl
  refine ⟨fun i j p q hi hj hpq => ?_, fun k q hk => ?_⟩
  · have h1 := key i p hi
    have h2 := key j q hj
    omega
  · have h1 := key k q hk
    show base ≤ q.1
    omega
theorem hx_upd {xs : List Int32} {i : Nat} {x : Int32} (h : i < xs.length) : upd (fun j => xs.getD j 0) i x = fun j => (xs.set i x).getD j 0 := by
  funext j
  simp only [upd, List.getD_eq_getElem?_getD, List.getElem?_set]
  by_cases hj : j = i
  · subst hj; simp [h]
  · simp [hj, Ne.symm hj]
/-- what is known of the machine at a method's start -/
def hx_fix (b o base : Nat) (sc : List Int32) (D : va_G) (cA : Nat → ClassId) (s : State) : Prop :=
  va_K D hx_cl (hx_tys cA) s ∧ va_X b sc.length (fun j => sc.getD j 0) s s.heap ∧ va_T .int o 6 (fun j => .int (hx_ors.getD j 0)) (fun q => base ≤ q) s s.heap ∧ va_Z "HueWar$Purse" "ORDERS" "[I" (.ref o) (fun q => base ≤ q) s s.heap ∧ b < base ∧ base ≤ s.heap.size ∧ ∀ w ∈ hx_N, va_Nw (.methodLinkNest w.1 w.2.1 w.2.2.1 w.2.2.2) s
def hx_wld (b o base : Nat) (D : va_G) (cA : Nat → ClassId) (h : hx_H) (H : Heap) : Prop := H.size = base + h.length ∧ va_P D hx_cl (hx_w b o base cA h) H
/-- a method's context -/
def hx_ctx (u : hx_M) (p : Program) (s : State) (m : MethodId) (args : Array Value) (meth : Method) (c : Code) : Prop :=
  p.tables.exec = Jvm.exec ∧ c.code = hx_b u ∧ c.maxLocals = hx_L u ∧ s.vm.findClass (hx_y u).cls = some m.cls ∧ (∀ w ∈ hx_T, w.before args s = true) ∧ meth.sig.returnType = hx_ret u ∧ meth.locks = false ∧ meth.name = (hx_y u).name
/-- the locals -/
def hx_LR (g : Value → Value) (ls : Array Slot) (n : Nat) (loc : List Value) : Prop := ls.size = n ∧ lv_wf ls ∧ (∀ v ∈ loc, v.category = 1) ∧ ∀ (i : Nat) (v : Value), loc[i]? = some v → v ≠ .null → ls[i]? = some (.val (g v))
def hx_st (r : Option Int32) : List Value := match r with
  | some x => [.int x]
  | none => []
/-- an end of a method stands there -/
def hx_rt (u : hx_M) (pc : Nat) (r : Option Int32) : Prop := match r with
  | some x => decode (hx_b u) pc = .ok (.ireturn, 1) ∧ ∃ ty, hx_ret u = some ty ∧ narrow ty (.int x) = .int x
  | none => decode (hx_b u) pc = .ok (.return_, 1) ∧ hx_ret u = none
/-- THE JUDGEMENT: from the i-th instruction of u, with these locals, this stack, this world: it comes to an end with Q; it may make kc cells of ks slots; d: how many calls deep -/
def hx_W (sc : List Int32) (u : hx_M) (d i : Nat) (loc st : List Value) (h : hx_H) (kc ks : Nat) (Q : Option Int32 → hx_H → Prop) : Prop :=
  ∀ (b o base : Nat) (D : va_G) (cA : Nat → ClassId) (p : Program) (l : Launch) (e : Env) (R : Room) (s : State) (m : MethodId) (args : Array Value) (below : List Frame) (meth : Method) (c : Code) (H : Heap) (locs : List Loc) (cells slots : Nat) (Qm : State → Prop) (ls : Array Slot),
    hx_okO u = true → hx_ctx u p s m args meth c → hx_fix b o base sc D cA s → (d + 1 ≤ R.frames ∧ 40 * (d + 1) ≤ R.locals ∧ cells + kc ≤ R.cells ∧ slots + ks ≤ R.slots) → hx_wld b o base D cA h H → va_S (fun q => base ≤ q) s.heap H locs → hx_LR (hx_g b o base) ls (hx_L u) loc →
    (∀ (r : Option Int32) (h' : hx_H) (H' : Heap) (locs' : List Loc) (cells' slots' : Nat) (ls' : Array Slot) (pc' : Nat), cells' ≤ cells + kc → slots' ≤ slots + ks → Q r h' → hx_wld b o base D cA h' H' → va_S (fun q => base ≤ q) s.heap H' locs' → hx_rt u pc' r →
      W p l e R s m args below meth c H' locs' cells' slots' Qm (F0 m pc' ls' (hx_st r))) →
    W p l e R s m args below meth c H locs cells slots Qm (F0 m (hx_pc u i) ls (st.map (hx_g b o base)))
section HXR
variable {sc : List Int32} {u : hx_M} {d i : Nat} {loc st : List Value} {h : hx_H} {kc ks : Nat} {Q : Option Int32 → hx_H → Prop}
/-! locals -/
def hx_lv (g : Value → Value) (loc : List Value) : List (Nat × Value) := (List.range loc.length).filterMap (fun i => match (loc[i]? : Option Value) with
  | some (Value.null : Value) => none
  | some v => some (i, g v)
  | none => none)
theorem hx_lv_mem {g : Value → Value} {loc : List Value} {q : Nat × Value} : q ∈ hx_lv g loc ↔ ∃ v, loc[q.1]? = some v ∧ v ≠ .null ∧ q.2 = g v := by
  unfold hx_lv
  rw [List.mem_filterMap]
  constructor
  · rintro ⟨i, -, hi⟩
    cases hl : loc[i]? with
    | none => rw [hl] at hi; cases hi
    | some v =>
      rw [hl] at hi
      by_cases hv : v = .null
      · subst hv; cases hi
      · have e : some (i, g v) = some q := by
          cases v <;> first | exact absurd rfl hv | exact hi
        cases e
        exact ⟨v, hl, hv, rfl⟩
  · rintro ⟨v, hl, hv, he⟩
    refine ⟨q.1, List.mem_range.mpr (List.getElem?_eq_some_iff.mp hl).1, ?_⟩
    rw [hl]
    obtain ⟨a, b⟩ := q
    dsimp only at he hl ⊢
    subst he
    cases v <;> first | exact absurd rfl hv | rfl
theorem hx_LR.has {g : Value → Value} {ls : Array Slot} {n : Nat} {loc : List Value} (h : hx_LR g ls n loc) : lv_has ls n (hx_lv g loc) := by
  refine ⟨h.1, h.2.1, fun q hq => ?_⟩
  obtain ⟨v, h1, h2, h3⟩ := hx_lv_mem.mp hq
  rw [h3]
  exact h.2.2.2 q.1 v h1 h2
theorem hx_LR.set {g : Value → Value} {ls ls' : Array Slot} {n k : Nat} {loc : List Value} {v : Value} (hg : ∀ v, (g v).category = v.category) (h : hx_LR g ls n loc) (hv : v.category = 1) (h' : lv_has ls' n ((k, g v) :: (hx_lv g loc).filter (fun q => !(q.1 == k) && !(q.1 + 1 == k && q.2.category == 2)))) : hx_LR g ls' n (loc.set k v) := by
  refine ⟨h'.1, h'.2.1, fun w hw => ?_, fun i w hi hn => ?_⟩
  · rcases List.mem_or_eq_of_mem_set hw with h1 | h1
    · exact h.2.2.1 w h1
    · rw [h1]; exact hv
  · rw [List.getElem?_set] at hi
    by_cases hk : k = i
    · subst hk
      by_cases hl : k < loc.length
      · simp [hl] at hi
        subst hi
        exact h'.2.2 (k, g v) List.mem_cons_self
      · simp [hl] at hi
    · rw [if_neg hk] at hi
      refine h'.2.2 (i, g w) (List.mem_cons_of_mem _ (List.mem_filter.mpr ⟨hx_lv_mem.mpr ⟨w, hi, hn, rfl⟩, ?_⟩))
      have hc := h.2.2.1 w (List.mem_of_getElem? hi)
      simp [Ne.symm hk, hg, hc]
/-! one instruction, a rule -/
theorem hx_iload {k : Nat} {x : Int32} (hop : (hx_ops u)[i]? = some (.iload k)) (hl : loc[k]? = some (.int x)) (kk : hx_W sc u d (i + 1) loc (.int x :: st) h kc ks Q) : hx_W sc u d i loc st h kc ks Q := by
  intro b o base D cA p l e R s m args below meth c H locs cells slots Qm ls hok hc hf hR hw hS hL hq
  have h1 := hx_at hok hop
  have hv := hL.2.2.2 k _ hl (by simp)
  have h2 := kk b o base D cA p l e R s m args below meth c H locs cells slots Qm ls hok hc hf hR hw hS hL hq
  simp only [hx_okI] at h1
  split at h1
  · next h4 =>
    obtain ⟨e1, e2⟩ := hx_dec_s h1
    rw [e2] at h2
    exact lv_iload_n hc.1 hc.2.1 e1 rfl hv h2
  · obtain ⟨e1, e2⟩ := hx_dec_s h1
    rw [e2] at h2
    exact lv_iload hc.1 hc.2.1 e1 hv h2
theorem hx_aload {k a : Nat} (hop : (hx_ops u)[i]? = some (.aload k)) (hl : loc[k]? = some (.ref a)) (kk : hx_W sc u d (i + 1) loc (.ref a :: st) h kc ks Q) : hx_W sc u d i loc st h kc ks Q := by
  intro b o base D cA p l e R s m args below meth c H locs cells slots Qm ls hok hc hf hR hw hS hL hq
  have h1 := hx_at hok hop
  have hv := hL.2.2.2 k _ hl (by simp)
  have h2 := kk b o base D cA p l e R s m args below meth c H locs cells slots Qm ls hok hc hf hR hw hS hL hq
  obtain ⟨z, hz⟩ : ∃ z, hx_g b o base (.ref a) = .ref z := by
    unfold hx_g; split <;> first | exact ⟨_, rfl⟩ | (rename_i hn _; exact ⟨a, rfl⟩) | exact ⟨a, rfl⟩
  rw [List.map_cons, hz] at h2
  rw [hz] at hv
  simp only [hx_okI] at h1
  split at h1
  · next h4 =>
    obtain ⟨e1, e2⟩ := hx_dec_s h1
    rw [e2] at h2
    exact lv_aload_n hc.1 hc.2.1 e1 rfl hv h2
  · obtain ⟨e1, e2⟩ := hx_dec_s h1
    rw [e2] at h2
    exact lv_aload hc.1 hc.2.1 e1 hv h2
theorem hx_istore {k : Nat} {x : Int32} (hop : (hx_ops u)[i]? = some (.istore k)) (kk : hx_W sc u d (i + 1) (loc.set k (.int x)) st h kc ks Q) : hx_W sc u d i loc (.int x :: st) h kc ks Q := by
  intro b o base D cA p l e R s m args below meth c H locs cells slots Qm ls hok hc hf hR hw hS hL hq
  have h1 := hx_at hok hop
  have h2 := fun ls hL => kk b o base D cA p l e R s m args below meth c H locs cells slots Qm ls hok hc hf hR hw hS hL hq
  simp only [hx_okI, Bool.and_eq_true, decide_eq_true_eq] at h1
  obtain ⟨hk, h1⟩ := h1
  split at h1
  · next h4 =>
    obtain ⟨e1, e2⟩ := hx_dec_s h1
    rw [e2] at h2
    exact lv_istore_n hc.1 hc.2.1 e1 rfl hL.has hk rfl (fun ls' hl => h2 ls' (hL.set (v := .int x) (hx_g_cat b o base) rfl hl))
  · obtain ⟨e1, e2⟩ := hx_dec_s h1
    rw [e2] at h2
    exact lv_istore hc.1 hc.2.1 e1 hL.has hk rfl (fun ls' hl => h2 ls' (hL.set (v := .int x) (hx_g_cat b o base) rfl hl))
theorem hx_astore {k a : Nat} (hop : (hx_ops u)[i]? = some (.astore k)) (kk : hx_W sc u d (i + 1) (loc.set k (.ref a)) st h kc ks Q) : hx_W sc u d i loc (.ref a :: st) h kc ks Q := by
  intro b o base D cA p l e R s m args below meth c H locs cells slots Qm ls hok hc hf hR hw hS hL hq
  have h1 := hx_at hok hop
  have h2 := fun ls hL => kk b o base D cA p l e R s m args below meth c H locs cells slots Qm ls hok hc hf hR hw hS hL hq
  obtain ⟨z, hz⟩ : ∃ z, hx_g b o base (.ref a) = .ref z := by
    unfold hx_g; split <;> first | exact ⟨_, rfl⟩ | exact ⟨a, rfl⟩
  rw [List.map_cons, hz]
  simp only [hx_okI, Bool.and_eq_true, decide_eq_true_eq] at h1
  obtain ⟨hk, h1⟩ := h1
  split at h1
  · next h4 =>
    obtain ⟨e1, e2⟩ := hx_dec_s h1
    rw [e2] at h2
    exact lv_astore_n hc.1 hc.2.1 e1 rfl hL.has hk rfl (fun ls' hl => h2 ls' (hL.set (v := .ref a) (hx_g_cat b o base) rfl (by rw [hz]; exact hl)))
  · obtain ⟨e1, e2⟩ := hx_dec_s h1
    rw [e2] at h2
    exact lv_astore hc.1 hc.2.1 e1 hL.has hk rfl (fun ls' hl => h2 ls' (hL.set (v := .ref a) (hx_g_cat b o base) rfl (by rw [hz]; exact hl)))
theorem hx_iinc {k : Nat} {n : Int} {x : Int32} (hop : (hx_ops u)[i]? = some (.iinc k n)) (hl : loc[k]? = some (.int x)) (kk : hx_W sc u d (i + 1) (loc.set k (.int (x + Int32.ofInt n))) st h kc ks Q) : hx_W sc u d i loc st h kc ks Q := by
  intro b o base D cA p l e R s m args below meth c H locs cells slots Qm ls hok hc hf hR hw hS hL hq
  have h1 := hx_at hok hop
  have h2 := fun ls hL => kk b o base D cA p l e R s m args below meth c H locs cells slots Qm ls hok hc hf hR hw hS hL hq
  simp only [hx_okI, Bool.and_eq_true, decide_eq_true_eq] at h1
  obtain ⟨hk, h1⟩ := h1
  obtain ⟨e1, e2⟩ := hx_dec_s h1
  rw [e2] at h2
  have hm : (k, Value.int x) ∈ hx_lv (hx_g b o base) loc := hx_lv_mem.mpr ⟨_, hl, by simp, rfl⟩
  obtain ⟨j, hj⟩ := List.getElem?_of_mem hm
  exact lv_iinc hc.1 hc.2.1 e1 hL.has hj rfl hk rfl (fun ls' hl => h2 ls' (hL.set (v := .int (x + Int32.ofInt n)) (hx_g_cat b o base) rfl hl))
theorem hx_const {n : Int} (hop : (hx_ops u)[i]? = some (.bipush n)) (kk : hx_W sc u d (i + 1) loc (.int (Int32.ofInt n) :: st) h kc ks Q) : hx_W sc u d i loc st h kc ks Q := by
  intro b o base D cA p l e R s m args below meth c H locs cells slots Qm ls hok hc hf hR hw hS hL hq
  have h1 := hx_at hok hop
  have h2 := kk b o base D cA p l e R s m args below meth c H locs cells slots Qm ls hok hc hf hR hw hS hL hq
  simp only [hx_okI, Bool.or_eq_true, Bool.and_eq_true, decide_eq_true_eq] at h1
  rcases h1 with (((h1 | ⟨h1, h3⟩) | ⟨h1, h3⟩) | ⟨h1, h3⟩) | ⟨h1, h3⟩ <;> obtain ⟨e1, e2⟩ := hx_dec_s h1 <;> rw [e2] at h2
  · exact lv_iconst hc.1 hc.2.1 e1 rfl h2
  · exact lv_bipush hc.1 hc.2.1 e1 h3 h2
  · exact lv_sipush hc.1 hc.2.1 e1 h3 h2
  · exact lv_ldc hc.1 hc.2.1 hc.2.2.2.1 (hc.2.2.2.2.1 _ (hx_wd_in h3)) e1 h2
  · exact lv_ldcw hc.1 hc.2.1 hc.2.2.2.1 (hc.2.2.2.2.1 _ (hx_wd_in h3)) e1 h2
end HXR
section HXS
variable {sc : List Int32} {u : hx_M} {d i : Nat} {loc st : List Value} {h : hx_H} {kc ks : Nat} {Q : Option Int32 → hx_H → Prop}
theorem hx_off_t {u : hx_M} {i t : Nat} : (hx_pc u i : Int) + hx_off u i (t : Int) = (hx_pc u t : Int) := by
  unfold hx_off
  simp
  omega
theorem hx_iadd {x y : Int32} (hop : (hx_ops u)[i]? = some .iadd) (kk : hx_W sc u d (i + 1) loc (.int (x + y) :: st) h kc ks Q) : hx_W sc u d i loc (.int y :: .int x :: st) h kc ks Q := by
  intro b o base D cA p l e R s m args below meth c H locs cells slots Qm ls hok hc hf hR hw hS hL hq
  have h1 := hx_at hok hop
  have h2 := kk b o base D cA p l e R s m args below meth c H locs cells slots Qm ls hok hc hf hR hw hS hL hq
  obtain ⟨e1, e2⟩ := hx_dec_s (show hx_dec u i .iadd 1 = true from h1)
  rw [e2] at h2
  exact lv_iadd hc.1 hc.2.1 e1 h2
theorem hx_isub {x y : Int32} (hop : (hx_ops u)[i]? = some .isub) (kk : hx_W sc u d (i + 1) loc (.int (x - y) :: st) h kc ks Q) : hx_W sc u d i loc (.int y :: .int x :: st) h kc ks Q := by
  intro b o base D cA p l e R s m args below meth c H locs cells slots Qm ls hok hc hf hR hw hS hL hq
  have h1 := hx_at hok hop
  have h2 := kk b o base D cA p l e R s m args below meth c H locs cells slots Qm ls hok hc hf hR hw hS hL hq
  obtain ⟨e1, e2⟩ := hx_dec_s (show hx_dec u i .isub 1 = true from h1)
  rw [e2] at h2
  exact lv_isub hc.1 hc.2.1 e1 h2
theorem hx_imul {x y : Int32} (hop : (hx_ops u)[i]? = some .imul) (kk : hx_W sc u d (i + 1) loc (.int (x * y) :: st) h kc ks Q) : hx_W sc u d i loc (.int y :: .int x :: st) h kc ks Q := by
  intro b o base D cA p l e R s m args below meth c H locs cells slots Qm ls hok hc hf hR hw hS hL hq
  have h1 := hx_at hok hop
  have h2 := kk b o base D cA p l e R s m args below meth c H locs cells slots Qm ls hok hc hf hR hw hS hL hq
  obtain ⟨e1, e2⟩ := hx_dec_s (show hx_dec u i .imul 1 = true from h1)
  rw [e2] at h2
  exact lv_imul hc.1 hc.2.1 e1 h2
theorem hx_iand {x y : Int32} (hop : (hx_ops u)[i]? = some .iand) (kk : hx_W sc u d (i + 1) loc (.int (x &&& y) :: st) h kc ks Q) : hx_W sc u d i loc (.int y :: .int x :: st) h kc ks Q := by
  intro b o base D cA p l e R s m args below meth c H locs cells slots Qm ls hok hc hf hR hw hS hL hq
  have h1 := hx_at hok hop
  have h2 := kk b o base D cA p l e R s m args below meth c H locs cells slots Qm ls hok hc hf hR hw hS hL hq
  obtain ⟨e1, e2⟩ := hx_dec_s (show hx_dec u i .iand 1 = true from h1)
  rw [e2] at h2
  exact lv_iand hc.1 hc.2.1 e1 h2
theorem hx_ior {x y : Int32} (hop : (hx_ops u)[i]? = some .ior) (kk : hx_W sc u d (i + 1) loc (.int (x ||| y) :: st) h kc ks Q) : hx_W sc u d i loc (.int y :: .int x :: st) h kc ks Q := by
  intro b o base D cA p l e R s m args below meth c H locs cells slots Qm ls hok hc hf hR hw hS hL hq
  have h1 := hx_at hok hop
  have h2 := kk b o base D cA p l e R s m args below meth c H locs cells slots Qm ls hok hc hf hR hw hS hL hq
  obtain ⟨e1, e2⟩ := hx_dec_s (show hx_dec u i .ior 1 = true from h1)
  rw [e2] at h2
  exact lv_ior hc.1 hc.2.1 e1 h2
theorem hx_ixor {x y : Int32} (hop : (hx_ops u)[i]? = some .ixor) (kk : hx_W sc u d (i + 1) loc (.int (x ^^^ y) :: st) h kc ks Q) : hx_W sc u d i loc (.int y :: .int x :: st) h kc ks Q := by
  intro b o base D cA p l e R s m args below meth c H locs cells slots Qm ls hok hc hf hR hw hS hL hq
  have h1 := hx_at hok hop
  have h2 := kk b o base D cA p l e R s m args below meth c H locs cells slots Qm ls hok hc hf hR hw hS hL hq
  obtain ⟨e1, e2⟩ := hx_dec_s (show hx_dec u i .ixor 1 = true from h1)
  rw [e2] at h2
  exact lv_ixor hc.1 hc.2.1 e1 h2
theorem hx_ishl {x y : Int32} (hop : (hx_ops u)[i]? = some .ishl) (kk : hx_W sc u d (i + 1) loc (.int (x <<< (y &&& 31)) :: st) h kc ks Q) : hx_W sc u d i loc (.int y :: .int x :: st) h kc ks Q := by
  intro b o base D cA p l e R s m args below meth c H locs cells slots Qm ls hok hc hf hR hw hS hL hq
  have h1 := hx_at hok hop
  have h2 := kk b o base D cA p l e R s m args below meth c H locs cells slots Qm ls hok hc hf hR hw hS hL hq
  obtain ⟨e1, e2⟩ := hx_dec_s (show hx_dec u i .ishl 1 = true from h1)
  rw [e2] at h2
  exact lv_ishl hc.1 hc.2.1 e1 h2
theorem hx_ishr {x y : Int32} (hop : (hx_ops u)[i]? = some .ishr) (kk : hx_W sc u d (i + 1) loc (.int (x >>> (y &&& 31)) :: st) h kc ks Q) : hx_W sc u d i loc (.int y :: .int x :: st) h kc ks Q := by
  intro b o base D cA p l e R s m args below meth c H locs cells slots Qm ls hok hc hf hR hw hS hL hq
  have h1 := hx_at hok hop
  have h2 := kk b o base D cA p l e R s m args below meth c H locs cells slots Qm ls hok hc hf hR hw hS hL hq
  obtain ⟨e1, e2⟩ := hx_dec_s (show hx_dec u i .ishr 1 = true from h1)
  rw [e2] at h2
  exact lv_ishr hc.1 hc.2.1 e1 h2
theorem hx_iushr {x y : Int32} (hop : (hx_ops u)[i]? = some .iushr) (kk : hx_W sc u d (i + 1) loc (.int ((x.toUInt32 >>> (y.toUInt32 &&& Int32.toUInt32 31)).toInt32) :: st) h kc ks Q) : hx_W sc u d i loc (.int y :: .int x :: st) h kc ks Q := by
  intro b o base D cA p l e R s m args below meth c H locs cells slots Qm ls hok hc hf hR hw hS hL hq
  have h1 := hx_at hok hop
  have h2 := kk b o base D cA p l e R s m args below meth c H locs cells slots Qm ls hok hc hf hR hw hS hL hq
  obtain ⟨e1, e2⟩ := hx_dec_s (show hx_dec u i .iushr 1 = true from h1)
  rw [e2] at h2
  exact lv_iushr hc.1 hc.2.1 e1 rfl h2
theorem hx_idiv {x y : Int32} (hop : (hx_ops u)[i]? = some .idiv) (hne : ¬ y = 0) (kk : hx_W sc u d (i + 1) loc (.int (x / y) :: st) h kc ks Q) : hx_W sc u d i loc (.int y :: .int x :: st) h kc ks Q := by
  intro b o base D cA p l e R s m args below meth c H locs cells slots Qm ls hok hc hf hR hw hS hL hq
  have h1 := hx_at hok hop
  have h2 := kk b o base D cA p l e R s m args below meth c H locs cells slots Qm ls hok hc hf hR hw hS hL hq
  obtain ⟨e1, e2⟩ := hx_dec_s (show hx_dec u i .idiv 1 = true from h1)
  rw [e2] at h2
  exact lv_idiv hc.1 hc.2.1 e1 hne h2
theorem hx_irem {x y : Int32} (hop : (hx_ops u)[i]? = some .irem) (hne : ¬ y = 0) (kk : hx_W sc u d (i + 1) loc (.int (x - x / y * y) :: st) h kc ks Q) : hx_W sc u d i loc (.int y :: .int x :: st) h kc ks Q := by
  intro b o base D cA p l e R s m args below meth c H locs cells slots Qm ls hok hc hf hR hw hS hL hq
  have h1 := hx_at hok hop
  have h2 := kk b o base D cA p l e R s m args below meth c H locs cells slots Qm ls hok hc hf hR hw hS hL hq
  obtain ⟨e1, e2⟩ := hx_dec_s (show hx_dec u i .irem 1 = true from h1)
  rw [e2] at h2
  exact lv_irem hc.1 hc.2.1 e1 hne h2
theorem hx_ineg {x : Int32} (hop : (hx_ops u)[i]? = some .ineg) (kk : hx_W sc u d (i + 1) loc (.int (-x) :: st) h kc ks Q) : hx_W sc u d i loc (.int x :: st) h kc ks Q := by
  intro b o base D cA p l e R s m args below meth c H locs cells slots Qm ls hok hc hf hR hw hS hL hq
  have h1 := hx_at hok hop
  have h2 := kk b o base D cA p l e R s m args below meth c H locs cells slots Qm ls hok hc hf hR hw hS hL hq
  obtain ⟨e1, e2⟩ := hx_dec_s (show hx_dec u i .ineg 1 = true from h1)
  rw [e2] at h2
  exact lv_ineg hc.1 hc.2.1 e1 h2
theorem hx_i2b {x : Int32} (hop : (hx_ops u)[i]? = some .i2b) (kk : hx_W sc u d (i + 1) loc (.int x.toInt8.toInt32 :: st) h kc ks Q) : hx_W sc u d i loc (.int x :: st) h kc ks Q := by
  intro b o base D cA p l e R s m args below meth c H locs cells slots Qm ls hok hc hf hR hw hS hL hq
  have h1 := hx_at hok hop
  have h2 := kk b o base D cA p l e R s m args below meth c H locs cells slots Qm ls hok hc hf hR hw hS hL hq
  obtain ⟨e1, e2⟩ := hx_dec_s (show hx_dec u i .i2b 1 = true from h1)
  rw [e2] at h2
  exact lv_i2b hc.1 hc.2.1 e1 rfl h2
theorem hx_dup {w : Value} (hop : (hx_ops u)[i]? = some .dup) (hw1 : w.category = 1) (kk : hx_W sc u d (i + 1) loc (w :: w :: st) h kc ks Q) : hx_W sc u d i loc (w :: st) h kc ks Q := by
  intro b o base D cA p l e R s m args below meth c H locs cells slots Qm ls hok hc hf hR hw hS hL hq
  have h1 := hx_at hok hop
  have h2 := kk b o base D cA p l e R s m args below meth c H locs cells slots Qm ls hok hc hf hR hw hS hL hq
  obtain ⟨e1, e2⟩ := hx_dec_s (show hx_dec u i .dup 1 = true from h1)
  rw [e2] at h2
  exact lv_dup hc.1 hc.2.1 e1 (by rw [hx_g_cat]; exact hw1) h2
theorem hx_dup2 {w z : Value} (hop : (hx_ops u)[i]? = some .dup2) (hw1 : w.category = 1) (hw2 : z.category = 1) (kk : hx_W sc u d (i + 1) loc (w :: z :: w :: z :: st) h kc ks Q) : hx_W sc u d i loc (w :: z :: st) h kc ks Q := by
  intro b o base D cA p l e R s m args below meth c H locs cells slots Qm ls hok hc hf hR hw hS hL hq
  have h1 := hx_at hok hop
  have h2 := kk b o base D cA p l e R s m args below meth c H locs cells slots Qm ls hok hc hf hR hw hS hL hq
  obtain ⟨e1, e2⟩ := hx_dec_s (show hx_dec u i .dup2 1 = true from h1)
  rw [e2] at h2
  exact lv_dup2_11 hc.1 hc.2.1 e1 (by rw [hx_g_cat]; exact hw1) (by rw [hx_g_cat]; exact hw2) h2
theorem hx_pop {w : Value} (hop : (hx_ops u)[i]? = some .pop) (hw1 : w.category = 1) (kk : hx_W sc u d (i + 1) loc (st) h kc ks Q) : hx_W sc u d i loc (w :: st) h kc ks Q := by
  intro b o base D cA p l e R s m args below meth c H locs cells slots Qm ls hok hc hf hR hw hS hL hq
  have h1 := hx_at hok hop
  have h2 := kk b o base D cA p l e R s m args below meth c H locs cells slots Qm ls hok hc hf hR hw hS hL hq
  obtain ⟨e1, e2⟩ := hx_dec_s (show hx_dec u i .pop 1 = true from h1)
  rw [e2] at h2
  exact lv_pop hc.1 hc.2.1 e1 (by rw [hx_g_cat]; exact hw1) h2
theorem hx_if_eq {x : Int32} {t : Nat} (hop : (hx_ops u)[i]? = some (.ifCond .eq (t : Int))) (kt : x = 0 → hx_W sc u d t loc st h kc ks Q) (kf : ¬ x = 0 → hx_W sc u d (i + 1) loc st h kc ks Q) : hx_W sc u d i loc (.int x :: st) h kc ks Q := by
  intro b o base D cA p l e R s m args below meth c H locs cells slots Qm ls hok hc hf hR hw hS hL hq
  have h1 := hx_at hok hop
  obtain ⟨e1, e2⟩ := hx_dec_s (show hx_dec u i (.ifCond .eq (hx_off u i (t : Int))) 3 = true from h1)
  have h2 := fun q => kt q b o base D cA p l e R s m args below meth c H locs cells slots Qm ls hok hc hf hR hw hS hL hq
  have h3 := fun q => kf q b o base D cA p l e R s m args below meth c H locs cells slots Qm ls hok hc hf hR hw hS hL hq
  rw [e2] at h3
  exact lv_if_eq hc.1 hc.2.1 e1 hx_off_t h2 h3
theorem hx_if_ne {x : Int32} {t : Nat} (hop : (hx_ops u)[i]? = some (.ifCond .ne (t : Int))) (kt : ¬ x = 0 → hx_W sc u d t loc st h kc ks Q) (kf : x = 0 → hx_W sc u d (i + 1) loc st h kc ks Q) : hx_W sc u d i loc (.int x :: st) h kc ks Q := by
  intro b o base D cA p l e R s m args below meth c H locs cells slots Qm ls hok hc hf hR hw hS hL hq
  have h1 := hx_at hok hop
  obtain ⟨e1, e2⟩ := hx_dec_s (show hx_dec u i (.ifCond .ne (hx_off u i (t : Int))) 3 = true from h1)
  have h2 := fun q => kt q b o base D cA p l e R s m args below meth c H locs cells slots Qm ls hok hc hf hR hw hS hL hq
  have h3 := fun q => kf q b o base D cA p l e R s m args below meth c H locs cells slots Qm ls hok hc hf hR hw hS hL hq
  rw [e2] at h3
  exact lv_if_ne hc.1 hc.2.1 e1 hx_off_t h2 h3
theorem hx_if_lt {x : Int32} {t : Nat} (hop : (hx_ops u)[i]? = some (.ifCond .lt (t : Int))) (kt : x < 0 → hx_W sc u d t loc st h kc ks Q) (kf : ¬ x < 0 → hx_W sc u d (i + 1) loc st h kc ks Q) : hx_W sc u d i loc (.int x :: st) h kc ks Q := by
  intro b o base D cA p l e R s m args below meth c H locs cells slots Qm ls hok hc hf hR hw hS hL hq
  have h1 := hx_at hok hop
  obtain ⟨e1, e2⟩ := hx_dec_s (show hx_dec u i (.ifCond .lt (hx_off u i (t : Int))) 3 = true from h1)
  have h2 := fun q => kt q b o base D cA p l e R s m args below meth c H locs cells slots Qm ls hok hc hf hR hw hS hL hq
  have h3 := fun q => kf q b o base D cA p l e R s m args below meth c H locs cells slots Qm ls hok hc hf hR hw hS hL hq
  rw [e2] at h3
  exact lv_if_lt hc.1 hc.2.1 e1 hx_off_t h2 h3
theorem hx_if_ge {x : Int32} {t : Nat} (hop : (hx_ops u)[i]? = some (.ifCond .ge (t : Int))) (kt : 0 ≤ x → hx_W sc u d t loc st h kc ks Q) (kf : ¬ 0 ≤ x → hx_W sc u d (i + 1) loc st h kc ks Q) : hx_W sc u d i loc (.int x :: st) h kc ks Q := by
  intro b o base D cA p l e R s m args below meth c H locs cells slots Qm ls hok hc hf hR hw hS hL hq
  have h1 := hx_at hok hop
  obtain ⟨e1, e2⟩ := hx_dec_s (show hx_dec u i (.ifCond .ge (hx_off u i (t : Int))) 3 = true from h1)
  have h2 := fun q => kt q b o base D cA p l e R s m args below meth c H locs cells slots Qm ls hok hc hf hR hw hS hL hq
  have h3 := fun q => kf q b o base D cA p l e R s m args below meth c H locs cells slots Qm ls hok hc hf hR hw hS hL hq
  rw [e2] at h3
  exact lv_if_ge hc.1 hc.2.1 e1 hx_off_t h2 h3
theorem hx_if_gt {x : Int32} {t : Nat} (hop : (hx_ops u)[i]? = some (.ifCond .gt (t : Int))) (kt : 0 < x → hx_W sc u d t loc st h kc ks Q) (kf : ¬ 0 < x → hx_W sc u d (i + 1) loc st h kc ks Q) : hx_W sc u d i loc (.int x :: st) h kc ks Q := by
  intro b o base D cA p l e R s m args below meth c H locs cells slots Qm ls hok hc hf hR hw hS hL hq
  have h1 := hx_at hok hop
  obtain ⟨e1, e2⟩ := hx_dec_s (show hx_dec u i (.ifCond .gt (hx_off u i (t : Int))) 3 = true from h1)
  have h2 := fun q => kt q b o base D cA p l e R s m args below meth c H locs cells slots Qm ls hok hc hf hR hw hS hL hq
  have h3 := fun q => kf q b o base D cA p l e R s m args below meth c H locs cells slots Qm ls hok hc hf hR hw hS hL hq
  rw [e2] at h3
  exact lv_if_gt hc.1 hc.2.1 e1 hx_off_t h2 h3
theorem hx_if_le {x : Int32} {t : Nat} (hop : (hx_ops u)[i]? = some (.ifCond .le (t : Int))) (kt : x ≤ 0 → hx_W sc u d t loc st h kc ks Q) (kf : ¬ x ≤ 0 → hx_W sc u d (i + 1) loc st h kc ks Q) : hx_W sc u d i loc (.int x :: st) h kc ks Q := by
  intro b o base D cA p l e R s m args below meth c H locs cells slots Qm ls hok hc hf hR hw hS hL hq
  have h1 := hx_at hok hop
  obtain ⟨e1, e2⟩ := hx_dec_s (show hx_dec u i (.ifCond .le (hx_off u i (t : Int))) 3 = true from h1)
  have h2 := fun q => kt q b o base D cA p l e R s m args below meth c H locs cells slots Qm ls hok hc hf hR hw hS hL hq
  have h3 := fun q => kf q b o base D cA p l e R s m args below meth c H locs cells slots Qm ls hok hc hf hR hw hS hL hq
  rw [e2] at h3
  exact lv_if_le hc.1 hc.2.1 e1 hx_off_t h2 h3
theorem hx_ic_eq {x y : Int32} {t : Nat} (hop : (hx_ops u)[i]? = some (.if_icmp .eq (t : Int))) (kt : x = y → hx_W sc u d t loc st h kc ks Q) (kf : ¬ x = y → hx_W sc u d (i + 1) loc st h kc ks Q) : hx_W sc u d i loc (.int y :: .int x :: st) h kc ks Q := by
  intro b o base D cA p l e R s m args below meth c H locs cells slots Qm ls hok hc hf hR hw hS hL hq
  have h1 := hx_at hok hop
  obtain ⟨e1, e2⟩ := hx_dec_s (show hx_dec u i (.if_icmp .eq (hx_off u i (t : Int))) 3 = true from h1)
  have h2 := fun q => kt q b o base D cA p l e R s m args below meth c H locs cells slots Qm ls hok hc hf hR hw hS hL hq
  have h3 := fun q => kf q b o base D cA p l e R s m args below meth c H locs cells slots Qm ls hok hc hf hR hw hS hL hq
  rw [e2] at h3
  exact lv_icmp_eq hc.1 hc.2.1 e1 hx_off_t h2 h3
theorem hx_ic_ne {x y : Int32} {t : Nat} (hop : (hx_ops u)[i]? = some (.if_icmp .ne (t : Int))) (kt : ¬ x = y → hx_W sc u d t loc st h kc ks Q) (kf : x = y → hx_W sc u d (i + 1) loc st h kc ks Q) : hx_W sc u d i loc (.int y :: .int x :: st) h kc ks Q := by
  intro b o base D cA p l e R s m args below meth c H locs cells slots Qm ls hok hc hf hR hw hS hL hq
  have h1 := hx_at hok hop
  obtain ⟨e1, e2⟩ := hx_dec_s (show hx_dec u i (.if_icmp .ne (hx_off u i (t : Int))) 3 = true from h1)
  have h2 := fun q => kt q b o base D cA p l e R s m args below meth c H locs cells slots Qm ls hok hc hf hR hw hS hL hq
  have h3 := fun q => kf q b o base D cA p l e R s m args below meth c H locs cells slots Qm ls hok hc hf hR hw hS hL hq
  rw [e2] at h3
  exact lv_icmp_ne hc.1 hc.2.1 e1 hx_off_t h2 h3
theorem hx_ic_lt {x y : Int32} {t : Nat} (hop : (hx_ops u)[i]? = some (.if_icmp .lt (t : Int))) (kt : x < y → hx_W sc u d t loc st h kc ks Q) (kf : ¬ x < y → hx_W sc u d (i + 1) loc st h kc ks Q) : hx_W sc u d i loc (.int y :: .int x :: st) h kc ks Q := by
  intro b o base D cA p l e R s m args below meth c H locs cells slots Qm ls hok hc hf hR hw hS hL hq
  have h1 := hx_at hok hop
  obtain ⟨e1, e2⟩ := hx_dec_s (show hx_dec u i (.if_icmp .lt (hx_off u i (t : Int))) 3 = true from h1)
  have h2 := fun q => kt q b o base D cA p l e R s m args below meth c H locs cells slots Qm ls hok hc hf hR hw hS hL hq
  have h3 := fun q => kf q b o base D cA p l e R s m args below meth c H locs cells slots Qm ls hok hc hf hR hw hS hL hq
  rw [e2] at h3
  exact lv_icmp_lt hc.1 hc.2.1 e1 hx_off_t h2 h3
theorem hx_ic_ge {x y : Int32} {t : Nat} (hop : (hx_ops u)[i]? = some (.if_icmp .ge (t : Int))) (kt : y ≤ x → hx_W sc u d t loc st h kc ks Q) (kf : ¬ y ≤ x → hx_W sc u d (i + 1) loc st h kc ks Q) : hx_W sc u d i loc (.int y :: .int x :: st) h kc ks Q := by
  intro b o base D cA p l e R s m args below meth c H locs cells slots Qm ls hok hc hf hR hw hS hL hq
  have h1 := hx_at hok hop
  obtain ⟨e1, e2⟩ := hx_dec_s (show hx_dec u i (.if_icmp .ge (hx_off u i (t : Int))) 3 = true from h1)
  have h2 := fun q => kt q b o base D cA p l e R s m args below meth c H locs cells slots Qm ls hok hc hf hR hw hS hL hq
  have h3 := fun q => kf q b o base D cA p l e R s m args below meth c H locs cells slots Qm ls hok hc hf hR hw hS hL hq
  rw [e2] at h3
  exact lv_icmp_ge hc.1 hc.2.1 e1 hx_off_t h2 h3
theorem hx_ic_gt {x y : Int32} {t : Nat} (hop : (hx_ops u)[i]? = some (.if_icmp .gt (t : Int))) (kt : y < x → hx_W sc u d t loc st h kc ks Q) (kf : ¬ y < x → hx_W sc u d (i + 1) loc st h kc ks Q) : hx_W sc u d i loc (.int y :: .int x :: st) h kc ks Q := by
  intro b o base D cA p l e R s m args below meth c H locs cells slots Qm ls hok hc hf hR hw hS hL hq
  have h1 := hx_at hok hop
  obtain ⟨e1, e2⟩ := hx_dec_s (show hx_dec u i (.if_icmp .gt (hx_off u i (t : Int))) 3 = true from h1)
  have h2 := fun q => kt q b o base D cA p l e R s m args below meth c H locs cells slots Qm ls hok hc hf hR hw hS hL hq
  have h3 := fun q => kf q b o base D cA p l e R s m args below meth c H locs cells slots Qm ls hok hc hf hR hw hS hL hq
  rw [e2] at h3
  exact lv_icmp_gt hc.1 hc.2.1 e1 hx_off_t h2 h3
theorem hx_ic_le {x y : Int32} {t : Nat} (hop : (hx_ops u)[i]? = some (.if_icmp .le (t : Int))) (kt : x ≤ y → hx_W sc u d t loc st h kc ks Q) (kf : ¬ x ≤ y → hx_W sc u d (i + 1) loc st h kc ks Q) : hx_W sc u d i loc (.int y :: .int x :: st) h kc ks Q := by
  intro b o base D cA p l e R s m args below meth c H locs cells slots Qm ls hok hc hf hR hw hS hL hq
  have h1 := hx_at hok hop
  obtain ⟨e1, e2⟩ := hx_dec_s (show hx_dec u i (.if_icmp .le (hx_off u i (t : Int))) 3 = true from h1)
  have h2 := fun q => kt q b o base D cA p l e R s m args below meth c H locs cells slots Qm ls hok hc hf hR hw hS hL hq
  have h3 := fun q => kf q b o base D cA p l e R s m args below meth c H locs cells slots Qm ls hok hc hf hR hw hS hL hq
  rw [e2] at h3
  exact lv_icmp_le hc.1 hc.2.1 e1 hx_off_t h2 h3
theorem hx_goto {t : Nat} (hop : (hx_ops u)[i]? = some (.goto (t : Int))) (kk : hx_W sc u d t loc st h kc ks Q) : hx_W sc u d i loc st h kc ks Q := by
  intro b o base D cA p l e R s m args below meth c H locs cells slots Qm ls hok hc hf hR hw hS hL hq
  have h1 := hx_at hok hop
  have e1 : decode (hx_b u) (hx_pc u i) = .ok (.goto (hx_off u i (t : Int)), 3) := of_decide_eq_true (show hx_decl u i (.goto (hx_off u i (t : Int))) = true from h1)
  exact lv_goto hc.1 hc.2.1 e1 hx_off_t (kk b o base D cA p l e R s m args below meth c H locs cells slots Qm ls hok hc hf hR hw hS hL hq)
theorem hx_own {ci : Nat} {q : vw_C} (h : hx_cl[ci]? = some q) : (∀ w ∈ u_ws q.1 q.2.1 q.2.2, w ∈ hx_T) ∧ (∃ ty : Nat → FieldType, ∀ k, k < q.2.2 → parseFieldDescriptor (q.2.1 k).2.2.1 = some (ty k)) ∧ (∀ a, a < q.2.2 → ∀ b, b < q.2.2 → a ≠ b → (q.2.1 a).2.1 ≠ (q.2.1 b).2.1) := by
  match ci, h with
  | 0, h => cases h; exact ⟨fun w hw => hx_T_in (inX0 w hw).1 (inX0 w hw).2, ⟨tyX0, tyX0_ok⟩, nmX0⟩
  | 1, h => cases h; exact ⟨fun w hw => hx_T_in (inX1 w hw).1 (inX1 w hw).2, ⟨tyX1, tyX1_ok⟩, nmX1⟩
  | 2, h => cases h; exact ⟨fun w hw => hx_T_in (inX2 w hw).1 (inX2 w hw).2, ⟨tyX2, tyX2_ok⟩, nmX2⟩
  | 3, h => cases h; exact ⟨fun w hw => hx_T_in (inX3 w hw).1 (inX3 w hw).2, ⟨tyX3, tyX3_ok⟩, nmX3⟩
  | 4, h => cases h; exact ⟨fun w hw => hx_T_in (inX4 w hw).1 (inX4 w hw).2, ⟨tyX4, tyX4_ok⟩, nmX4⟩
  | 5, h => cases h; exact ⟨fun w hw => hx_T_in (inX5 w hw).1 (inX5 w hw).2, ⟨tyX5, tyX5_ok⟩, nmX5⟩
  | 6, h => cases h; exact ⟨fun w hw => hx_T_in (inX6 w hw).1 (inX6 w hw).2, ⟨tyX6, tyX6_ok⟩, nmX6⟩
  | 7, h => cases h; exact ⟨fun w hw => hx_T_in (inX7 w hw).1 (inX7 w hw).2, ⟨tyX7, tyX7_ok⟩, nmX7⟩
  | 8, h => cases h; exact ⟨fun w hw => hx_T_in (inX8 w hw).1 (inX8 w hw).2, ⟨tyX8, tyX8_ok⟩, nmX8⟩
  | 9, h => cases h; exact ⟨fun w hw => hx_T_in (inX9 w hw).1 (inX9 w hw).2, ⟨tyX9, tyX9_ok⟩, nmX9⟩
  | 10, h => cases h; exact ⟨fun w hw => hx_T_in (inX10 w hw).1 (inX10 w hw).2, ⟨tyX10, tyX10_ok⟩, nmX10⟩
  | 11, h => cases h; exact ⟨fun w hw => hx_T_in (inX11 w hw).1 (inX11 w hw).2, ⟨tyX11, tyX11_ok⟩, nmX11⟩
  | k + 12, h => simp [hx_cl] at h
theorem hx_get {f a ci : Nat} {fs : List Value} {w : Value} (hop : (hx_ops u)[i]? = some (.getfield f)) (hcell : h[a]? = some (.inr (ci, fs))) (hci : ci = f / 100) (hv : fs[f % 100]? = some w) (kk : hx_W sc u d (i + 1) loc (w :: st) h kc ks Q) : hx_W sc u d i loc (.ref (a + 2) :: st) h kc ks Q := by
  intro b o base D cA p l e R s m args below meth c H locs cells slots Qm ls hok hc hf hR hw hS hL hq
  have h1 := hx_at hok hop
  have h2 := kk b o base D cA p l e R s m args below meth c H locs cells slots Qm ls hok hc hf hR hw hS hL hq
  simp only [hx_okI] at h1
  split at h1
  · next q hcl =>
    simp only [Bool.and_eq_true, decide_eq_true_eq] at h1
    obtain ⟨⟨hk, h1⟩, h3⟩ := h1
    obtain ⟨e1, e2⟩ := hx_dec_s h1
    rw [e2] at h2
    subst hci
    obtain ⟨g1, -, -⟩ := hx_own hcl
    refine va_get (rest := st.map (hx_g b o base)) hc.1 hc.2.1 hc.2.2.2.2.1 g1 hc.2.2.2.1 hf.1 hw.2 a (hx_w_get hcell) hcl (f % 100) hk (hc.2.2.2.2.1 _ (hx_wd_in h3)) (fun _ z => z) (v := hx_g b o base w) ?_ e1 h2
    rw [List.getElem?_map, hv]
    rfl
  · cases h1
theorem hx_put {f a ci : Nat} {fs : List Value} {w : Value} {ty : FieldType} (hop : (hx_ops u)[i]? = some (.putfield f)) (hcell : h[a]? = some (.inr (ci, fs))) (hci : ci = f / 100) (hl : f % 100 < fs.length) (hd : (hx_cl[f / 100]?).bind (fun q => parseFieldDescriptor (q.2.1 (f % 100)).2.2.1) = some ty) (hn : ∀ b o base, narrow ty (hx_g b o base w) = hx_g b o base w) (hft : ∀ b o base, fits ty (hx_g b o base w) = true)
    (kk : hx_W sc u d (i + 1) loc st (h.set a (.inr (ci, fs.set (f % 100) w))) kc ks Q) : hx_W sc u d i loc (w :: .ref (a + 2) :: st) h kc ks Q := by
  intro b o base D cA p l e R s m args below meth c H locs cells slots Qm ls hok hc hf hR hw hS hL hq
  have h1 := hx_at hok hop
  simp only [hx_okI] at h1
  split at h1
  · next q hcl =>
    simp only [Bool.and_eq_true, Bool.or_eq_true, Bool.not_eq_true', decide_eq_true_eq] at h1
    obtain ⟨⟨⟨hk, h1⟩, h3⟩, h4⟩ := h1
    obtain ⟨e1, e2⟩ := hx_dec_s h1
    subst hci
    obtain ⟨g1, ⟨tyf, g2⟩, g3⟩ := hx_own hcl
    rw [hcl] at hd
    simp only [Option.bind_some] at hd
    have hP := hw.2
    have hap := va_apart (own := (hx_y u).cls) hc.2.2.2.2.1 g1 tyf g2 g3 hf.1 hcl
    obtain ⟨r, hr1, cell, q1, q2, q3, q4⟩ := hP a _ (hx_w_get hcell)
    have hr : r = q := Option.some.inj (hr1.symm.trans hcl)
    subst hr
    obtain ⟨hSl, hfc, kC, hkC, hkind⟩ := hf.1.1 (f / 100) _ hcl
    obtain ⟨cf, kf, fi, fd, hi, hsl⟩ := hSl (f % 100) hk
    have hst := (u_facts hfc hkC (u_lays hc.2.2.2.2.1 g1 hk) hi).1
    have hlink := hc.2.2.2.2.1 _ (hx_wd_in h3)
    have go : ∀ (H1 : Heap), H1[base + a]? = some (cell.setSlot (D.2 (f / 100) (f % 100)) (hx_g b o base w)) → H1.size = H.size → (∀ q, q ≠ base + a → H1[q]? = H[q]?) →
        W p l e R s m args below meth c H1 (locs ++ [⟨base + a, D.2 (f / 100) (f % 100)⟩]) cells slots Qm (F0 m (hx_pc u i + 3) ls (st.map (hx_g b o base))) := by
      intro H1 z1 z2 z3
      have hP1 : va_P D hx_cl ((hx_w b o base cA h).set a (base + a, .inr (f / 100, (fs.map (hx_g b o base)).set (f % 100) (hx_g b o base w)))) H1 :=
        hP.set (hx_w_D b o base cA h) (hx_w_get hcell) ⟨_, hcl, t_OB.to (V := updV (vp_V (fs.map (hx_g b o base))) (f % 100) (hx_g b o base w)) ⟨_, z1, q2, q3, t_set q4 hap hk _⟩ (fun j _ => vp_updV_set (by rw [List.length_map]; exact hl) _ j)⟩ z3
      have h2 := kk b o base D cA p l e R s m args below meth c H1 (locs ++ [⟨base + a, D.2 (f / 100) (f % 100)⟩]) cells slots Qm ls hok hc hf hR ⟨by rw [List.length_set, z2]; exact hw.1, by
        rw [hx_w_set]
        show va_P D hx_cl ((hx_w b o base cA h).set a (base + a, .inr (f / 100, (fs.set (f % 100) w).map (hx_g b o base)))) H1
        rw [List.map_set]; exact hP1⟩ (hS.put z2 z3 (show base ≤ base + a by omega)) hL hq
      rw [e2] at h2
      exact h2
    cases hfin : (r.2.1 (f % 100)).2.2.2
    · have hlay := hc.2.2.2.2.1 _ (g1 _ (u_in_lay hk))
      unfold u_lay at hlay
      rw [if_neg (by rw [hfin]; decide)] at hlay
      have h6 := u_store hfc hkC hkind hlay hi hd (hn b o base) (hft b o base)
      refine W.putK hc.1 hc.2.1 (f := fd) ⟨hc.2.2.2.1, hlink, ⟨_, _, _, hi⟩, hst⟩ (by rw [q2]; exact h6) q1 q3 (by rw [hsl]; exact k2_hasslot (q4 _ hk)) rfl rfl e1 fun H' z1 z2 z3 => ?_
      rw [hsl] at z1 ⊢
      exact go H' z1 z2 z3
    · have hlay := hc.2.2.2.2.1 _ (g1 _ (u_in_lay hk))
      unfold u_lay at hlay
      rw [if_pos hfin] at hlay
      rcases h4 with h4 | ⟨h4, h5⟩
      · rw [hfin] at h4; cases h4
      have hcf : m.cls = cf := by
        obtain ⟨_, _, c', _, _, _, -, -, hf', -, -, -, hown2, -⟩ := Cond.laysFinal_spec hlay
        have e1 : c' = cf := by have := hi.symm.trans hf'; simp at this; exact this.1.symm
        rw [h5] at hown2
        rw [← e1]; exact Option.some.inj (hc.2.2.2.1.symm.trans hown2)
      have h6 := u_fits hfc hkC hkind (Or.inr hlay) hi hd (hn b o base) (hft b o base)
      refine W.putFinK hc.1 hc.2.1 hc.2.2.2.1 hlink hi hst hcf (hc.2.2.2.2.2.2.2.trans h4) (by rw [q2]; exact h6) q1 q3 (by rw [hsl]; exact k2_hasslot (q4 _ hk)) rfl rfl e1 fun H' z1 z2 z3 => ?_
      rw [hsl] at z1 ⊢
      exact go H' z1 z2 z3
  · cases h1
end HXS
section HXT
variable {sc : List Int32} {u : hx_M} {d i : Nat} {loc st : List Value} {h : hx_H} {kc ks : Nat} {Q : Option Int32 → hx_H → Prop}
/-! arrays -/
theorem hx_iald {a : Nat} {xs : List Int32} {z : Int32} (hop : (hx_ops u)[i]? = some .iaload) (hcell : h[a]? = some (.inl (0, xs))) (hin : vp_in z xs.length) (kk : hx_W sc u d (i + 1) loc (.int (xs.getD z.toNatClampNeg 0) :: st) h kc ks Q) : hx_W sc u d i loc (.int z :: .ref (a + 2) :: st) h kc ks Q := by
  intro b o base D cA p l e R s m args below meth c H locs cells slots Qm ls hok hc hf hR hw hS hL hq
  have h1 := hx_at hok hop
  have h2 := kk b o base D cA p l e R s m args below meth c H locs cells slots Qm ls hok hc hf hR hw hS hL hq
  obtain ⟨e1, e2⟩ := hx_dec_s (show hx_dec u i .iaload 1 = true from h1)
  rw [e2] at h2
  exact va_iald hc.1 hc.2.1 hf.1 hw.2 a 0 (hx_w_get hcell) (cA := cA 0) rfl hin e1 h2
theorem hx_iald_s {z : Int32} (hop : (hx_ops u)[i]? = some .iaload) (hin : vp_in z sc.length) (kk : hx_W sc u d (i + 1) loc (.int (sc.getD z.toNatClampNeg 0) :: st) h kc ks Q) : hx_W sc u d i loc (.int z :: .ref 0 :: st) h kc ks Q := by
  intro b o base D cA p l e R s m args below meth c H locs cells slots Qm ls hok hc hf hR hw hS hL hq
  have h1 := hx_at hok hop
  have h2 := kk b o base D cA p l e R s m args below meth c H locs cells slots Qm ls hok hc hf hR hw hS hL hq
  obtain ⟨e1, e2⟩ := hx_dec_s (show hx_dec u i .iaload 1 = true from h1)
  rw [e2] at h2
  obtain ⟨-, hX, -, -, hb1, hb2, -⟩ := hf
  exact va_sld hc.1 hc.2.1 hX (Nat.lt_of_lt_of_le hb1 hb2) (Nat.not_le.mpr hb1) hS hin e1 h2
theorem hx_alen_s (hop : (hx_ops u)[i]? = some .arraylength) (kk : hx_W sc u d (i + 1) loc (.int (Int32.ofNat sc.length) :: st) h kc ks Q) : hx_W sc u d i loc (.ref 0 :: st) h kc ks Q := by
  intro b o base D cA p l e R s m args below meth c H locs cells slots Qm ls hok hc hf hR hw hS hL hq
  have h1 := hx_at hok hop
  have h2 := kk b o base D cA p l e R s m args below meth c H locs cells slots Qm ls hok hc hf hR hw hS hL hq
  obtain ⟨e1, e2⟩ := hx_dec_s (show hx_dec u i .arraylength 1 = true from h1)
  rw [e2] at h2
  obtain ⟨-, hX, -, -, hb1, hb2, -⟩ := hf
  exact va_slen hc.1 hc.2.1 hX (Nat.lt_of_lt_of_le hb1 hb2) (Nat.not_le.mpr hb1) hS e1 h2
theorem hx_iald_o {z : Int32} (hop : (hx_ops u)[i]? = some .iaload) (hin : vp_in z 6) (kk : hx_W sc u d (i + 1) loc (.int (hx_ors.getD z.toNatClampNeg 0) :: st) h kc ks Q) : hx_W sc u d i loc (.int z :: .ref 1 :: st) h kc ks Q := by
  intro b o base D cA p l e R s m args below meth c H locs cells slots Qm ls hok hc hf hR hw hS hL hq
  have h1 := hx_at hok hop
  have h2 := kk b o base D cA p l e R s m args below meth c H locs cells slots Qm ls hok hc hf hR hw hS hL hq
  obtain ⟨e1, e2⟩ := hx_dec_s (show hx_dec u i .iaload 1 = true from h1)
  rw [e2] at h2
  exact va_ti hc.1 hc.2.1 hf.2.2.1 hS hin rfl e1 h2
theorem hx_alen_o (hop : (hx_ops u)[i]? = some .arraylength) (kk : hx_W sc u d (i + 1) loc (.int 6 :: st) h kc ks Q) : hx_W sc u d i loc (.ref 1 :: st) h kc ks Q := by
  intro b o base D cA p l e R s m args below meth c H locs cells slots Qm ls hok hc hf hR hw hS hL hq
  have h1 := hx_at hok hop
  have h2 := kk b o base D cA p l e R s m args below meth c H locs cells slots Qm ls hok hc hf hR hw hS hL hq
  obtain ⟨e1, e2⟩ := hx_dec_s (show hx_dec u i .arraylength 1 = true from h1)
  rw [e2] at h2
  exact va_tlen hc.1 hc.2.1 hf.2.2.1 hS rfl e1 h2
theorem hx_gets {n : Nat} (hop : (hx_ops u)[i]? = some (.getstatic n)) (kk : hx_W sc u d (i + 1) loc (.ref 1 :: st) h kc ks Q) : hx_W sc u d i loc st h kc ks Q := by
  intro b o base D cA p l e R s m args below meth c H locs cells slots Qm ls hok hc hf hR hw hS hL hq
  have h1 := hx_at hok hop
  have h2 := kk b o base D cA p l e R s m args below meth c H locs cells slots Qm ls hok hc hf hR hw hS hL hq
  simp only [hx_okI, Bool.and_eq_true] at h1
  obtain ⟨e1, e2⟩ := hx_dec_s h1.1
  rw [e2] at h2
  exact va_gets hc.1 hc.2.1 hf.2.2.2.1 hS hc.2.2.2.1 (hc.2.2.2.2.1 _ (hx_wd_in h1.2)) (fun _ z => z) e1 h2
theorem hx_bald {a : Nat} {xs : List Int32} {z : Int32} (hop : (hx_ops u)[i]? = some .baload) (hcell : h[a]? = some (.inl (1, xs)) ∨ h[a]? = some (.inl (2, xs))) (hin : vp_in z xs.length) (kk : hx_W sc u d (i + 1) loc (.int (xs.getD z.toNatClampNeg 0) :: st) h kc ks Q) : hx_W sc u d i loc (.int z :: .ref (a + 2) :: st) h kc ks Q := by
  intro b o base D cA p l e R s m args below meth c H locs cells slots Qm ls hok hc hf hR hw hS hL hq
  have h1 := hx_at hok hop
  have h2 := kk b o base D cA p l e R s m args below meth c H locs cells slots Qm ls hok hc hf hR hw hS hL hq
  obtain ⟨e1, e2⟩ := hx_dec_s (show hx_dec u i .baload 1 = true from h1)
  rw [e2] at h2
  rcases hcell with hcell | hcell
  · exact va_bald hc.1 hc.2.1 hf.1 hw.2 a 1 (hx_w_get hcell) (cA := cA 1) rfl hin e1 h2
  · exact va_zald hc.1 hc.2.1 hf.1 hw.2 a 2 (hx_w_get hcell) (cA := cA 2) rfl hin e1 h2
theorem hx_alen {a t : Nat} {xs : List Int32} (hop : (hx_ops u)[i]? = some .arraylength) (ht : t < 3) (hcell : h[a]? = some (.inl (t, xs))) (kk : hx_W sc u d (i + 1) loc (.int (Int32.ofNat xs.length) :: st) h kc ks Q) : hx_W sc u d i loc (.ref (a + 2) :: st) h kc ks Q := by
  intro b o base D cA p l e R s m args below meth c H locs cells slots Qm ls hok hc hf hR hw hS hL hq
  have h1 := hx_at hok hop
  have h2 := kk b o base D cA p l e R s m args below meth c H locs cells slots Qm ls hok hc hf hR hw hS hL hq
  obtain ⟨e1, e2⟩ := hx_dec_s (show hx_dec u i .arraylength 1 = true from h1)
  rw [e2] at h2
  rcases (show t = 0 ∨ t = 1 ∨ t = 2 by omega) with rfl | rfl | rfl
  · exact va_alen hc.1 hc.2.1 hf.1 hw.2 a 0 (hx_w_get hcell) (cA := cA 0) (ty := .int) rfl rfl e1 h2
  · exact va_alen hc.1 hc.2.1 hf.1 hw.2 a 1 (hx_w_get hcell) (cA := cA 1) (ty := .byte) rfl rfl e1 h2
  · exact va_alen hc.1 hc.2.1 hf.1 hw.2 a 2 (hx_w_get hcell) (cA := cA 2) (ty := .boolean) rfl rfl e1 h2
/-- behind an array's store -/
theorem hx_stored {b o base : Nat} {D : va_G} {cA : Nat → ClassId} {H H1 : Heap} {a t : Nat} {xs : List Int32} {z x : Int32} (hw : hx_wld b o base D cA h H) (hcell : h[a]? = some (.inl (t, xs))) (hin : vp_in z xs.length) (e : H1[base + a]? = some ((vp_cell (cA t) (xs.length, .inl (fun j => xs.getD j 0))).setSlot z.toNatClampNeg (.int x))) (hz : H1.size = H.size) (oq : ∀ q, q ≠ base + a → H1[q]? = H[q]?) :
    hx_wld b o base D cA (h.set a (.inl (t, xs.set z.toNatClampNeg x))) H1 := by
  have hlt : z.toNatClampNeg < xs.length := Nat.not_le.mp fun q => hin (Or.inr q)
  refine ⟨by rw [List.length_set, hz]; exact hw.1, ?_⟩
  rw [hx_w_set]
  refine hw.2.set (hx_w_D b o base cA h) (hx_w_get hcell) ?_ oq
  show H1[base + a]? = some (vp_cell (cA t) ((xs.set z.toNatClampNeg x).length, .inl (fun j => (xs.set z.toNatClampNeg x).getD j 0)))
  rw [e, List.length_set, ← hx_upd hlt, vp_cell_i, vp_cell_i, arrV_store]
  congr 2
  funext q
  by_cases hq : q = z.toNatClampNeg
  · subst hq
    simp [updV, upd]
  · simp [updV, upd, hq]
theorem hx_iast {a : Nat} {xs : List Int32} {z x : Int32} (hop : (hx_ops u)[i]? = some .iastore) (hcell : h[a]? = some (.inl (0, xs))) (hin : vp_in z xs.length) (kk : hx_W sc u d (i + 1) loc st (h.set a (.inl (0, xs.set z.toNatClampNeg x))) kc ks Q) : hx_W sc u d i loc (.int x :: .int z :: .ref (a + 2) :: st) h kc ks Q := by
  intro b o base D cA p l e R s m args below meth c H locs cells slots Qm ls hok hc hf hR hw hS hL hq
  have h1 := hx_at hok hop
  obtain ⟨e1, e2⟩ := hx_dec_s (show hx_dec u i .iastore 1 = true from h1)
  refine W.iast (rest := st.map (hx_g b o base)) hc.1 hc.2.1 (hw.2 a _ (hx_w_get hcell)) ((hf.1.2 0 _ rfl).1 xs.length (fun j => .int (xs.getD j 0))) (fun q => by cases q) (by show ¬ (z < 0 ∨ (arrV _ _ _).slots.size ≤ _); rw [arrV_size]; exact hin) rfl rfl e1 fun H1 ez z1 oq => ?_
  have h2 := kk b o base D cA p l e R s m args below meth c H1 (locs ++ [⟨base + a, z.toNatClampNeg⟩]) cells slots Qm ls hok hc hf hR (hx_stored hw hcell hin ez z1 oq) (hS.put z1 oq (show base ≤ base + a by omega)) hL hq
  rw [e2] at h2
  exact h2
theorem hx_bast {a : Nat} {xs : List Int32} {z x : Int32} (hop : (hx_ops u)[i]? = some .bastore) (hcell : h[a]? = some (.inl (1, xs))) (hx : vp_nar .byte x = x) (hin : vp_in z xs.length) (kk : hx_W sc u d (i + 1) loc st (h.set a (.inl (1, xs.set z.toNatClampNeg x))) kc ks Q) : hx_W sc u d i loc (.int x :: .int z :: .ref (a + 2) :: st) h kc ks Q := by
  intro b o base D cA p l e R s m args below meth c H locs cells slots Qm ls hok hc hf hR hw hS hL hq
  have h1 := hx_at hok hop
  obtain ⟨e1, e2⟩ := hx_dec_s (show hx_dec u i .bastore 1 = true from h1)
  refine W.bast (rest := st.map (hx_g b o base)) hc.1 hc.2.1 (hw.2 a _ (hx_w_get hcell)) ((hf.1.2 1 _ rfl).1 xs.length (fun j => .int (xs.getD j 0))) (fun q => by cases q) (by show ¬ (z < 0 ∨ (arrV _ _ _).slots.size ≤ _); rw [arrV_size]; exact hin) rfl rfl e1 fun H1 ez z1 oq => ?_
  have hn : narrow .byte (.int x) = .int x := by rw [vp_nar_byte] at hx; show Value.int x.toInt8.toInt32 = _; rw [hx]
  rw [show narrow _ (.int x) = .int x from hn] at ez
  have h2 := kk b o base D cA p l e R s m args below meth c H1 (locs ++ [⟨base + a, z.toNatClampNeg⟩]) cells slots Qm ls hok hc hf hR (hx_stored hw hcell hin ez z1 oq) (hS.put z1 oq (show base ≤ base + a by omega)) hL hq
  rw [e2] at h2
  exact h2
theorem hx_zast {a : Nat} {xs : List Int32} {z x : Int32} (hop : (hx_ops u)[i]? = some .bastore) (hcell : h[a]? = some (.inl (2, xs))) (hx : x = 0 ∨ x = 1) (hin : vp_in z xs.length) (kk : hx_W sc u d (i + 1) loc st (h.set a (.inl (2, xs.set z.toNatClampNeg x))) kc ks Q) : hx_W sc u d i loc (.int x :: .int z :: .ref (a + 2) :: st) h kc ks Q := by
  intro b o base D cA p l e R s m args below meth c H locs cells slots Qm ls hok hc hf hR hw hS hL hq
  have h1 := hx_at hok hop
  obtain ⟨e1, e2⟩ := hx_dec_s (show hx_dec u i .bastore 1 = true from h1)
  refine W.zast (rest := st.map (hx_g b o base)) hc.1 hc.2.1 (hw.2 a _ (hx_w_get hcell)) ((hf.1.2 2 _ rfl).1 xs.length (fun j => .int (xs.getD j 0))) (fun q => by cases q) (by show ¬ (z < 0 ∨ (arrV _ _ _).slots.size ≤ _); rw [arrV_size]; exact hin) rfl rfl e1 fun H1 ez z1 oq => ?_
  have hn : narrow .boolean (.int x) = .int x := by rcases hx with rfl | rfl <;> rfl
  rw [show narrow _ (.int x) = .int x from hn] at ez
  have h2 := kk b o base D cA p l e R s m args below meth c H1 (locs ++ [⟨base + a, z.toNatClampNeg⟩]) cells slots Qm ls hok hc hf hR (hx_stored hw hcell hin ez z1 oq) (hS.put z1 oq (show base ≤ base + a by omega)) hL hq
  rw [e2] at h2
  exact h2
/-! ends -/
theorem hx_ireturn {x : Int32} {ty : FieldType} (hop : (hx_ops u)[i]? = some .ireturn) (hr : hx_ret u = some ty) (hn : narrow ty (.int x) = .int x) (hQ : Q (some x) h) : hx_W sc u d i loc [.int x] h kc ks Q := by
  intro b o base D cA p l e R s m args below meth c H locs cells slots Qm ls hok hc hf hR hw hS hL hq
  have h1 := hx_at hok hop
  exact hq (some x) h H locs cells slots ls (hx_pc u i) (by omega) (by omega) hQ hw hS ⟨of_decide_eq_true h1, ty, hr, hn⟩
theorem hx_return (hop : (hx_ops u)[i]? = some .return_) (hr : hx_ret u = none) (hQ : Q none h) : hx_W sc u d i loc [] h kc ks Q := by
  intro b o base D cA p l e R s m args below meth c H locs cells slots Qm ls hok hc hf hR hw hS hL hq
  have h1 := hx_at hok hop
  exact hq none h H locs cells slots ls (hx_pc u i) (by omega) (by omega) hQ hw hS ⟨of_decide_eq_true h1, hr⟩
/-- more room, a weaker end -/
theorem hx_W.mono {Q' : Option Int32 → hx_H → Prop} {kc' ks' : Nat} (k : hx_W sc u d i loc st h kc' ks' Q') (h1 : kc' ≤ kc) (h2 : ks' ≤ ks) (hQ : ∀ r h', Q' r h' → Q r h') : hx_W sc u d i loc st h kc ks Q := by
  intro b o base D cA p l e R s m args below meth c H locs cells slots Qm ls hok hc hf hR hw hS hL hq
  exact k b o base D cA p l e R s m args below meth c H locs cells slots Qm ls hok hc hf (by omega) hw hS hL (fun r h' H' locs' cells' slots' ls' pc' a1 a2 a3 a4 a5 a6 => hq r h' H' locs' cells' slots' ls' pc' (by omega) (by omega) (hQ r h' a3) a4 a5 a6)
end HXT
/-! contracts and calls -/
def hx_rm (d kc ks : Nat) : Room := { frames := d + 1, cells := kc, slots := ks, locals := 40 * (d + 1) }
def hx_Inv (b o base : Nat) (sc : List Int32) (D : va_G) (cA : Nat → ClassId) (h : hx_H) (U : State) : Prop := hx_fix b o base sc D cA U ∧ hx_wld b o base D cA h U.heap
def hx_Qc (b o base : Nat) (D : va_G) (cA : Nat → ClassId) (Q : Option Int32 → hx_H → Prop) : Array Value → State → Outcome → State → Prop := fun _ st oc t =>
  (∃ (r : Option Int32) (h' : hx_H), oc = .returned (r.map .int) ∧ Q r h' ∧ hx_wld b o base D cA h' t.heap) ∧ va_F (fun q => base ≤ q) st t
abbrev hx_ws (u : hx_M) : List Cond := .code (hx_y u) (hx_b u) (hx_L u) (hx_ret u) :: hx_T
/-- a contract: u, called with these in this world, comes back with Q -/
def hx_Ct (sc : List Int32) (u : hx_M) (d kc ks : Nat) (as : List Value) (h : hx_H) (Q : Option Int32 → hx_H → Prop) : Prop :=
  hx_cal u ∧ ∀ (l : Launch) (b o base : Nat) (D : va_G) (cA : Nat → ClassId), Met l (hx_y u) (hx_ws u) (hx_rm d kc ks) (va_Pc (as.map (hx_g b o base)) (hx_Inv b o base sc D cA h)) (hx_Qc b o base D cA Q) kc ks (fun q => base ≤ q)
theorem hx_args_mem : ∀ (vs : List Value) (k i : Nat) (w : Value), (∀ v ∈ vs, v.category = 1) → vs[i]? = some w → (k + i, w) ∈ lv_args k vs
  | [], _, _, _, _, h => by simp at h
  | v :: vs, k, 0, w, hc, h => by
    simp at h
    subst h
    exact List.mem_cons_self
  | v :: vs, k, i + 1, w, hc, h => by
    have h1 : v.category = 1 := hc v List.mem_cons_self
    have h2 := hx_args_mem vs (k + 1) i w (fun x hx => hc x (List.mem_cons_of_mem _ hx)) (by simpa using h)
    unfold lv_args
    rw [if_neg (by omega)]
    refine List.mem_cons_of_mem _ ?_
    rw [show k + (i + 1) = k + 1 + i by omega]
    exact h2
theorem hx_sl_len : ∀ (vs : List Value), (∀ v ∈ vs, v.category = 1) → (lg_sl vs).length = vs.length
  | [], _ => rfl
  | v :: vs, hc => by
    have h1 : v.category = 1 := hc v List.mem_cons_self
    have h2 := hx_sl_len vs (fun x hx => hc x (List.mem_cons_of_mem _ hx))
    unfold lg_sl at h2 ⊢
    rw [List.flatMap_cons, List.length_append, h2, if_neg (by omega)]
    simp
    omega
theorem hx_cats {vs : List Value} (h : vs.all hx_v = true) : ∀ v ∈ vs, v.category = 1 := fun v hv => hx_v_cat (List.all_eq_true.mp h v hv)
theorem hx_LR0 {b o base n : Nat} {as : List Value} (hv : as.all hx_v = true) (hn : as.length ≤ n) : hx_LR (hx_g b o base) ((lg_sl (as.map (hx_g b o base)) ++ List.replicate (n - (lg_sl (as.map (hx_g b o base))).length) Slot.unset).toArray) n (as ++ List.replicate (n - as.length) .null) := by
  have hc := hx_cats hv
  have hc2 : ∀ v ∈ as.map (hx_g b o base), v.category = 1 := fun v hv => by
    obtain ⟨w, h1, rfl⟩ := List.mem_map.mp hv
    rw [hx_g_cat]; exact hc w h1
  have hl := lv_entry (as.map (hx_g b o base)) (n := n) (by rw [hx_sl_len _ hc2, List.length_map]; exact hn)
  refine ⟨hl.1, hl.2.1, fun v hv => ?_, fun i v hi hne => ?_⟩
  · rcases List.mem_append.mp hv with h1 | h1
    · exact hc v h1
    · rw [List.eq_of_mem_replicate h1]; rfl
  · by_cases hia : i < as.length
    · rw [List.getElem?_append_left hia] at hi
      have h2 := hx_args_mem (as.map (hx_g b o base)) 0 i (hx_g b o base v) hc2 (by rw [List.getElem?_map, hi]; rfl)
      rw [Nat.zero_add] at h2
      exact hl.2.2 _ h2
    · rw [List.getElem?_append_right (by omega)] at hi
      exact absurd (List.eq_of_mem_replicate (List.mem_of_getElem? hi)) hne
/-- a contract out of a walk -/
theorem hx_mk {sc : List Int32} {u : hx_M} {d kc ks : Nat} {as : List Value} {h : hx_H} {Q : Option Int32 → hx_H → Prop} (hok : hx_okO u = true) (hcal : hx_cal u) (hl : as.length ≤ hx_L u) (hv : as.all hx_v = true)
    (kk : hx_W sc u d 0 (as ++ List.replicate (hx_L u - as.length) .null) [] h kc ks Q) : hx_Ct sc u d kc ks as h Q := by
  refine ⟨hcal, fun l b o base D cA => ?_⟩
  have hpn : plainName (hx_y u).cls = true := by
    have h1 := hcal.1
    unfold hx_okC at h1
    simp only [Bool.and_eq_true] at h1
    exact h1.1.1.1.1
  refine Met.ofW (cc := hx_b u) (maxL := hx_L u) (ret := hx_ret u) hpn rfl ?_
  intro p e s m args below meth c s₁ B hml hpc
  obtain ⟨rfl, hfix, hwld⟩ := hpc
  have hts := atoms_spec (ws := hx_ws u) B.pre
  have hown : s.vm.findClass (hx_y u).cls = some m.cls := findClass_of_methodNamed B.named
  have hc : hx_ctx u p s m (as.map (hx_g b o base)).toArray meth c := ⟨B.exec, B.bytes, hml, hown, fun w hw => hts w (List.mem_cons_of_mem _ hw), B.returns, B.notSynchronized, (name_of_methodNamed B.named B.method).1⟩
  rw [lg_entry_eq]
  have h0 := kk b o base D cA p l e (hx_rm d kc ks) s m (as.map (hx_g b o base)).toArray below meth c s.heap [] 0 0 (MQ below (hx_Qc b o base D cA Q) (as.map (hx_g b o base)).toArray s kc ks (fun q => base ≤ q)) _ hok hc hfix ⟨Nat.le_refl _, Nat.le_refl _, by simp [hx_rm], by simp [hx_rm]⟩ hwld va_S.rf (hx_LR0 hv hl)
  have hlocks := B.notSynchronized
  have h1 := h0 (by
    intro r h' H' locs' cells' slots' ls' pc' a1 a2 a3 a4 a5 a6
    refine W.widen (k := kc) (n := ks) (by omega) (by omega) ?_
    cases r with
    | none => exact W.vret hc.1 hc.2.1 (hc.2.2.2.2.2.1.trans a6.2) (fun t ht _ => ⟨⟨none, h', rfl, a3, by rw [ht]; exact a4⟩, a5.F ht⟩) a5.2.2 a6.1 hlocks
    | some x =>
      obtain ⟨a61, ty, a62, a63⟩ := a6
      exact W.zret hc.1 hc.2.1 (hc.2.2.2.2.2.1.trans a62) a63 (fun t ht _ => ⟨⟨some x, h', rfl, a3, by rw [ht]; exact a4⟩, a5.F ht⟩) a5.2.2 a61 hlocks)
  rw [hx_at0 hok] at h1
  exact h1
theorem hx_fix_moved {b o base : Nat} {sc : List Int32} {D : va_G} {cA : Nat → ClassId} {s U : State} {H : Heap} {locs : List Loc} (hf : hx_fix b o base sc D cA s) (hS : va_S (fun q => base ≤ q) s.heap H locs) (hU : U.heap = H) (hW : s.WarmedH U.vm) : hx_fix b o base sc D cA U := by
  obtain ⟨h1, h2, h3, h4, h5, h6, h7⟩ := hf
  have hvm := hW.alike
  have hk : ∀ a : Nat, a < s.heap.size → ¬ base ≤ a → U.heap[a]? = s.heap[a]? := fun a h1 h2 => by rw [hU]; exact hS.2.1 a h1 h2
  refine ⟨va_K.moved hvm h1, (h2.moved hvm).kept (hk b (by omega) (by omega)), (va_T.moved hvm h3).kept hk, (va_Z.moved hvm h4).kept hk, h5, by rw [hU]; exact Nat.le_trans h6 hS.1, fun w hw => (h7 w hw).warmM hW⟩
theorem hx_blind {b o base : Nat} {sc : List Int32} {D : va_G} {cA : Nat → ClassId} {h : hx_H} {av : List Value} : FrameBlind (va_Pc av (hx_Inv b o base sc D cA h)) := by
  intro a U g mk q
  obtain ⟨q1, q2, q3⟩ := q
  refine ⟨q1, ?_, q3⟩
  obtain ⟨h1, h2, h3, h4, h5, h6, h7⟩ := q2
  exact ⟨va_K.moved (u := U) (U := U.calling g mk a) (Vm.Alike.refl U.vm) h1, va_X.moved (u := U) (U := U.calling g mk a) (Vm.Alike.refl U.vm) h2, va_T.moved (u := U) (U := U.calling g mk a) (Vm.Alike.refl U.vm) h3, va_Z.moved (u := U) (U := U.calling g mk a) (Vm.Alike.refl U.vm) h4, h5, h6, fun w hw => va_Nw.same (u := U) (U := U.calling g mk a) rfl rfl (h7 w hw)⟩
theorem hx_catsum {vs : List Value} (h : vs.all hx_v = true) (f : Value → Value) (hf : ∀ v, (f v).category = v.category) : ((vs.map f).map fun v => v.category).sum = vs.length := by
  induction vs with
  | nil => rfl
  | cons v vs ih =>
    simp only [List.all_cons, Bool.and_eq_true] at h
    simp only [List.map_cons, List.sum_cons, List.length_cons, hf, hx_v_cat h.1, ih h.2]
    omega
section HXC
variable {sc : List Int32} {u v : hx_M} {d d' i j : Nat} {loc as rest : List Value} {h : hx_H} {kc ks kc' ks' : Nat} {Q Q' : Option Int32 → hx_H → Prop}
/-- behind a call -/
theorem hx_after {b o base : Nat} {D : va_G} {cA : Nat → ClassId} {p : Program} {l : Launch} {e : Env} {R : Room} {s : State} {m : MethodId} {args : Array Value} {below : List Frame} {meth : Method} {c : Code} {H : Heap} {locs : List Loc} {cells slots : Nat} {Qm : State → Prop} {ls : Array Slot} {st0 : List Value} {av : Array Value}
    (hok : hx_okO u = true) (hc : hx_ctx u p s m args meth c) (hf : hx_fix b o base sc D cA s) (hR : d + 1 ≤ R.frames ∧ 40 * (d + 1) ≤ R.locals ∧ cells + (kc + kc') ≤ R.cells ∧ slots + (ks + ks') ≤ R.slots) (hS : va_S (fun q => base ≤ q) s.heap H locs) (hL : hx_LR (hx_g b o base) ls (hx_L u) loc)
    (hq : ∀ (r : Option Int32) (h' : hx_H) (H' : Heap) (locs' : List Loc) (cells' slots' : Nat) (ls' : Array Slot) (pc' : Nat), cells' ≤ cells + (kc + kc') → slots' ≤ slots + (ks + ks') → Q r h' → hx_wld b o base D cA h' H' → va_S (fun q => base ≤ q) s.heap H' locs' → hx_rt u pc' r →
      W p l e R s m args below meth c H' locs' cells' slots' Qm (F0 m pc' ls' (hx_st r)))
    (e2 : hx_pc u (i + 1) = hx_pc u i + 3)
    (hr : va_Run p l e R s m args below meth c H locs cells slots kc' ks' (F0 m (hx_pc u i) ls st0) (rest.map (hx_g b o base)) (hx_Qc b o base D cA Q' av) (fun q => base ≤ q))
    (kk : ∀ r h', Q' r h' → hx_W sc u d (i + 1) loc (hx_st r ++ rest) h' kc ks Q) : W p l e R s m args below meth c H locs cells slots Qm (F0 m (hx_pc u i) ls st0) := by
  intro T hT X
  obtain ⟨v', st₀, t, T', L, h0, X', hL', e1, e3, ⟨⟨r, h', hv, hQ', hw'⟩, hz, hk⟩, st⟩ := hr T hT X
  cases hv
  rw [h0] at hz hk
  have hS' : va_S (fun q => base ≤ q) s.heap T'.heap (locs ++ L) := ⟨Nat.le_trans hS.1 (by rw [e1]; exact hz), fun q h1 h2 => by rw [e1, hk q (Nat.lt_of_lt_of_le h1 hS.1) h2]; exact hS.2.1 q h1 h2, fun q hq => by
    rcases List.mem_append.mp hq with h | h
    · exact hS.2.2 q h
    · exact hL' q h⟩
  have h2 := kk r h' hQ' b o base D cA p l e R s m args below meth c T'.heap (locs ++ L) (cells + kc') (slots + ks') Qm ls hok hc hf (by omega) (by rw [e1]; exact hw') hS' hL (fun r h' H' locs' cells' slots' ls' pc' a1 a2 => hq r h' H' locs' cells' slots' ls' pc' (by omega) (by omega))
  obtain ⟨t2, a1, b1⟩ := h2 T' rfl X'
  refine ⟨t2, st t2 ?_, b1⟩
  rw [e2] at a1
  cases r <;> exact a1
theorem hx_callV {a ci : Nat} {fs : List Value} {q : vw_C} (hop : (hx_ops u)[i]? = some (.invokevirtual j)) (hj : hx_ms[j]? = some v) (hd : d' < d) (hn : as.length = hx_na v) (hrest : rest.all hx_v = true) (hrl : rest.length ≤ 8) (hcell : h[a]? = some (.inr (ci, fs))) (hcl : hx_cl[ci]? = some q) (hqy : q.1 = (hx_y v).cls)
    (hct : hx_Ct sc v d' kc' ks' (.ref (a + 2) :: as) h Q') (kk : ∀ r h', Q' r h' → hx_W sc u d (i + 1) loc (hx_st r ++ rest) h' kc ks Q) : hx_W sc u d i loc (as.reverse ++ .ref (a + 2) :: rest) h (kc + kc') (ks + ks') Q := by
  intro b o base D cA p l e R s m args below meth c H locs cells slots Qm ls hok hc hf hR hw hS hL hq
  have h1 := hx_at hok hop
  simp only [hx_okI, hj, Bool.and_eq_true, decide_eq_true_eq] at h1
  obtain ⟨⟨hkind, h1⟩, h3⟩ := h1
  obtain ⟨e1, e2⟩ := hx_dec_s h1
  have hcal := hct.1
  have hC := hcal.1
  unfold hx_okC at hC
  rw [hkind] at hC
  simp only [Bool.and_eq_true, decide_eq_true_eq] at hC
  obtain ⟨⟨⟨⟨hpn, hmh⟩, hdesc⟩, hL21⟩, ⟨hi1, hi2⟩, hi3⟩ := hC
  have hts := hc.2.2.2.2.1
  have hm := hct.2 l b o base D cA
  refine hx_after (Q' := Q') hok hc hf hR hS hL hq e2 (va_runV (C := (hx_y v).cls) (b := base + a) (As := as.map (hx_g b o base)) (own := (hx_y u).cls) ⟨hc.1, hc.2.1, hc.2.2.1, hc.2.2.2.1, hts⟩ hm ⟨callB_of (hx_na v) hts ?_ rfl rfl rfl (hts _ (hx_wd_in hi3)) (hts _ (hx_wd_in h3)) ⟨hmh.1, hmh.2, hdesc⟩ ⟨?_, ?_⟩, hts _ (hx_wd_in hi1), hts _ (hx_wd_in hi2)⟩ ⟨hx_blind, ?_, ?_⟩ rfl (by rw [List.length_map]; exact hn) hL.1 ?_ ?_ e1 (by omega)) kk
  · intro w hw
    rcases List.mem_cons.mp hw with rfl | hw
    · exact hx_good _ hcal.2
    · exact hx_good _ hw
  · show d' + 1 + 1 ≤ R.frames; omega
  · show 8 + (hx_L v + 11) + 40 * (d' + 1) ≤ R.locals; omega
  · obtain ⟨cell, c1, c2, c3⟩ := va_recv hf.1 hw.2 hcl (hx_w_get hcell)
    exact ⟨cell, c1, c2, by rw [← hqy]; exact c3⟩
  · intro U hU hW
    exact ⟨rfl, hx_fix_moved hf hS hU hW, by rw [hU]; exact hw⟩
  · simp [F0, hx_g]
  · show 2 * 0 + _ ≤ 8
    rw [hx_catsum hrest _ (hx_g_cat b o base)]; omega
theorem hx_callI {a : Nat} (hop : (hx_ops u)[i]? = some (.invokespecial j)) (hj9 : j ≠ 9999) (hj : hx_ms[j]? = some v) (hd : d' < d) (hn : as.length = hx_na v) (hrest : rest.all hx_v = true) (hrl : rest.length ≤ 8)
    (hct : hx_Ct sc v d' kc' ks' (.ref (a + 2) :: as) h Q') (kk : ∀ r h', Q' r h' → hx_W sc u d (i + 1) loc (hx_st r ++ rest) h' kc ks Q) : hx_W sc u d i loc (as.reverse ++ .ref (a + 2) :: rest) h (kc + kc') (ks + ks') Q := by
  intro b o base D cA p l e R s m args below meth c H locs cells slots Qm ls hok hc hf hR hw hS hL hq
  have h1 := hx_at hok hop
  simp only [hx_okI, hj, if_neg hj9, Bool.and_eq_true, Bool.or_eq_true, decide_eq_true_eq] at h1
  obtain ⟨⟨hkind, h1⟩, h3⟩ := h1
  obtain ⟨e1, e2⟩ := hx_dec_s h1
  have hcal := hct.1
  have hC := hcal.1
  unfold hx_okC at hC
  rw [hkind] at hC
  simp only [Bool.and_eq_true, decide_eq_true_eq] at hC
  obtain ⟨⟨⟨⟨hpn, hmh⟩, hdesc⟩, hL21⟩, ⟨⟨hi1, hi2⟩, hi3⟩, hi4⟩ := hC
  have hts := hc.2.2.2.2.1
  have hm := hct.2 l b o base D cA
  have hG : GoodIn hx_T (hx_ws v) := by
    intro w hw
    rcases List.mem_cons.mp hw with rfl | hw
    · exact hx_good _ hcal.2
    · exact hx_good _ hw
  unfold hx_ws at hm hG
  rw [hi4] at hm hG
  have hst : (F0 m (hx_pc u i) ls ((as.reverse ++ .ref (a + 2) :: rest).map (hx_g b o base))).stack = (as.map (hx_g b o base)).reverse ++ .ref (base + a) :: rest.map (hx_g b o base) := by simp [F0, hx_g]
  have hW8 : 2 * (F0 m (hx_pc u i) ls ((as.reverse ++ .ref (a + 2) :: rest).map (hx_g b o base))).monitorRoom + ((rest.map (hx_g b o base)).map fun v => v.category).sum ≤ 8 := by
    show 2 * 0 + _ ≤ 8
    rw [hx_catsum hrest _ (hx_g_cat b o base)]; omega
  have hPre : PreS s H (va_Pc ((Value.ref (a + 2) :: as).map (hx_g b o base)) (hx_Inv b o base sc D cA h)) (.ref (base + a) :: as.map (hx_g b o base)) := ⟨hx_blind, fun U hU hW => ⟨rfl, hx_fix_moved hf hS hU hW, by rw [hU]; exact hw⟩⟩
  have hRm : (hx_rm d' kc' ks').frames + 1 ≤ R.frames ∧ 8 + (hx_L v + 11) + (hx_rm d' kc' ks').locals ≤ R.locals := ⟨by show d' + 1 + 1 ≤ R.frames; omega, by show 8 + (hx_L v + 11) + 40 * (d' + 1) ≤ R.locals; omega⟩
  rcases h3 with h3 | h3
  · exact hx_after (Q' := Q') hok hc hf hR hS hL hq e2 (va_runI (own := (hx_y u).cls) ⟨hc.1, hc.2.1, hc.2.2.1, hc.2.2.2.1, hts⟩ hm ⟨callB_of (hx_na v) hts hG rfl rfl rfl (hts _ (hx_wd_in hi2)) (hts _ (hx_wd_in h3)) ⟨hmh.1, hmh.2, hdesc⟩ hRm, hi3, hts _ (hx_wd_in hi1)⟩ hPre rfl (by rw [List.length_map]; exact hn) hL.1 hst hW8 e1 (by omega)) kk
  · exact hx_after (Q' := Q') hok hc hf hR hS hL hq e2 (va_runIN (own := (hx_y u).cls) ⟨hc.1, hc.2.1, hc.2.2.1, hc.2.2.2.1, hts⟩ hm ⟨va_cnB (hx_na v) hts hG rfl rfl rfl (hf.2.2.2.2.2.2 _ (List.mem_of_getElem? h3)) (hts _ (hx_wd_in hi2)) ⟨hmh.1, hmh.2, hdesc⟩ hRm, hi3, hts _ (hx_wd_in hi1)⟩ hPre rfl (by rw [List.length_map]; exact hn) hL.1 hst hW8 e1 (by omega)) kk
theorem hx_callS (hop : (hx_ops u)[i]? = some (.invokestatic j)) (hj9 : j < 9991) (hj : hx_ms[j]? = some v) (hd : d' < d) (hn : as.length = hx_na v) (hrest : rest.all hx_v = true) (hrl : rest.length ≤ 8)
    (hct : hx_Ct sc v d' kc' ks' as h Q') (kk : ∀ r h', Q' r h' → hx_W sc u d (i + 1) loc (hx_st r ++ rest) h' kc ks Q) : hx_W sc u d i loc (as.reverse ++ rest) h (kc + kc') (ks + ks') Q := by
  intro b o base D cA p l e R s m args below meth c H locs cells slots Qm ls hok hc hf hR hw hS hL hq
  have h1 := hx_at hok hop
  simp only [hx_okI, hj, if_neg (show ¬ j = 9991 by omega), if_neg (show ¬ j = 9992 by omega), if_neg (show ¬ j = 9993 by omega), if_neg (show ¬ j = 9999 by omega), Bool.and_eq_true, Bool.or_eq_true, decide_eq_true_eq] at h1
  obtain ⟨⟨hkind, h1⟩, h3⟩ := h1
  obtain ⟨e1, e2⟩ := hx_dec_s h1
  have hcal := hct.1
  have hC := hcal.1
  unfold hx_okC at hC
  rw [hkind] at hC
  simp only [Bool.and_eq_true, decide_eq_true_eq] at hC
  obtain ⟨⟨⟨⟨hpn, hmh⟩, hdesc⟩, hL21⟩, hi1, hi2⟩ := hC
  have hts := hc.2.2.2.2.1
  have hm := hct.2 l b o base D cA
  have hG : GoodIn hx_T (hx_ws v) := by
    intro w hw
    rcases List.mem_cons.mp hw with rfl | hw
    · exact hx_good _ hcal.2
    · exact hx_good _ hw
  have hst : (F0 m (hx_pc u i) ls ((as.reverse ++ rest).map (hx_g b o base))).stack = (as.map (hx_g b o base)).reverse ++ rest.map (hx_g b o base) := by simp [F0]
  have hW8 : 2 * (F0 m (hx_pc u i) ls ((as.reverse ++ rest).map (hx_g b o base))).monitorRoom + ((rest.map (hx_g b o base)).map fun v => v.category).sum ≤ 8 := by
    show 2 * 0 + _ ≤ 8
    rw [hx_catsum hrest _ (hx_g_cat b o base)]; omega
  have hPre : PreS s H (va_Pc (as.map (hx_g b o base)) (hx_Inv b o base sc D cA h)) (as.map (hx_g b o base)) := ⟨hx_blind, fun U hU hW => ⟨rfl, hx_fix_moved hf hS hU hW, by rw [hU]; exact hw⟩⟩
  have hRm : (hx_rm d' kc' ks').frames + 1 ≤ R.frames ∧ 8 + (hx_L v + 11) + (hx_rm d' kc' ks').locals ≤ R.locals := ⟨by show d' + 1 + 1 ≤ R.frames; omega, by show 8 + (hx_L v + 11) + 40 * (d' + 1) ≤ R.locals; omega⟩
  rcases h3 with h3 | h3
  · exact hx_after (Q' := Q') hok hc hf hR hS hL hq e2 (va_runS (own := (hx_y u).cls) ⟨hc.1, hc.2.1, hc.2.2.1, hc.2.2.2.1, hts⟩ hm ⟨callB_of (hx_na v) hts hG rfl rfl rfl (hts _ (hx_wd_in hi2)) (hts _ (hx_wd_in h3)) ⟨hmh.1, hmh.2, hdesc⟩ hRm, hts _ (hx_wd_in hi1)⟩ hPre rfl (by rw [List.length_map]; exact hn) hL.1 hst hW8 e1 (by omega)) kk
  · exact hx_after (Q' := Q') hok hc hf hR hS hL hq e2 (va_runSN (own := (hx_y u).cls) ⟨hc.1, hc.2.1, hc.2.2.1, hc.2.2.2.1, hts⟩ hm ⟨va_cnB (hx_na v) hts hG rfl rfl rfl (hf.2.2.2.2.2.2 _ (List.mem_of_getElem? h3)) (hts _ (hx_wd_in hi2)) ⟨hmh.1, hmh.2, hdesc⟩ hRm, hts _ (hx_wd_in hi1), trivial⟩ hPre rfl (by rw [List.length_map]; exact hn) hL.1 hst hW8 e1 (by omega)) kk
end HXC
/-! Math, arraycopy, Object's constructor, new cells, switches -/
set_option maxRecDepth 20000 in
theorem hx_math_ws : hx_wd 2174 (.static Lib.Math.min.name) = true ∧ hx_wd 2175 (.code Lib.Math.min.name Lib.Math.min.code 2 (some .int)) = true ∧ hx_wd 3238 (.static Lib.Math.max.name) = true ∧ hx_wd 3239 (.code Lib.Math.max.name Lib.Math.max.code 2 (some .int)) = true ∧ hx_wd 5028 (.static Lib.Math.abs.name) = true ∧ hx_wd 5029 (.code Lib.Math.abs.name Lib.Math.abs.code 1 (some .int)) = true ∧ hx_wd 1013 (.initialized "java/lang/Math") = true := by decide +kernel
set_option maxRecDepth 20000 in
theorem hx_sys_ws : hx_wd 3021 (.native arraycopyName) = true ∧ hx_wd 3020 (.static arraycopyName) = true ∧ hx_wd 1014 (.initialized "java/lang/System") = true ∧ hx_wd 1022 (.instanceMethod Lib.objectInit) = true ∧ hx_wd 1023 (.code Lib.objectInit ⟨#[0xb1]⟩ 1 none) = true := by decide +kernel
theorem hx_cpy {xs ys : List Int32} {n : Nat} (h1 : n ≤ xs.length) (h2 : n ≤ ys.length) : va_cpy (fun j => xs.getD j 0) (fun j => ys.getD j 0) 0 0 n = fun j => (xs.take n ++ ys.drop n).getD j 0 := by
  funext j
  simp only [va_cpy, List.getD_eq_getElem?_getD, Nat.zero_le, true_and, Nat.zero_add, Nat.sub_zero]
  by_cases hj : j < n
  · rw [if_pos hj, List.getElem?_append_left (by rw [List.length_take]; omega), List.getElem?_take_of_lt hj]
  · rw [if_neg hj, List.getElem?_append_right (by rw [List.length_take]; omega), List.length_take, List.getElem?_drop]
    congr 2
    omega
section HXU
variable {sc : List Int32} {u : hx_M} {d i : Nat} {loc st : List Value} {h : hx_H} {kc ks : Nat} {Q : Option Int32 → hx_H → Prop}
theorem hx_min {x y : Int32} (hop : (hx_ops u)[i]? = some (.invokestatic 9991)) (hst : st.all hx_v = true) (hl : st.length ≤ 8) (kk : hx_W sc u d (i + 1) loc (.int (if y < x then y else x) :: st) h kc ks Q) : hx_W sc u d i loc (.int y :: .int x :: st) h kc ks Q := by
  intro b o base D cA p l e R s m args below meth c H locs cells slots Qm ls hok hc hf hR hw hS hL hq
  have h1 := hx_at hok hop
  have h2 := kk b o base D cA p l e R s m args below meth c H locs cells slots Qm ls hok hc hf hR hw hS hL hq
  simp only [hx_okI, if_pos, Bool.and_eq_true] at h1
  obtain ⟨e1, e2⟩ := hx_dec_s h1.1
  rw [e2] at h2
  have hts := hc.2.2.2.2.1
  obtain ⟨w1, w2, w3, w4, w5, w6, w7⟩ := hx_math_ws
  exact va_mmin hc.1 hc.2.1 (hc.2.2.1.trans hL.1.symm) hc.2.2.2.1 (hts _ (hx_wd_in h1.2)) (hts _ (hx_wd_in w1)) (hts _ (hx_wd_in w7)) (hts _ (hx_wd_in w2)) (by omega) (by rw [hx_catsum hst _ (hx_g_cat b o base)]; omega) (by omega) (by omega) e1 h2
theorem hx_max {x y : Int32} (hop : (hx_ops u)[i]? = some (.invokestatic 9992)) (hst : st.all hx_v = true) (hl : st.length ≤ 8) (kk : hx_W sc u d (i + 1) loc (.int (if x < y then y else x) :: st) h kc ks Q) : hx_W sc u d i loc (.int y :: .int x :: st) h kc ks Q := by
  intro b o base D cA p l e R s m args below meth c H locs cells slots Qm ls hok hc hf hR hw hS hL hq
  have h1 := hx_at hok hop
  have h2 := kk b o base D cA p l e R s m args below meth c H locs cells slots Qm ls hok hc hf hR hw hS hL hq
  simp only [hx_okI, if_pos, if_neg (show ¬ (9992 = 9991) by decide), Bool.and_eq_true] at h1
  obtain ⟨e1, e2⟩ := hx_dec_s h1.1
  rw [e2] at h2
  have hts := hc.2.2.2.2.1
  obtain ⟨w1, w2, w3, w4, w5, w6, w7⟩ := hx_math_ws
  exact va_mmax hc.1 hc.2.1 (hc.2.2.1.trans hL.1.symm) hc.2.2.2.1 (hts _ (hx_wd_in h1.2)) (hts _ (hx_wd_in w3)) (hts _ (hx_wd_in w7)) (hts _ (hx_wd_in w4)) (by omega) (by rw [hx_catsum hst _ (hx_g_cat b o base)]; omega) (by omega) (by omega) e1 h2
theorem hx_abs {x : Int32} (hop : (hx_ops u)[i]? = some (.invokestatic 9993)) (hst : st.all hx_v = true) (hl : st.length ≤ 8) (kk : hx_W sc u d (i + 1) loc (.int (if 0 ≤ x then x else 0 - x) :: st) h kc ks Q) : hx_W sc u d i loc (.int x :: st) h kc ks Q := by
  intro b o base D cA p l e R s m args below meth c H locs cells slots Qm ls hok hc hf hR hw hS hL hq
  have h1 := hx_at hok hop
  have h2 := kk b o base D cA p l e R s m args below meth c H locs cells slots Qm ls hok hc hf hR hw hS hL hq
  simp only [hx_okI, if_pos, if_neg (show ¬ (9993 = 9991) by decide), if_neg (show ¬ (9993 = 9992) by decide), Bool.and_eq_true] at h1
  obtain ⟨e1, e2⟩ := hx_dec_s h1.1
  rw [e2] at h2
  have hts := hc.2.2.2.2.1
  obtain ⟨w1, w2, w3, w4, w5, w6, w7⟩ := hx_math_ws
  exact va_mabs hc.1 hc.2.1 (hc.2.2.1.trans hL.1.symm) hc.2.2.2.1 (hts _ (hx_wd_in h1.2)) (hts _ (hx_wd_in w5)) (hts _ (hx_wd_in w7)) (hts _ (hx_wd_in w6)) (by omega) (by rw [hx_catsum hst _ (hx_g_cat b o base)]; omega) (by omega) (by omega) e1 h2
/-- arraycopy of the first n of one int array over those of another -/
theorem hx_copy {a0 a1 : Nat} {xs ys : List Int32} {n : Int32} (hop : (hx_ops u)[i]? = some (.invokestatic 9999)) (hst : st.all hx_v = true) (hl : st.length ≤ 8) (hc0 : h[a0]? = some (.inl (0, xs))) (hc1 : h[a1]? = some (.inl (0, ys))) (hn : ¬ n < 0) (hn0 : n.toNatClampNeg ≤ xs.length) (hn1 : n.toNatClampNeg ≤ ys.length)
    (kk : hx_W sc u d (i + 1) loc st (h.set a1 (.inl (0, xs.take n.toNatClampNeg ++ ys.drop n.toNatClampNeg))) kc ks Q) : hx_W sc u d i loc (.int n :: .int 0 :: .ref (a1 + 2) :: .int 0 :: .ref (a0 + 2) :: st) h kc ks Q := by
  intro b o base D cA p l e R s m args below meth c H locs cells slots Qm ls hok hc hf hR hw hS hL hq
  have h1 := hx_at hok hop
  simp only [hx_okI, if_pos, if_neg (show ¬ (9999 = 9991) by decide), if_neg (show ¬ (9999 = 9992) by decide), if_neg (show ¬ (9999 = 9993) by decide), Bool.and_eq_true] at h1
  obtain ⟨e1, e2⟩ := hx_dec_s h1.1
  have hts := hc.2.2.2.2.1
  obtain ⟨w1, w2, w3, w4, w5⟩ := hx_sys_ws
  have nn : ∀ z : Int32, ¬ z < 0 → z.toInt = (z.toNatClampNeg : Int) := by
    intro z hz
    have hz0 : (0 : Int) ≤ z.toInt := by
      have := Int32.not_lt.mp hz
      simpa using Int32.le_iff_toInt_le.mp this
    show z.toInt = ((z.toInt.toNat : Nat) : Int)
    omega
  have z0 : (0 : Int32).toNatClampNeg = 0 := rfl
  intro T hT X
  have hP := hw.2
  have g0 : H[base + a0]? = some (vp_cell (cA 0) (xs.length, .inl (fun j => xs.getD j 0))) := hP a0 _ (hx_w_get hc0)
  have g1 : H[base + a1]? = some (vp_cell (cA 0) (ys.length, .inl (fun j => ys.getD j 0))) := hP a1 _ (hx_w_get hc1)
  obtain ⟨-, k0, hk0, cm0, hkk0⟩ := (hf.1.2 0 _ rfl).1 xs.length (fun j => .int (xs.getD j 0))
  obtain ⟨-, k1, hk1, cm1, hkk1⟩ := (hf.1.2 0 _ rfl).1 ys.length (fun j => .int (ys.getD j 0))
  obtain ⟨vm', X', step⟩ := X.arraycopy hc.1 hc.2.2.2.1 (hts _ (hx_wd_in h1.2)) (hts _ (hx_wd_in w1)) (hts _ (hx_wd_in w2)) (hts _ (hx_wd_in w3)) (src := base + a0) (dst := base + a1) (cs := vp_cell (cA 0) (xs.length, .inl (fun j => xs.getD j 0))) (cd := vp_cell (cA 0) (ys.length, .inl (fun j => ys.getD j 0))) (srcPos := 0) (destPos := 0) (n := n) (by rw [hT]; exact g0) (by rw [hT]; exact g1)
    (fun _ h => by cases h) (fun _ h => by cases h) (fun h => by cases h) (fun h => by cases h) hk0 hk1 hkk0 hkk1 (by rfl) (by decide) (by decide) hn
    (by rw [nn n hn]; show ¬ _ > ((arrV (cA 0) xs.length (fun j => .int (xs.getD j 0))).slots.size : Int); rw [arrV_size, show (0 : Int32).toInt = 0 from rfl]; omega)
    (by rw [nn n hn]; show ¬ _ > ((arrV (cA 0) ys.length (fun j => .int (ys.getD j 0))).slots.size : Int); rw [arrV_size, show (0 : Int32).toInt = 0 from rfl]; omega)
    (fun vm₁ _ j hj => by
      have e : (vp_cell (cA 0) (xs.length, .inl (fun j => xs.getD j 0))).slots.getD ((0 : Int32).toNatClampNeg + j) .null = .int (xs.getD ((0 : Int32).toNatClampNeg + j) 0) := by
        show (arrV (cA 0) xs.length (fun j => .int (xs.getD j 0))).slots.getD _ _ = _
        rw [Array.getD_eq_getD_getElem?, arrV_read _ _ (by rw [z0]; omega)]
        rfl
      refine ⟨?_, ?_⟩
      · rw [e]
        rfl
      · rw [e]
        exact trivial)
    (g := F0 m (hx_pc u i) ls (.int n :: .int 0 :: .ref (base + a1) :: .int 0 :: .ref (base + a0) :: st.map (hx_g b o base))) rfl (by rw [hc.2.2.1]; exact hL.1) (rest := st.map (hx_g b o base)) rfl (by rw [hc.2.1]; exact e1) (by omega) (by show 2 * 0 + _ + _ ≤ _; rw [hx_catsum hst _ (hx_g_cat b o base), show nativeFrameWords "java/lang/System" "arraycopy" 5 = 7 from by decide]; omega)
  have e3 : copied (vp_cell (cA 0) (xs.length, .inl (fun j => xs.getD j 0))) (vp_cell (cA 0) (ys.length, .inl (fun j => ys.getD j 0))) 0 0 n = vp_cell (cA 0) (ys.length, .inl (va_cpy (fun j => xs.getD j 0) (fun j => ys.getD j 0) 0 0 n.toNatClampNeg)) := va_copied (fun z => .int z) (cA 0) (cA 0) (fun j => xs.getD j 0) (fun j => ys.getD j 0) (by rw [z0]; omega)
  rw [e3, hx_cpy hn0 hn1] at X' step
  have hlt : base + a1 < H.size := (Array.getElem?_eq_some_iff.mp g1).1
  have hlen : (xs.take n.toNatClampNeg ++ ys.drop n.toNatClampNeg).length = ys.length := by simp; omega
  have hheap : ((T.setVm vm').setCell (base + a1) (vp_cell (cA 0) (ys.length, .inl (fun j => (xs.take n.toNatClampNeg ++ ys.drop n.toNatClampNeg).getD j 0)))).heap = H.setIfInBounds (base + a1) (vp_cell (cA 0) (ys.length, .inl (fun j => (xs.take n.toNatClampNeg ++ ys.drop n.toNatClampNeg).getD j 0))) := by rw [← hT]; rfl
  have oq : ∀ q : Nat, q ≠ base + a1 → (H.setIfInBounds (base + a1) (vp_cell (cA 0) (ys.length, .inl (fun j => (xs.take n.toNatClampNeg ++ ys.drop n.toNatClampNeg).getD j 0))))[q]? = H[q]? := fun q hq => by simp [Array.getElem?_setIfInBounds, Ne.symm hq]
  have h2 := kk b o base D cA p l e R s m args below meth c (H.setIfInBounds (base + a1) (vp_cell (cA 0) (ys.length, .inl (fun j => (xs.take n.toNatClampNeg ++ ys.drop n.toNatClampNeg).getD j 0)))) _ cells slots Qm ls hok hc hf hR ⟨by simp; exact hw.1, by
      rw [hx_w_set]
      refine hP.set (hx_w_D b o base cA h) (hx_w_get hc1) ?_ oq
      show (H.setIfInBounds (base + a1) _)[base + a1]? = some (vp_cell (cA 0) ((xs.take n.toNatClampNeg ++ ys.drop n.toNatClampNeg).length, .inl (fun j => (xs.take n.toNatClampNeg ++ ys.drop n.toNatClampNeg).getD j 0)))
      rw [hlen]
      simp [Array.getElem?_setIfInBounds, hlt]⟩ ⟨by simp; exact hS.1, fun q g1 g2 => by
      rw [oq q (fun e => g2 (by rw [e]; omega))]
      exact hS.2.1 q g1 g2, fun q hq => by
      rcases List.mem_append.mp hq with h | h
      · exact hS.2.2 q h
      · obtain ⟨z, -, hz⟩ := List.mem_map.mp h
        rw [← hz]
        show base ≤ base + a1
        omega⟩ hL hq _ hheap X'
  obtain ⟨t, a1, b1⟩ := h2
  rw [e2] at a1
  exact ⟨t, step t a1, b1⟩
theorem hx_oinit {a : Nat} (hop : (hx_ops u)[i]? = some (.invokespecial 9999)) (hst : st.all hx_v = true) (hl : st.length ≤ 8) (kk : hx_W sc u d (i + 1) loc st h kc ks Q) : hx_W sc u d i loc (.ref (a + 2) :: st) h kc ks Q := by
  intro b o base D cA p l e R s m args below meth c H locs cells slots Qm ls hok hc hf hR hw hS hL hq
  have h1 := hx_at hok hop
  have h2 := kk b o base D cA p l e R s m args below meth c H locs cells slots Qm ls hok hc hf hR hw hS hL hq
  simp only [hx_okI, if_pos, Bool.and_eq_true] at h1
  obtain ⟨e1, e2⟩ := hx_dec_s h1.1
  rw [e2] at h2
  have hts := hc.2.2.2.2.1
  obtain ⟨w1, w2, w3, w4, w5⟩ := hx_sys_ws
  exact W.objInit hc.1 hc.2.1 hc.2.2.2.1 (hts _ (hx_wd_in h1.2)) (hts _ (hx_wd_in w4)) (hts _ (hx_wd_in w5)) rfl (by rw [hc.2.2.1]; exact hL.1) rfl e1 (by omega) (by show 2 * 0 + _ + 12 ≤ _; rw [hx_catsum hst _ (hx_g_cat b o base)]; omega) h2
/-- a new object -/
theorem hx_new {ci : Nat} {q : vw_C} {fs : List Value} {ty : Nat → FieldType} (hop : (hx_ops u)[i]? = some (.new ci)) (hcl : hx_cl[ci]? = some q) (hty : ∀ k, k < q.2.2 → parseFieldDescriptor (q.2.1 k).2.2.1 = some (ty k)) (hfs : ∀ j, j < q.2.2 → defaultValue (ty j) = vp_V fs j) (hng : ∀ b o base, fs.map (hx_g b o base) = fs)
    (kk : hx_W sc u d (i + 1) loc (.ref (h.length + 2) :: st) (h ++ [.inr (ci, fs)]) kc ks Q) : hx_W sc u d i loc st h (kc + 1) (ks + q.2.2) Q := by
  intro b o base D cA p l e R s m args below meth c H locs cells slots Qm ls hok hc hf hR hw hS hL hq
  have h1 := hx_at hok hop
  simp only [hx_okI, hcl, Bool.and_eq_true] at h1
  obtain ⟨⟨⟨h1, h3⟩, h4⟩, h5⟩ := h1
  obtain ⟨e1, e2⟩ := hx_dec_s h1
  have hts := hc.2.2.2.2.1
  have hKn := hf.1.1 ci _ hcl
  obtain ⟨g1, -, -⟩ := hx_own hcl
  refine W.newcK hc.1 hc.2.1 hc.2.2.2.1 (hts _ (hx_wd_in h3)) (hts _ (hx_wd_in h4)) (hts _ (hx_wd_in h5)) rfl e1 (by omega) (by omega) hKn.2.1 rfl fun H1 kC hkC z1 z2 z3 => ?_
  have hP := hw.2
  have hk : ∀ (k : Nat) (x : Nat × va_E), (hx_w b o base cA h)[k]? = some x → H1[x.1]? = H[x.1]? := fun k x hx => z3 x.1 ((hP k x hx).lt)
  have hH : H.size = base + h.length := hw.1
  have h2 := kk b o base D cA p l e R s m args below meth c H1 locs (cells + 1) (slots + q.2.2) Qm ls hok hc hf (by omega) ⟨by rw [z2, hH, List.length_append]; rfl, by
      rw [hx_w_app]
      refine (hP.kept hk).app (fun k x hx => ?_)
      have hz : k < 1 := (List.getElem?_eq_some_iff.mp hx).1
      rw [show k = 0 by omega] at hx
      cases hx
      refine ⟨_, hcl, ?_⟩
      show t_OB (base + h.length) (D.1 ci) q.2.2 (D.2 ci) H1 (vp_V (fs.map (hx_g b o base)))
      rw [hng, ← hH]
      exact (u_born ty hts g1 hKn hkC z1 hty).to hfs⟩ ⟨Nat.le_trans hS.1 (by omega), fun x h1 h2 => (z3 x (Nat.lt_of_lt_of_le h1 hS.1)).trans (hS.2.1 x h1 h2), hS.2.2⟩ hL (fun r h' H' locs' cells' slots' ls' pc' a1 a2 => hq r h' H' locs' cells' slots' ls' pc' (by omega) (by omega))
  rw [e2] at h2
  show W p l e R s m args below meth c H1 locs (cells + 1) (slots + q.2.2) Qm (F0 m (hx_pc u i + 3) ls (.ref H.size :: st.map (hx_g b o base)))
  rw [hH]
  exact h2
/-- a new array of ints, bytes, booleans -/
theorem hx_newa {t : Nat} {at0 : ArrayType} {n : Int32} (hop : (hx_ops u)[i]? = some (.newarray at0)) (ht : (t = 0 ∧ at0 = .int) ∨ (t = 1 ∧ at0 = .byte) ∨ (t = 2 ∧ at0 = .boolean)) (hn : ¬ n < 0) (hb8 : n.toNatClampNeg ≤ 100000)
    (kk : hx_W sc u d (i + 1) loc (.ref (h.length + 2) :: st) (h ++ [.inl (t, List.replicate n.toNatClampNeg 0)]) kc ks Q) : hx_W sc u d i loc (.int n :: st) h (kc + 1) (ks + n.toNatClampNeg) Q := by
  intro b o base D cA p l e R s m args below meth c H locs cells slots Qm ls hok hc hf hR hw hS hL hq
  have h1 := hx_at hok hop
  simp only [hx_okI, Bool.and_eq_true] at h1
  obtain ⟨h1, h3⟩ := h1
  obtain ⟨e1, e2⟩ := hx_dec_s h1
  have hts := hc.2.2.2.2.1
  have hP := hw.2
  have hH : H.size = base + h.length := hw.1
  have hby : n.toNatClampNeg * componentBytes (Op.newarray.typeOf at0) ≤ 536870912 := by
    rcases ht with ⟨-, rfl⟩ | ⟨-, rfl⟩ | ⟨-, rfl⟩
    · show n.toNatClampNeg * 4 ≤ _; omega
    · show n.toNatClampNeg * 1 ≤ _; omega
    · show n.toNatClampNeg * 1 ≤ _; omega
  refine va_newaK hc.1 hc.2.1 (atype := at0) (hts _ (hx_wd_in h3)) rfl e1 rfl hn rfl hby (by omega) (by omega) rfl fun H1 cA' z1 z2 z3 hAr hNm => ?_
  have hcA : cA' = cA t ∧ Op.newarray.typeOf at0 = (match t with | 0 => FieldType.int | 1 => .byte | _ => .boolean) := by
    rcases ht with ⟨rfl, rfl⟩ | ⟨rfl, rfl⟩ | ⟨rfl, rfl⟩
    · exact ⟨Option.some.inj (hNm.symm.trans (hf.1.2 0 _ rfl).2), rfl⟩
    · exact ⟨Option.some.inj (hNm.symm.trans (hf.1.2 1 _ rfl).2), rfl⟩
    · exact ⟨Option.some.inj (hNm.symm.trans (hf.1.2 2 _ rfl).2), rfl⟩
  have hk : ∀ (k : Nat) (x : Nat × va_E), (hx_w b o base cA h)[k]? = some x → H1[x.1]? = H[x.1]? := fun k x hx => z3 x.1 ((hP k x hx).lt)
  have hdf : defaultValue (Op.newarray.typeOf at0) = .int 0 := by rcases ht with ⟨-, rfl⟩ | ⟨-, rfl⟩ | ⟨-, rfl⟩ <;> rfl
  have h2 := kk b o base D cA p l e R s m args below meth c H1 locs (cells + 1) (slots + n.toNatClampNeg) Qm ls hok hc hf (by omega) ⟨by rw [z2, hH, List.length_append]; rfl, by
      rw [hx_w_app]
      refine (hP.kept hk).app (fun k x hx => ?_)
      have hz : k < 1 := (List.getElem?_eq_some_iff.mp hx).1
      rw [show k = 0 by omega] at hx
      cases hx
      show H1[base + h.length]? = some (vp_cell (cA t) ((List.replicate n.toNatClampNeg (0 : Int32)).length, .inl (fun j => (List.replicate n.toNatClampNeg (0 : Int32)).getD j 0)))
      rw [← hH, z1, hcA.1, hdf, List.length_replicate, vp_cell_i]
      congr 2
      funext j
      rw [List.getD_eq_getElem?_getD, List.getElem?_replicate]
      split <;> rfl⟩ ⟨Nat.le_trans hS.1 (by omega), fun x h1 h2 => (z3 x (Nat.lt_of_lt_of_le h1 hS.1)).trans (hS.2.1 x h1 h2), hS.2.2⟩ hL (fun r h' H' locs' cells' slots' ls' pc' a1 a2 => hq r h' H' locs' cells' slots' ls' pc' (by omega) (by omega))
  rw [e2] at h2
  show W p l e R s m args below meth c H1 locs (cells + 1) (slots + n.toNatClampNeg) Qm (F0 m (hx_pc u i + 2) ls (.ref H.size :: st.map (hx_g b o base)))
  rw [hH]
  exact h2
/-- switches: the target by what the data say -/
theorem hx_tsw {dd lo hi : Int} {offs : Array Int} {x : Int32} {t : Nat} (hop : (hx_ops u)[i]? = some (.tableswitch dd lo hi offs)) (ht : (if x.toInt < lo ∨ hi < x.toInt then some dd else offs.toList[(x.toInt - lo).toNat]?) = some (t : Int)) (kk : hx_W sc u d t loc st h kc ks Q) : hx_W sc u d i loc (.int x :: st) h kc ks Q := by
  intro b o base D cA p l e R s m args below meth c H locs cells slots Qm ls hok hc hf hR hw hS hL hq
  have h1 := hx_at hok hop
  have h2 := kk b o base D cA p l e R s m args below meth c H locs cells slots Qm ls hok hc hf hR hw hS hL hq
  have h3 : hx_tb u i dd lo hi offs = true := h1
  unfold hx_tb at h3
  split at h3
  · next d' lo' hi' offs' len he =>
    simp only [Bool.and_eq_true, decide_eq_true_eq] at h3
    obtain ⟨⟨⟨⟨⟨a1, a2⟩, a3⟩, a4⟩, a5⟩, a6⟩ := h3
    subst a1 a2 a3
    by_cases hx : x.toInt < lo' ∨ hi' < x.toInt
    · rw [if_pos hx] at ht
      cases ht
      exact lv_tableOut hc.1 hc.2.1 he hx hx_off_t h2
    · rw [if_neg hx] at ht
      refine lv_tableIn hc.1 hc.2.1 he (fun z => hx (Or.inl z)) (fun z => hx (Or.inr z)) (off := hx_off u i (t : Int)) ?_ hx_off_t h2
      rw [← Array.getElem?_toList, a4, List.getElem?_map, ht]
      rfl
  · cases h3
def hx_look (d0 : Int) : List (Int × Int) → Int → Int
  | [], _ => d0
  | q :: r, x => if q.1 = x then q.2 else hx_look d0 r x
theorem hx_lsw {dd : Int} {ps : Array (Int × Int)} {x : Int32} {t : Nat} (hop : (hx_ops u)[i]? = some (.lookupswitch dd ps)) (ht : hx_look dd ps.toList x.toInt = (t : Int)) (kk : hx_W sc u d t loc st h kc ks Q) : hx_W sc u d i loc (.int x :: st) h kc ks Q := by
  intro b o base D cA p l e R s m args below meth c H locs cells slots Qm ls hok hc hf hR hw hS hL hq
  have h1 := hx_at hok hop
  have h2 := kk b o base D cA p l e R s m args below meth c H locs cells slots Qm ls hok hc hf hR hw hS hL hq
  have h3 : hx_lk u i dd ps = true := h1
  unfold hx_lk at h3
  split at h3
  · next d' ps' len he =>
    simp only [Bool.and_eq_true, decide_eq_true_eq] at h3
    obtain ⟨⟨a1, a2⟩, a3⟩ := h3
    subst a1
    refine lv_lookup hc.1 hc.2.1 he a3 (off := hx_off u i (t : Int)) ?_ hx_off_t h2
    rw [a2, ← ht]
    generalize ps.toList = l0
    clear a2 ht
    induction l0 with
    | nil => rfl
    | cons q r ih =>
      rw [List.map_cons, Op.lookupswitch.offset_cons]
      show (if _ then _ else _) = hx_off u i (if q.1 = x.toInt then q.2 else hx_look dd r x.toInt)
      by_cases hq : q.1 = x.toInt
      · rw [if_pos hq, if_pos hq]
      · rw [if_neg hq, if_neg hq]
        exact ih
  · cases h3
end HXU
abbrev hy_S : Type := (Nat × Nat) ⊕ (Nat × List (Option Nat))
/-- the cells behind the two constructors: arrays by kind and length, objects by class and fields (a reference, or a number) -/
def hy_shape : List hy_S := [
  .inr (10, [some 3, some 5, some 8, some 11, some 19, some 27, some 33, some 37, some 41, none, some 45, some 47, some 49, some 52, some 57, some 58]),
  .inr (9, [some 4, none, none, none, none]),
  .inl (0, 260),
  .inr (5, [some 6, some 7, none, none]),
  .inl (0, 12),
  .inl (0, 12),
  .inr (2, [some 3, some 5, some 9, some 10]),
  .inl (0, 64),
  .inl (0, 64),
  .inr (3, [some 3, some 12, some 13, none, some 14, some 15, some 16, none, some 17, some 18]),
  .inl (0, 241),
  .inl (0, 241),
  .inl (0, 16),
  .inl (0, 16),
  .inl (0, 16),
  .inl (0, 10),
  .inl (0, 32),
  .inr (3, [some 3, some 20, some 21, none, some 22, some 23, some 24, none, some 25, some 26]),
  .inl (0, 241),
  .inl (0, 241),
  .inl (0, 16),
  .inl (0, 16),
  .inl (0, 16),
  .inl (0, 10),
  .inl (0, 32),
  .inr (4, [some 3, some 28, some 29, some 30, some 31, some 32, none]),
  .inl (0, 8),
  .inl (0, 8),
  .inl (0, 8),
  .inl (0, 8),
  .inl (0, 8),
  .inr (8, [some 34, some 35, some 36, none, none, none, none, none]),
  .inl (0, 48),
  .inl (0, 64),
  .inl (0, 96),
  .inr (8, [some 38, some 39, some 40, none, none, none, none, none]),
  .inl (0, 48),
  .inl (0, 64),
  .inl (0, 96),
  .inr (8, [some 42, some 43, some 44, none, none, none, none, none]),
  .inl (0, 48),
  .inl (0, 64),
  .inl (0, 96),
  .inr (1, [some 5, some 11, some 33, some 46]),
  .inl (0, 12),
  .inr (7, [some 5, some 11, some 33, some 45, some 8, some 48]),
  .inl (0, 12),
  .inr (0, [some 33, some 47, some 50, some 51, none, none, none, none, none]),
  .inl (0, 144),
  .inl (0, 144),
  .inr (6, [some 53, some 54, some 55, some 56, none, none]),
  .inl (2, 64),
  .inl (2, 64),
  .inl (0, 64),
  .inl (0, 64),
  .inl (0, 24),
  .inl (0, 12),
  .inr (11, [none, none, none, some 60, some 61, some 62, some 63, some 64, some 65, none, none, none, none, none, none, none, none, none, none, some 66, some 67, some 68, some 69, some 70, some 71, some 72, some 73, some 74, some 75, some 76, some 77, some 78, some 79, none, none, some 80, some 81, some 82, some 83, some 84, some 85, some 86, some 87, some 88, some 89, some 90, some 91, some 92, some 93, some 94, some 95, none, none, none, none, none, none, none, none, none, none, some 96, some 97, some 98, some 99, some 100, some 101, some 102]),
  .inl (0, 12),
  .inl (0, 12),
  .inl (0, 48),
  .inl (0, 64),
  .inl (0, 64),
  .inl (1, 260),
  .inl (0, 260),
  .inl (0, 260),
  .inl (0, 16),
  .inl (0, 16),
  .inl (0, 16),
  .inl (0, 16),
  .inl (0, 260),
  .inl (0, 16),
  .inl (0, 16),
  .inl (0, 16),
  .inl (0, 16),
  .inl (0, 260),
  .inl (0, 10),
  .inl (0, 13),
  .inl (0, 8),
  .inl (0, 8),
  .inl (0, 8),
  .inl (0, 8),
  .inl (0, 8),
  .inl (0, 16),
  .inl (0, 16),
  .inl (0, 16),
  .inl (0, 16),
  .inl (0, 16),
  .inl (0, 16),
  .inl (0, 48),
  .inl (0, 96),
  .inl (0, 48),
  .inl (0, 96),
  .inl (0, 64),
  .inl (0, 64),
  .inl (0, 64),
  .inl (0, 72),
  .inl (0, 144),
  .inl (0, 144),
  .inl (2, 144),
  .inl (0, 64)]
abbrev hy_R (x : Int) : Prop := -2147483648 ≤ x ∧ x ≤ 2147483647
abbrev hy_V : Type := Int ⊕ Option Nat
def hy_v (v : hy_V) : Value := match v with
  | .inl x => .int (Int32.ofInt x)
  | .inr none => .null
  | .inr (some r) => .ref r
def hy_ok (v : hy_V) : Prop := match v with
  | .inl x => hy_R x
  | .inr _ => True
abbrev hy_T : Type := Nat → Nat → Int
def hy_up (t : hy_T) (r j : Nat) (v : Int) : hy_T := fun r' j' => if r' = r ∧ j' = j then v else t r' j'
def hy_cell (t : hy_T) (r : Nat) (s : hy_S) : hx_C := match s with
  | .inl q => .inl (q.1, (List.range q.2).map (fun j => Int32.ofInt (t r j)))
  | .inr q => .inr (q.1, q.2.mapIdx (fun j o => match o with
    | none => .int (Int32.ofInt (t r j))
    | some a => .ref a))
def hy_mk (t : hy_T) : hx_H := hy_shape.mapIdx (fun k s => hy_cell t (k + 2) s)
def hy_sh (r : Nat) : Option hy_S := match r with
  | k + 2 => hy_shape[k]?
  | _ => none
def hy_fld (r f : Nat) : Option (Option Nat) := match hy_sh r with
  | some (.inr q) => if q.1 = f / 100 then q.2[f % 100]? else none
  | _ => none
def hy_arr (r : Nat) : Option (Nat × Nat) := match hy_sh r with
  | some (.inl q) => some q
  | _ => none
def hy_cls (r : Nat) : Option Nat := match hy_sh r with
  | some (.inr q) => some q.1
  | _ => none
/-- an end at this level -/
def hy_Q (Q : Option Int → hy_T → Prop) : Option Int32 → hx_H → Prop := fun r h' => ∃ (r' : Option Int) (t' : hy_T), r = r'.map Int32.ofInt ∧ h' = hy_mk t' ∧ (∀ k j, hy_R (t' k j)) ∧ (∀ x, r' = some x → hy_R x) ∧ Q r' t'
/-- THE JUDGEMENT at this level -/
def hy_W (sc : List Int32) (u : hx_M) (d i : Nat) (loc st : List hy_V) (t : hy_T) (Q : Option Int → hy_T → Prop) : Prop :=
  (∀ v ∈ loc, hy_ok v) → (∀ v ∈ st, hy_ok v) → (∀ k j, hy_R (t k j)) → hx_W sc u d i (loc.map hy_v) (st.map hy_v) (hy_mk t) 0 0 (hy_Q Q)
def hy_Ct (sc : List Int32) (u : hx_M) (d : Nat) (as : List hy_V) (t : hy_T) (Q : Option Int → hy_T → Prop) : Prop :=
  (∀ v ∈ as, hy_ok v) → (∀ k j, hy_R (t k j)) → hx_Ct sc u d 0 0 (as.map hy_v) (hy_mk t) (hy_Q Q)
def hy_b (p : Bool) : Int := if p then 1 else 0
def hy_st (r : Option Int) : List hy_V := match r with
  | some x => [.inl x]
  | none => []
/-! numbers -/
theorem hy_ti {x : Int} (h : hy_R x) : (Int32.ofInt x).toInt = x := by
  rw [Int32.toInt_ofInt, Int.bmod_def, show ((Int32.size : Nat) : Int) = 4294967296 from rfl]
  unfold hy_R at h
  omega
theorem hy_Ri (x : Int32) : hy_R x.toInt := ⟨Int32.le_toInt x, by have := Int32.toInt_lt x; omega⟩
theorem hy_oi (x : Int32) : Int32.ofInt x.toInt = x := Int32.ofInt_toInt x
theorem hy_Rb (p : Bool) : hy_R (hy_b p) := by cases p <;> decide +kernel
theorem hy_lt {x y : Int} (hx : hy_R x) (hy : hy_R y) : Int32.ofInt x < Int32.ofInt y ↔ x < y := by
  rw [Int32.lt_iff_toInt_lt, hy_ti hx, hy_ti hy]
theorem hy_le {x y : Int} (hx : hy_R x) (hy : hy_R y) : Int32.ofInt x ≤ Int32.ofInt y ↔ x ≤ y := by
  rw [Int32.le_iff_toInt_le, hy_ti hx, hy_ti hy]
theorem hy_eq {x y : Int} (hx : hy_R x) (hy : hy_R y) : Int32.ofInt x = Int32.ofInt y ↔ x = y := by
  rw [← Int32.toInt_inj, hy_ti hx, hy_ti hy]
theorem hy_R0 : hy_R 0 := by decide +kernel
theorem hy_z32 : Int32.ofInt 0 = 0 := rfl
theorem hy_cl {x : Int} (hx : hy_R x) : (Int32.ofInt x).toNatClampNeg = x.toNat := by
  show (Int32.ofInt x).toInt.toNat = _
  rw [hy_ti hx]
theorem hy_in {z : Int} {n : Nat} (hz : hy_R z) (h : 0 ≤ z ∧ z < n) : vp_in (Int32.ofInt z) n := by
  rw [vp_in_iff, hy_ti hz]
  exact h
/-! the heap -/
theorem hy_mk_at (t : hy_T) (k : Nat) : (hy_mk t)[k]? = (hy_shape[k]?).map (fun s => hy_cell t (k + 2) s) := by
  simp [hy_mk, List.getElem?_mapIdx]
theorem hy_fld_s {r f : Nat} {o : Option Nat} (h : hy_fld r f = some o) : ∃ (k : Nat) (fr : List (Option Nat)), r = k + 2 ∧ hy_shape[k]? = some (.inr (f / 100, fr)) ∧ fr[f % 100]? = some o := by
  unfold hy_fld at h
  match r, h with
  | k + 2, h =>
    simp only [hy_sh] at h
    split at h
    · next q hq =>
      split at h
      · next hc =>
        obtain ⟨a, fr⟩ := q
        dsimp only at hc h
        subst hc
        exact ⟨k, fr, rfl, hq, h⟩
      · cases h
    · cases h
  | 0, h => cases h
  | 1, h => cases h
theorem hy_arr_s {r : Nat} {q : Nat × Nat} (h : hy_arr r = some q) : ∃ k : Nat, r = k + 2 ∧ hy_shape[k]? = some (.inl q) := by
  unfold hy_arr at h
  match r, h with
  | k + 2, h =>
    simp only [hy_sh] at h
    split at h
    · next q' hq => cases h; exact ⟨k, rfl, hq⟩
    · cases h
  | 0, h => cases h
  | 1, h => cases h
theorem hy_cls_s {r c : Nat} (h : hy_cls r = some c) : ∃ (k : Nat) (fr : List (Option Nat)), r = k + 2 ∧ hy_shape[k]? = some (.inr (c, fr)) := by
  unfold hy_cls at h
  match r, h with
  | k + 2, h =>
    simp only [hy_sh] at h
    split at h
    · next q' hq => cases h; exact ⟨k, q'.2, rfl, hq⟩
    · cases h
  | 0, h => cases h
  | 1, h => cases h
theorem hy_arr_len (t : hy_T) (r n : Nat) : ((List.range n).map (fun j => Int32.ofInt (t r j))).length = n := by simp
theorem hy_arr_get (t : hy_T) (r n : Nat) {j : Nat} (h : j < n) : ((List.range n).map (fun j => Int32.ofInt (t r j))).getD j 0 = Int32.ofInt (t r j) := by
  simp [List.getD_eq_getElem?_getD, h]
theorem hy_up_other {t : hy_T} {r j r' : Nat} {v : Int} (h : r' ≠ r) (s : hy_S) : hy_cell (hy_up t r j v) r' s = hy_cell t r' s := by
  have e : ∀ j', hy_up t r j v r' j' = t r' j' := fun j' => by simp [hy_up, h]
  cases s with
  | inl q => simp only [hy_cell, e]
  | inr q => simp only [hy_cell, e]
theorem hy_set {t : hy_T} {k j : Nat} {v : Int} {s : hy_S} {c : hx_C} (hs : hy_shape[k]? = some s) (hc : hy_cell (hy_up t (k + 2) j v) (k + 2) s = c) : (hy_mk t).set k c = hy_mk (hy_up t (k + 2) j v) := by
  apply List.ext_getElem?
  intro i
  rw [hy_mk_at, List.getElem?_set, hy_mk_at]
  by_cases hik : k = i
  · subst hik
    have hl : k < (hy_mk t).length := by simp [hy_mk]; exact (List.getElem?_eq_some_iff.mp hs).1
    simp [hl, hs, hc]
  · rw [if_neg hik]
    congr 1
    funext s'
    rw [hy_up_other (by omega)]
theorem hy_set_a {t : hy_T} {k j n ty : Nat} {v : Int} (hs : hy_shape[k]? = some (.inl (ty, n))) (hj : j < n) : (hy_mk t).set k (.inl (ty, ((List.range n).map (fun j => Int32.ofInt (t (k + 2) j))).set j (Int32.ofInt v))) = hy_mk (hy_up t (k + 2) j v) := by
  refine hy_set hs ?_
  simp only [hy_cell]
  congr 2
  apply List.ext_getElem?
  intro i
  rw [List.getElem?_set]
  by_cases hij : j = i
  · subst hij
    simp [hj, hy_up]
  · rw [if_neg hij, List.getElem?_map, List.getElem?_map]
    by_cases hin : i < n
    · rw [List.getElem?_range hin]
      simp [hy_up, Ne.symm hij]
    · rw [List.getElem?_eq_none (by simp; omega)]
      rfl
theorem hy_set_f {t : hy_T} {k j ci : Nat} {v : Int} {fr : List (Option Nat)} (hs : hy_shape[k]? = some (.inr (ci, fr))) (hj : fr[j]? = some none) :
    (hy_mk t).set k (.inr (ci, (fr.mapIdx (fun j o => match o with | none => Value.int (Int32.ofInt (t (k + 2) j)) | some a => .ref a)).set j (.int (Int32.ofInt v)))) = hy_mk (hy_up t (k + 2) j v) := by
  refine hy_set hs ?_
  simp only [hy_cell]
  congr 2
  apply List.ext_getElem?
  intro i
  rw [List.getElem?_set]
  by_cases hij : j = i
  · subst hij
    obtain ⟨hl, he⟩ := List.getElem?_eq_some_iff.mp hj
    simp [hy_up, hl, he]
  · rw [if_neg hij]
    simp only [List.getElem?_mapIdx]
    congr 1
    funext o
    simp [hy_up, Ne.symm hij]
theorem hy_up_R {t : hy_T} {r j : Nat} {v : Int} (h : ∀ k j, hy_R (t k j)) (hv : hy_R v) : ∀ k j', hy_R (hy_up t r j v k j') := by
  intro k j'
  unfold hy_up
  split
  · exact hv
  · exact h k j'
theorem hy_set_ok {loc : List hy_V} {k : Nat} {v : hy_V} (h : ∀ w ∈ loc, hy_ok w) (hv : hy_ok v) : ∀ w ∈ loc.set k v, hy_ok w := by
  intro w hw
  rcases List.mem_or_eq_of_mem_set hw with h1 | h1
  · exact h w h1
  · rw [h1]; exact hv
theorem hy_cons {v : hy_V} {st : List hy_V} (hv : hy_ok v) (h : ∀ w ∈ st, hy_ok w) : ∀ w ∈ v :: st, hy_ok w := List.forall_mem_cons.mpr ⟨hv, h⟩
theorem hy_vv (v : hy_V) : hx_v (hy_v v) = true := by
  unfold hy_v
  split <;> rfl
theorem hy_vall (st : List hy_V) : (st.map hy_v).all hx_v = true := by
  rw [List.all_eq_true]
  intro x hx
  obtain ⟨v, -, rfl⟩ := List.mem_map.mp hx
  exact hy_vv v
theorem hy_map_set {loc : List hy_V} {k : Nat} {v : hy_V} : (loc.map hy_v).set k (hy_v v) = (loc.set k v).map hy_v := by rw [List.map_set]
section HYR
variable {sc : List Int32} {u : hx_M} {d i : Nat} {loc st : List hy_V} {t : hy_T} {Q : Option Int → hy_T → Prop}
theorem hy_rng {x : Int} (k : Nat) (hl : loc[k]? = some (.inl x)) (kk : hy_R x → hy_W sc u d i loc st t Q) : hy_W sc u d i loc st t Q := fun h1 h2 h3 => kk (h1 (.inl x) (List.mem_of_getElem? hl)) h1 h2 h3
theorem hy_rngs {x : Int} (kk : hy_R x → hy_W sc u d i loc (.inl x :: st) t Q) : hy_W sc u d i loc (.inl x :: st) t Q := fun h1 h2 h3 => kk (h2 (.inl x) List.mem_cons_self) h1 h2 h3
theorem hy_rngt (kk : (∀ k j, hy_R (t k j)) → hy_W sc u d i loc st t Q) : hy_W sc u d i loc st t Q := fun h1 h2 h3 => kk h3 h1 h2 h3
theorem hy_iload {k : Nat} {x : Int} (hop : (hx_ops u)[i]? = some (.iload k)) (hl : loc[k]? = some (.inl x)) (kk : hy_W sc u d (i + 1) loc (.inl x :: st) t Q) : hy_W sc u d i loc st t Q := fun h1 h2 h3 =>
  hx_iload hop (x := Int32.ofInt x) (by rw [List.getElem?_map, hl]; rfl) (kk h1 (hy_cons (h1 _ (List.mem_of_getElem? hl)) h2) h3)
theorem hy_aload {k r : Nat} (hop : (hx_ops u)[i]? = some (.aload k)) (hl : loc[k]? = some (.inr (some r))) (kk : hy_W sc u d (i + 1) loc (.inr (some r) :: st) t Q) : hy_W sc u d i loc st t Q := fun h1 h2 h3 =>
  hx_aload hop (a := r) (by rw [List.getElem?_map, hl]; rfl) (kk h1 (hy_cons trivial h2) h3)
theorem hy_istore {k : Nat} {x : Int} (hop : (hx_ops u)[i]? = some (.istore k)) (kk : hy_W sc u d (i + 1) (loc.set k (.inl x)) st t Q) : hy_W sc u d i loc (.inl x :: st) t Q := fun h1 h2 h3 =>
  hx_istore hop (x := Int32.ofInt x) (by have h := kk (hy_set_ok h1 (h2 _ List.mem_cons_self)) (fun w hw => h2 w (List.mem_cons_of_mem _ hw)) h3; rw [← hy_map_set] at h; exact h)
theorem hy_astore {k r : Nat} (hop : (hx_ops u)[i]? = some (.astore k)) (kk : hy_W sc u d (i + 1) (loc.set k (.inr (some r))) st t Q) : hy_W sc u d i loc (.inr (some r) :: st) t Q := fun h1 h2 h3 =>
  hx_astore hop (a := r) (by have h := kk (hy_set_ok h1 trivial) (fun w hw => h2 w (List.mem_cons_of_mem _ hw)) h3; rw [← hy_map_set] at h; exact h)
theorem hy_iinc {k : Nat} {n x : Int} (hop : (hx_ops u)[i]? = some (.iinc k n)) (hl : loc[k]? = some (.inl x)) (hr : hy_R (x + n)) (kk : hy_W sc u d (i + 1) (loc.set k (.inl (x + n))) st t Q) : hy_W sc u d i loc st t Q := fun h1 h2 h3 =>
  hx_iinc hop (x := Int32.ofInt x) (by rw [List.getElem?_map, hl]; rfl) (by have h := kk (hy_set_ok h1 hr) h2 h3; rw [← hy_map_set] at h; rw [← Int32.ofInt_add]; exact h)
theorem hy_const {n : Int} (hop : (hx_ops u)[i]? = some (.bipush n)) (hn : hy_R n) (kk : hy_W sc u d (i + 1) loc (.inl n :: st) t Q) : hy_W sc u d i loc st t Q := fun h1 h2 h3 =>
  hx_const hop (kk h1 (hy_cons hn h2) h3)
theorem hy_two {x y : Int} (h2 : ∀ v ∈ (.inl y :: .inl x :: st : List hy_V), hy_ok v) : hy_R x ∧ hy_R y ∧ ∀ v ∈ st, hy_ok v :=
  ⟨h2 (.inl x) (List.mem_cons_of_mem _ List.mem_cons_self), h2 (.inl y) List.mem_cons_self, fun w hw => h2 w (List.mem_cons_of_mem _ (List.mem_cons_of_mem _ hw))⟩
theorem hy_one {v : hy_V} (h2 : ∀ w ∈ (v :: st : List hy_V), hy_ok w) : hy_ok v ∧ ∀ w ∈ st, hy_ok w := ⟨h2 v List.mem_cons_self, fun w hw => h2 w (List.mem_cons_of_mem _ hw)⟩
theorem hy_iadd {x y : Int} (hop : (hx_ops u)[i]? = some .iadd) (hr : hy_R (x + y)) (kk : hy_W sc u d (i + 1) loc (.inl (x + y) :: st) t Q) : hy_W sc u d i loc (.inl y :: .inl x :: st) t Q := fun h1 h2 h3 =>
  hx_iadd hop (by have h := kk h1 (hy_cons hr (hy_two h2).2.2) h3; rw [← Int32.ofInt_add]; exact h)
theorem hy_iaddw {x y : Int} (hop : (hx_ops u)[i]? = some .iadd) (kk : hy_W sc u d (i + 1) loc (.inl (Int32.ofInt (x + y)).toInt :: st) t Q) : hy_W sc u d i loc (.inl y :: .inl x :: st) t Q := fun h1 h2 h3 =>
  hx_iadd hop (by have h := kk h1 (hy_cons (hy_Ri _) (hy_two h2).2.2) h3; rw [← Int32.ofInt_add]; simp only [List.map_cons, hy_v, hy_oi] at h ⊢; exact h)
theorem hy_isub {x y : Int} (hop : (hx_ops u)[i]? = some .isub) (hr : hy_R (x - y)) (kk : hy_W sc u d (i + 1) loc (.inl (x - y) :: st) t Q) : hy_W sc u d i loc (.inl y :: .inl x :: st) t Q := fun h1 h2 h3 =>
  hx_isub hop (by have h := kk h1 (hy_cons hr (hy_two h2).2.2) h3; rw [← Int32.ofInt_sub]; exact h)
theorem hy_isubw {x y : Int} (hop : (hx_ops u)[i]? = some .isub) (kk : hy_W sc u d (i + 1) loc (.inl (Int32.ofInt (x - y)).toInt :: st) t Q) : hy_W sc u d i loc (.inl y :: .inl x :: st) t Q := fun h1 h2 h3 =>
  hx_isub hop (by have h := kk h1 (hy_cons (hy_Ri _) (hy_two h2).2.2) h3; rw [← Int32.ofInt_sub]; simp only [List.map_cons, hy_v, hy_oi] at h ⊢; exact h)
def hz_iand (x y : Int) : Int := (Int32.ofInt x &&& Int32.ofInt y).toInt
theorem hy_imul {x y : Int} (hop : (hx_ops u)[i]? = some .imul) (hr : hy_R (x * y)) (kk : hy_W sc u d (i + 1) loc (.inl (x * y) :: st) t Q) : hy_W sc u d i loc (.inl y :: .inl x :: st) t Q := fun h1 h2 h3 =>
  hx_imul hop (by have h := kk h1 (hy_cons hr (hy_two h2).2.2) h3; rw [← Int32.ofInt_mul]; exact h)
theorem hy_imulw {x y : Int} (hop : (hx_ops u)[i]? = some .imul) (kk : hy_W sc u d (i + 1) loc (.inl (Int32.ofInt (x * y)).toInt :: st) t Q) : hy_W sc u d i loc (.inl y :: .inl x :: st) t Q := fun h1 h2 h3 =>
  hx_imul hop (by have h := kk h1 (hy_cons (hy_Ri _) (hy_two h2).2.2) h3; rw [← Int32.ofInt_mul]; simp only [List.map_cons, hy_v, hy_oi] at h ⊢; exact h)
def hz_ior (x y : Int) : Int := (Int32.ofInt x ||| Int32.ofInt y).toInt
theorem hy_iand {x y : Int} (hop : (hx_ops u)[i]? = some .iand) (kk : hy_W sc u d (i + 1) loc (.inl (hz_iand x y) :: st) t Q) : hy_W sc u d i loc (.inl y :: .inl x :: st) t Q := fun h1 h2 h3 =>
  hx_iand hop (by have h := kk h1 (hy_cons (hy_Ri _) (hy_two h2).2.2) h3; simp only [List.map_cons, hy_v, hz_iand, hy_oi] at h ⊢; exact h)
def hz_ixor (x y : Int) : Int := (Int32.ofInt x ^^^ Int32.ofInt y).toInt
theorem hy_ior {x y : Int} (hop : (hx_ops u)[i]? = some .ior) (kk : hy_W sc u d (i + 1) loc (.inl (hz_ior x y) :: st) t Q) : hy_W sc u d i loc (.inl y :: .inl x :: st) t Q := fun h1 h2 h3 =>
  hx_ior hop (by have h := kk h1 (hy_cons (hy_Ri _) (hy_two h2).2.2) h3; simp only [List.map_cons, hy_v, hz_ior, hy_oi] at h ⊢; exact h)
def hz_ishl (x y : Int) : Int := (Int32.ofInt x <<< (Int32.ofInt y &&& 31)).toInt
theorem hy_ixor {x y : Int} (hop : (hx_ops u)[i]? = some .ixor) (kk : hy_W sc u d (i + 1) loc (.inl (hz_ixor x y) :: st) t Q) : hy_W sc u d i loc (.inl y :: .inl x :: st) t Q := fun h1 h2 h3 =>
  hx_ixor hop (by have h := kk h1 (hy_cons (hy_Ri _) (hy_two h2).2.2) h3; simp only [List.map_cons, hy_v, hz_ixor, hy_oi] at h ⊢; exact h)
def hz_ishr (x y : Int) : Int := (Int32.ofInt x >>> (Int32.ofInt y &&& 31)).toInt
theorem hy_ishl {x y : Int} (hop : (hx_ops u)[i]? = some .ishl) (kk : hy_W sc u d (i + 1) loc (.inl (hz_ishl x y) :: st) t Q) : hy_W sc u d i loc (.inl y :: .inl x :: st) t Q := fun h1 h2 h3 =>
  hx_ishl hop (by have h := kk h1 (hy_cons (hy_Ri _) (hy_two h2).2.2) h3; simp only [List.map_cons, hy_v, hz_ishl, hy_oi] at h ⊢; exact h)
def hz_iushr (x y : Int) : Int := (((Int32.ofInt x).toUInt32 >>> ((Int32.ofInt y).toUInt32 &&& Int32.toUInt32 31)).toInt32).toInt
theorem hy_ishr {x y : Int} (hop : (hx_ops u)[i]? = some .ishr) (kk : hy_W sc u d (i + 1) loc (.inl (hz_ishr x y) :: st) t Q) : hy_W sc u d i loc (.inl y :: .inl x :: st) t Q := fun h1 h2 h3 =>
  hx_ishr hop (by have h := kk h1 (hy_cons (hy_Ri _) (hy_two h2).2.2) h3; simp only [List.map_cons, hy_v, hz_ishr, hy_oi] at h ⊢; exact h)
theorem hy_iushr {x y : Int} (hop : (hx_ops u)[i]? = some .iushr) (kk : hy_W sc u d (i + 1) loc (.inl (hz_iushr x y) :: st) t Q) : hy_W sc u d i loc (.inl y :: .inl x :: st) t Q := fun h1 h2 h3 =>
  hx_iushr hop (by have h := kk h1 (hy_cons (hy_Ri _) (hy_two h2).2.2) h3; simp only [List.map_cons, hy_v, hz_iushr, hy_oi] at h ⊢; exact h)
theorem hy_ne0 {y : Int} (hy : hy_R y) (h : y ≠ 0) : ¬ Int32.ofInt y = 0 := fun q => h ((hy_eq hy hy_R0).mp q)
theorem hy_div32 {x y : Int} (hx : hy_R x) (hy : hy_R y) (h0 : 0 ≤ x) (h1 : 0 < y) : Int32.ofInt x / Int32.ofInt y = Int32.ofInt (x / y) := by
  have hq : hy_R (x / y) := by
    have a1 : 0 ≤ x / y := Int.ediv_nonneg h0 (by omega)
    have a2 : x / y ≤ x := Int.ediv_le_self y h0
    unfold hy_R at *
    omega
  rw [← Int32.toInt_inj, Int32.toInt_div, hy_ti hx, hy_ti hy, hy_ti hq, Int.tdiv_eq_ediv_of_nonneg h0, Int.bmod_def]
  unfold hy_R at hq
  omega
theorem hy_idiv {x y : Int} (hop : (hx_ops u)[i]? = some .idiv) (h0 : 0 ≤ x) (hy0 : 0 < y) (kk : hy_W sc u d (i + 1) loc (.inl (x / y) :: st) t Q) : hy_W sc u d i loc (.inl y :: .inl x :: st) t Q := fun h1 h2 h3 => by
  obtain ⟨hx, hy, hs⟩ := hy_two h2
  have hq : hy_R (x / y) := by
    have a1 : 0 ≤ x / y := Int.ediv_nonneg h0 (by omega)
    have a2 : x / y ≤ x := Int.ediv_le_self y h0
    unfold hy_R at *
    omega
  refine hx_idiv hop (hy_ne0 hy (by omega)) ?_
  rw [hy_div32 hx hy h0 hy0]
  exact kk h1 (hy_cons hq hs) h3
theorem hy_irem {x y : Int} (hop : (hx_ops u)[i]? = some .irem) (h0 : 0 ≤ x) (hy0 : 0 < y) (kk : hy_W sc u d (i + 1) loc (.inl (x % y) :: st) t Q) : hy_W sc u d i loc (.inl y :: .inl x :: st) t Q := fun h1 h2 h3 => by
  obtain ⟨hx, hy, hs⟩ := hy_two h2
  have b1 := Int.emod_nonneg x (show y ≠ 0 by omega)
  have b2 := Int.emod_lt_of_pos x hy0
  have hq : hy_R (x % y) := by
    unfold hy_R at *
    omega
  refine hx_irem hop (hy_ne0 hy (by omega)) ?_
  rw [hy_div32 hx hy h0 hy0, ← Int32.ofInt_mul, ← Int32.ofInt_sub, show x - x / y * y = x % y by rw [Int.emod_def, Int.mul_comm]]
  exact kk h1 (hy_cons hq hs) h3
def hz_div (x y : Int) : Int := (Int32.ofInt x / Int32.ofInt y).toInt
def hz_rem (x y : Int) : Int := (Int32.ofInt x - Int32.ofInt x / Int32.ofInt y * Int32.ofInt y).toInt
theorem hy_idivw {x y : Int} (hop : (hx_ops u)[i]? = some .idiv) (hy0 : y ≠ 0) (kk : hy_W sc u d (i + 1) loc (.inl (hz_div x y) :: st) t Q) : hy_W sc u d i loc (.inl y :: .inl x :: st) t Q := fun h1 h2 h3 => by
  obtain ⟨hx, hy, hs⟩ := hy_two h2
  refine hx_idiv hop (hy_ne0 hy hy0) ?_
  have h := kk h1 (hy_cons (hy_Ri _) hs) h3
  simp only [List.map_cons, hy_v, hz_div, hy_oi] at h
  exact h
theorem hy_iremw {x y : Int} (hop : (hx_ops u)[i]? = some .irem) (hy0 : y ≠ 0) (kk : hy_W sc u d (i + 1) loc (.inl (hz_rem x y) :: st) t Q) : hy_W sc u d i loc (.inl y :: .inl x :: st) t Q := fun h1 h2 h3 => by
  obtain ⟨hx, hy, hs⟩ := hy_two h2
  refine hx_irem hop (hy_ne0 hy hy0) ?_
  have h := kk h1 (hy_cons (hy_Ri _) hs) h3
  simp only [List.map_cons, hy_v, hz_rem, hy_oi] at h
  exact h
theorem hy_ineg {x : Int} (hop : (hx_ops u)[i]? = some .ineg) (hr : hy_R (-x)) (kk : hy_W sc u d (i + 1) loc (.inl (-x) :: st) t Q) : hy_W sc u d i loc (.inl x :: st) t Q := fun h1 h2 h3 => by
  refine hx_ineg hop ?_
  rw [← Int32.ofInt_neg]
  exact kk h1 (hy_cons hr (hy_one h2).2) h3
def hz_i2b (x : Int) : Int := ((Int32.ofInt x).toInt8.toInt32).toInt
theorem hy_i2b {x : Int} (hop : (hx_ops u)[i]? = some .i2b) (kk : hy_W sc u d (i + 1) loc (.inl (hz_i2b x) :: st) t Q) : hy_W sc u d i loc (.inl x :: st) t Q := fun h1 h2 h3 => by
  refine hx_i2b hop ?_
  have h := kk h1 (hy_cons (hy_Ri _) (hy_one h2).2) h3
  simp only [List.map_cons, hy_v, hz_i2b, hy_oi] at h
  exact h
theorem hy_vcat (v : hy_V) : (hy_v v).category = 1 := hx_v_cat (hy_vv v)
theorem hy_dup {w : hy_V} (hop : (hx_ops u)[i]? = some .dup) (kk : hy_W sc u d (i + 1) loc (w :: w :: st) t Q) : hy_W sc u d i loc (w :: st) t Q := fun h1 h2 h3 =>
  hx_dup hop (hy_vcat w) (kk h1 (hy_cons (hy_one h2).1 h2) h3)
theorem hy_dup2 {w z : hy_V} (hop : (hx_ops u)[i]? = some .dup2) (kk : hy_W sc u d (i + 1) loc (w :: z :: w :: z :: st) t Q) : hy_W sc u d i loc (w :: z :: st) t Q := fun h1 h2 h3 =>
  hx_dup2 hop (hy_vcat w) (hy_vcat z) (kk h1 (hy_cons (hy_one h2).1 (hy_cons (hy_one (hy_one h2).2).1 h2)) h3)
theorem hy_pop {w : hy_V} (hop : (hx_ops u)[i]? = some .pop) (kk : hy_W sc u d (i + 1) loc st t Q) : hy_W sc u d i loc (w :: st) t Q := fun h1 h2 h3 =>
  hx_pop hop (hy_vcat w) (kk h1 (hy_one h2).2 h3)
theorem hy_goto {tt : Nat} (hop : (hx_ops u)[i]? = some (.goto (tt : Int))) (kk : hy_W sc u d tt loc st t Q) : hy_W sc u d i loc st t Q := fun h1 h2 h3 =>
  hx_goto hop (kk h1 h2 h3)
theorem hy_if_eq {x : Int} {tt : Nat} (hop : (hx_ops u)[i]? = some (.ifCond .eq (tt : Int))) (kt : x = 0 → hy_W sc u d tt loc st t Q) (kf : ¬ x = 0 → hy_W sc u d (i + 1) loc st t Q) : hy_W sc u d i loc (.inl x :: st) t Q := fun h1 h2 h3 => by
  obtain ⟨hx, hs⟩ := hy_one h2
  exact hx_if_eq hop (fun q => kt ((hy_eq hx hy_R0).mp q) h1 hs h3) (fun q => kf ((not_congr (hy_eq hx hy_R0)).mp q) h1 hs h3)
theorem hy_if_ne {x : Int} {tt : Nat} (hop : (hx_ops u)[i]? = some (.ifCond .ne (tt : Int))) (kt : ¬ x = 0 → hy_W sc u d tt loc st t Q) (kf : x = 0 → hy_W sc u d (i + 1) loc st t Q) : hy_W sc u d i loc (.inl x :: st) t Q := fun h1 h2 h3 => by
  obtain ⟨hx, hs⟩ := hy_one h2
  exact hx_if_ne hop (fun q => kt ((not_congr (hy_eq hx hy_R0)).mp q) h1 hs h3) (fun q => kf ((hy_eq hx hy_R0).mp q) h1 hs h3)
theorem hy_if_lt {x : Int} {tt : Nat} (hop : (hx_ops u)[i]? = some (.ifCond .lt (tt : Int))) (kt : x < 0 → hy_W sc u d tt loc st t Q) (kf : ¬ x < 0 → hy_W sc u d (i + 1) loc st t Q) : hy_W sc u d i loc (.inl x :: st) t Q := fun h1 h2 h3 => by
  obtain ⟨hx, hs⟩ := hy_one h2
  exact hx_if_lt hop (fun q => kt ((hy_lt hx hy_R0).mp q) h1 hs h3) (fun q => kf ((not_congr (hy_lt hx hy_R0)).mp q) h1 hs h3)
theorem hy_if_ge {x : Int} {tt : Nat} (hop : (hx_ops u)[i]? = some (.ifCond .ge (tt : Int))) (kt : 0 ≤ x → hy_W sc u d tt loc st t Q) (kf : ¬ 0 ≤ x → hy_W sc u d (i + 1) loc st t Q) : hy_W sc u d i loc (.inl x :: st) t Q := fun h1 h2 h3 => by
  obtain ⟨hx, hs⟩ := hy_one h2
  exact hx_if_ge hop (fun q => kt ((hy_le hy_R0 hx).mp q) h1 hs h3) (fun q => kf ((not_congr (hy_le hy_R0 hx)).mp q) h1 hs h3)
theorem hy_if_gt {x : Int} {tt : Nat} (hop : (hx_ops u)[i]? = some (.ifCond .gt (tt : Int))) (kt : 0 < x → hy_W sc u d tt loc st t Q) (kf : ¬ 0 < x → hy_W sc u d (i + 1) loc st t Q) : hy_W sc u d i loc (.inl x :: st) t Q := fun h1 h2 h3 => by
  obtain ⟨hx, hs⟩ := hy_one h2
  exact hx_if_gt hop (fun q => kt ((hy_lt hy_R0 hx).mp q) h1 hs h3) (fun q => kf ((not_congr (hy_lt hy_R0 hx)).mp q) h1 hs h3)
theorem hy_if_le {x : Int} {tt : Nat} (hop : (hx_ops u)[i]? = some (.ifCond .le (tt : Int))) (kt : x ≤ 0 → hy_W sc u d tt loc st t Q) (kf : ¬ x ≤ 0 → hy_W sc u d (i + 1) loc st t Q) : hy_W sc u d i loc (.inl x :: st) t Q := fun h1 h2 h3 => by
  obtain ⟨hx, hs⟩ := hy_one h2
  exact hx_if_le hop (fun q => kt ((hy_le hx hy_R0).mp q) h1 hs h3) (fun q => kf ((not_congr (hy_le hx hy_R0)).mp q) h1 hs h3)
theorem hy_ic_eq {x y : Int} {tt : Nat} (hop : (hx_ops u)[i]? = some (.if_icmp .eq (tt : Int))) (kt : x = y → hy_W sc u d tt loc st t Q) (kf : ¬ x = y → hy_W sc u d (i + 1) loc st t Q) : hy_W sc u d i loc (.inl y :: .inl x :: st) t Q := fun h1 h2 h3 => by
  obtain ⟨hx, hy, hs⟩ := hy_two h2
  exact hx_ic_eq hop (fun q => kt ((hy_eq hx hy).mp q) h1 hs h3) (fun q => kf ((not_congr (hy_eq hx hy)).mp q) h1 hs h3)
theorem hy_ic_ne {x y : Int} {tt : Nat} (hop : (hx_ops u)[i]? = some (.if_icmp .ne (tt : Int))) (kt : ¬ x = y → hy_W sc u d tt loc st t Q) (kf : x = y → hy_W sc u d (i + 1) loc st t Q) : hy_W sc u d i loc (.inl y :: .inl x :: st) t Q := fun h1 h2 h3 => by
  obtain ⟨hx, hy, hs⟩ := hy_two h2
  exact hx_ic_ne hop (fun q => kt ((not_congr (hy_eq hx hy)).mp q) h1 hs h3) (fun q => kf ((hy_eq hx hy).mp q) h1 hs h3)
theorem hy_ic_lt {x y : Int} {tt : Nat} (hop : (hx_ops u)[i]? = some (.if_icmp .lt (tt : Int))) (kt : x < y → hy_W sc u d tt loc st t Q) (kf : ¬ x < y → hy_W sc u d (i + 1) loc st t Q) : hy_W sc u d i loc (.inl y :: .inl x :: st) t Q := fun h1 h2 h3 => by
  obtain ⟨hx, hy, hs⟩ := hy_two h2
  exact hx_ic_lt hop (fun q => kt ((hy_lt hx hy).mp q) h1 hs h3) (fun q => kf ((not_congr (hy_lt hx hy)).mp q) h1 hs h3)
theorem hy_ic_ge {x y : Int} {tt : Nat} (hop : (hx_ops u)[i]? = some (.if_icmp .ge (tt : Int))) (kt : y ≤ x → hy_W sc u d tt loc st t Q) (kf : ¬ y ≤ x → hy_W sc u d (i + 1) loc st t Q) : hy_W sc u d i loc (.inl y :: .inl x :: st) t Q := fun h1 h2 h3 => by
  obtain ⟨hx, hy, hs⟩ := hy_two h2
  exact hx_ic_ge hop (fun q => kt ((hy_le hy hx).mp q) h1 hs h3) (fun q => kf ((not_congr (hy_le hy hx)).mp q) h1 hs h3)
theorem hy_ic_gt {x y : Int} {tt : Nat} (hop : (hx_ops u)[i]? = some (.if_icmp .gt (tt : Int))) (kt : y < x → hy_W sc u d tt loc st t Q) (kf : ¬ y < x → hy_W sc u d (i + 1) loc st t Q) : hy_W sc u d i loc (.inl y :: .inl x :: st) t Q := fun h1 h2 h3 => by
  obtain ⟨hx, hy, hs⟩ := hy_two h2
  exact hx_ic_gt hop (fun q => kt ((hy_lt hy hx).mp q) h1 hs h3) (fun q => kf ((not_congr (hy_lt hy hx)).mp q) h1 hs h3)
theorem hy_ic_le {x y : Int} {tt : Nat} (hop : (hx_ops u)[i]? = some (.if_icmp .le (tt : Int))) (kt : x ≤ y → hy_W sc u d tt loc st t Q) (kf : ¬ x ≤ y → hy_W sc u d (i + 1) loc st t Q) : hy_W sc u d i loc (.inl y :: .inl x :: st) t Q := fun h1 h2 h3 => by
  obtain ⟨hx, hy, hs⟩ := hy_two h2
  exact hx_ic_le hop (fun q => kt ((hy_le hx hy).mp q) h1 hs h3) (fun q => kf ((not_congr (hy_le hx hy)).mp q) h1 hs h3)
theorem hy_b_eq {p : Bool} : hy_b p = 0 ↔ p = false := by cases p <;> simp [hy_b]
theorem hy_b_ne {p : Bool} : ¬ hy_b p = 0 ↔ p = true := by cases p <;> simp [hy_b]
theorem hy_ib_eq {p : Bool} {tt : Nat} (hop : (hx_ops u)[i]? = some (.ifCond .eq (tt : Int))) (kt : p = false → hy_W sc u d tt loc st t Q) (kf : p = true → hy_W sc u d (i + 1) loc st t Q) : hy_W sc u d i loc (.inl (hy_b p) :: st) t Q :=
  hy_if_eq hop (fun q => kt (hy_b_eq.mp q)) (fun q => kf (hy_b_ne.mp q))
theorem hy_ib_ne {p : Bool} {tt : Nat} (hop : (hx_ops u)[i]? = some (.ifCond .ne (tt : Int))) (kt : p = true → hy_W sc u d tt loc st t Q) (kf : p = false → hy_W sc u d (i + 1) loc st t Q) : hy_W sc u d i loc (.inl (hy_b p) :: st) t Q :=
  hy_if_ne hop (fun q => kt (hy_b_ne.mp q)) (fun q => kf (hy_b_eq.mp q))
/-! fields and arrays -/
theorem hy_get {f r fk : Nat} (hop : (hx_ops u)[i]? = some (.getfield f)) (hs : hy_fld r f = some none) (hfk : f % 100 = fk) (kk : hy_W sc u d (i + 1) loc (.inl (t r fk) :: st) t Q) : hy_W sc u d i loc (.inr (some r) :: st) t Q := fun h1 h2 h3 => by
  subst hfk
  obtain ⟨k, fr, rfl, e1, e2⟩ := hy_fld_s hs
  refine hx_get hop (a := k) (w := .int (Int32.ofInt (t (k + 2) (f % 100)))) (by rw [hy_mk_at, e1]; rfl) rfl ?_ (kk h1 (hy_cons (h3 _ _) (hy_one h2).2) h3)
  rw [List.getElem?_mapIdx, e2]
  rfl
theorem hy_getr {f r a : Nat} (hop : (hx_ops u)[i]? = some (.getfield f)) (hs : hy_fld r f = some (some a)) (kk : hy_W sc u d (i + 1) loc (.inr (some a) :: st) t Q) : hy_W sc u d i loc (.inr (some r) :: st) t Q := fun h1 h2 h3 => by
  obtain ⟨k, fr, rfl, e1, e2⟩ := hy_fld_s hs
  refine hx_get hop (a := k) (w := .ref a) (by rw [hy_mk_at, e1]; rfl) rfl ?_ (kk h1 (hy_cons trivial (hy_one h2).2) h3)
  rw [List.getElem?_mapIdx, e2]
  rfl
theorem hy_puts {f r : Nat} {x : Int} {ty : FieldType} (hop : (hx_ops u)[i]? = some (.putfield f)) (hs : hy_fld r f = some none) (hd : (hx_cl[f / 100]?).bind (fun q => parseFieldDescriptor (q.2.1 (f % 100)).2.2.1) = some ty) (hn : narrow ty (.int (Int32.ofInt x)) = .int (Int32.ofInt x)) (hft : fits ty (.int (Int32.ofInt x)) = true) (kk : hy_W sc u d (i + 1) loc st (hy_up t r (f % 100) x) Q) : hy_W sc u d i loc (.inl x :: .inr (some r) :: st) t Q := fun h1 h2 h3 => by
  obtain ⟨k, fr, rfl, e1, e2⟩ := hy_fld_s hs
  have hl := (List.getElem?_eq_some_iff.mp e2).1
  refine hx_put hop (a := k) (w := .int (Int32.ofInt x)) (by rw [hy_mk_at, e1]; rfl) rfl (by rw [List.length_mapIdx]; exact hl) hd (fun _ _ _ => hn) (fun _ _ _ => hft) ?_
  rw [hy_set_f e1 e2]
  exact kk h1 (hy_one (hy_one h2).2).2 (hy_up_R h3 (hy_one h2).1)
theorem hy_put {f r fk : Nat} {x : Int} (hop : (hx_ops u)[i]? = some (.putfield f)) (hs : hy_fld r f = some none) (hfk : f % 100 = fk) (hd : (hx_cl[f / 100]?).bind (fun q => parseFieldDescriptor (q.2.1 (f % 100)).2.2.1) = some .int) (kk : hy_W sc u d (i + 1) loc st (hy_up t r fk x) Q) : hy_W sc u d i loc (.inl x :: .inr (some r) :: st) t Q := by
  subst hfk
  exact hy_puts hop hs hd rfl rfl kk
theorem hy_putz {f r fk : Nat} {x : Int} (hop : (hx_ops u)[i]? = some (.putfield f)) (hs : hy_fld r f = some none) (hfk : f % 100 = fk) (hd : (hx_cl[f / 100]?).bind (fun q => parseFieldDescriptor (q.2.1 (f % 100)).2.2.1) = some .boolean) (hx : x = 0 ∨ x = 1) (kk : hy_W sc u d (i + 1) loc st (hy_up t r fk x) Q) : hy_W sc u d i loc (.inl x :: .inr (some r) :: st) t Q := by
  subst hfk
  exact hy_puts hop hs hd (by rcases hx with rfl | rfl <;> rfl) (by rcases hx with rfl | rfl <;> rfl) kk
theorem hy_iald {z : Int} {r n k : Nat} (hop : (hx_ops u)[i]? = some .iaload) (ha : hy_arr r = some (0, n)) (hz : 0 ≤ z ∧ z < n) (hk : z.toNat = k) (kk : hy_W sc u d (i + 1) loc (.inl (t r k) :: st) t Q) : hy_W sc u d i loc (.inl z :: .inr (some r) :: st) t Q := fun h1 h2 h3 => by
  subst hk
  obtain ⟨k, rfl, e1⟩ := hy_arr_s ha
  obtain ⟨hzR, hs⟩ := hy_one h2
  refine hx_iald hop (a := k) (by rw [hy_mk_at, e1]; rfl) (by rw [hy_arr_len]; exact hy_in hzR hz) ?_
  rw [hy_cl hzR, hy_arr_get _ _ _ (by omega)]
  exact kk h1 (hy_cons (h3 _ _) (hy_one hs).2) h3
theorem hy_bald {z : Int} {r n ty k : Nat} (hop : (hx_ops u)[i]? = some .baload) (ha : hy_arr r = some (ty, n)) (hty : ty = 1 ∨ ty = 2) (hz : 0 ≤ z ∧ z < n) (hk : z.toNat = k) (kk : hy_W sc u d (i + 1) loc (.inl (t r k) :: st) t Q) : hy_W sc u d i loc (.inl z :: .inr (some r) :: st) t Q := fun h1 h2 h3 => by
  subst hk
  obtain ⟨k, rfl, e1⟩ := hy_arr_s ha
  obtain ⟨hzR, hs⟩ := hy_one h2
  refine hx_bald hop (a := k) (xs := (List.range n).map (fun j => Int32.ofInt (t (k + 2) j))) (by rw [hy_mk_at, e1]; rcases hty with rfl | rfl; exact Or.inl rfl; exact Or.inr rfl) (by rw [hy_arr_len]; exact hy_in hzR hz) ?_
  rw [hy_cl hzR, hy_arr_get _ _ _ (by omega)]
  exact kk h1 (hy_cons (h3 _ _) (hy_one hs).2) h3
theorem hy_alen {r n ty : Nat} (hop : (hx_ops u)[i]? = some .arraylength) (ha : hy_arr r = some (ty, n)) (hty : ty < 3) (hn : hy_R n) (kk : hy_W sc u d (i + 1) loc (.inl (n : Int) :: st) t Q) : hy_W sc u d i loc (.inr (some r) :: st) t Q := fun h1 h2 h3 => by
  obtain ⟨k, rfl, e1⟩ := hy_arr_s ha
  refine hx_alen hop (a := k) (t := ty) hty (by rw [hy_mk_at, e1]; rfl) ?_
  rw [hy_arr_len]
  exact kk h1 (hy_cons hn (hy_one h2).2) h3
theorem hy_iast {z x : Int} {r n k : Nat} (hop : (hx_ops u)[i]? = some .iastore) (ha : hy_arr r = some (0, n)) (hz : 0 ≤ z ∧ z < n) (hk : z.toNat = k) (kk : hy_W sc u d (i + 1) loc st (hy_up t r k x) Q) : hy_W sc u d i loc (.inl x :: .inl z :: .inr (some r) :: st) t Q := fun h1 h2 h3 => by
  subst hk
  obtain ⟨k, rfl, e1⟩ := hy_arr_s ha
  obtain ⟨hxR, hs⟩ := hy_one h2
  obtain ⟨hzR, hs⟩ := hy_one hs
  refine hx_iast hop (a := k) (x := Int32.ofInt x) (by rw [hy_mk_at, e1]; rfl) (by rw [hy_arr_len]; exact hy_in hzR hz) ?_
  rw [hy_cl hzR, hy_set_a e1 (by omega)]
  exact kk h1 (hy_one hs).2 (hy_up_R h3 hxR)
theorem hy_bast {z x : Int} {r n k : Nat} (hop : (hx_ops u)[i]? = some .bastore) (ha : hy_arr r = some (1, n)) (hz : 0 ≤ z ∧ z < n) (hk : z.toNat = k) (hx8 : -128 ≤ x ∧ x ≤ 127) (kk : hy_W sc u d (i + 1) loc st (hy_up t r k x) Q) : hy_W sc u d i loc (.inl x :: .inl z :: .inr (some r) :: st) t Q := fun h1 h2 h3 => by
  subst hk
  obtain ⟨k, rfl, e1⟩ := hy_arr_s ha
  obtain ⟨hxR, hs⟩ := hy_one h2
  obtain ⟨hzR, hs⟩ := hy_one hs
  refine hx_bast hop (a := k) (x := Int32.ofInt x) (by rw [hy_mk_at, e1]; rfl) ?_ (by rw [hy_arr_len]; exact hy_in hzR hz) ?_
  · rw [vp_nar_byte, ← Int32.toInt_inj]
    simp only [Int8.toInt_toInt32, Int32.toInt_toInt8, hy_ti hxR]
    rw [Int.bmod_def]
    omega
  · rw [hy_cl hzR, hy_set_a e1 (by omega)]
    exact kk h1 (hy_one hs).2 (hy_up_R h3 hxR)
theorem hy_zast {z x : Int} {r n k : Nat} (hop : (hx_ops u)[i]? = some .bastore) (ha : hy_arr r = some (2, n)) (hz : 0 ≤ z ∧ z < n) (hk : z.toNat = k) (hx8 : x = 0 ∨ x = 1) (kk : hy_W sc u d (i + 1) loc st (hy_up t r k x) Q) : hy_W sc u d i loc (.inl x :: .inl z :: .inr (some r) :: st) t Q := fun h1 h2 h3 => by
  subst hk
  obtain ⟨k, rfl, e1⟩ := hy_arr_s ha
  obtain ⟨hxR, hs⟩ := hy_one h2
  obtain ⟨hzR, hs⟩ := hy_one hs
  refine hx_zast hop (a := k) (x := Int32.ofInt x) (by rw [hy_mk_at, e1]; rfl) (by rcases hx8 with rfl | rfl; exact Or.inl rfl; exact Or.inr rfl) (by rw [hy_arr_len]; exact hy_in hzR hz) ?_
  rw [hy_cl hzR, hy_set_a e1 (by omega)]
  exact kk h1 (hy_one hs).2 (hy_up_R h3 hxR)
theorem hy_gets {n : Nat} (hop : (hx_ops u)[i]? = some (.getstatic n)) (kk : hy_W sc u d (i + 1) loc (.inr (some 1) :: st) t Q) : hy_W sc u d i loc st t Q := fun h1 h2 h3 =>
  hx_gets hop (kk h1 (hy_cons trivial h2) h3)
theorem hy_alen_o (hop : (hx_ops u)[i]? = some .arraylength) (kk : hy_W sc u d (i + 1) loc (.inl 6 :: st) t Q) : hy_W sc u d i loc (.inr (some 1) :: st) t Q := fun h1 h2 h3 =>
  hx_alen_o hop (kk h1 (hy_cons (by decide +kernel : hy_R 6) (hy_one h2).2) h3)
theorem hy_iald_o {z : Int} (hop : (hx_ops u)[i]? = some .iaload) (hz : 0 ≤ z ∧ z < 6) (kk : hy_W sc u d (i + 1) loc (.inl ([1, 1, 2, 6, 24, 120].getD z.toNat 0) :: st) t Q) : hy_W sc u d i loc (.inl z :: .inr (some 1) :: st) t Q := fun h1 h2 h3 => by
  obtain ⟨hzR, hs⟩ := hy_one h2
  refine hx_iald_o hop (hy_in hzR hz) ?_
  have hg : ∀ n : Nat, n < 6 → hx_ors.getD n 0 = Int32.ofInt ([1, 1, 2, 6, 24, 120].getD n 0) ∧ hy_R ([1, 1, 2, 6, 24, 120].getD n 0) := by decide +kernel
  have hz6 : z.toNat < 6 := by omega
  rw [hy_cl hzR, (hg _ hz6).1]
  exact kk h1 (hy_cons (hg _ hz6).2 (hy_one hs).2) h3
/-! Math, copies, switches, ends -/
theorem hy_min {x y : Int} (hop : (hx_ops u)[i]? = some (.invokestatic 9991)) (hl : st.length ≤ 8) (kk : hy_W sc u d (i + 1) loc (.inl (if y < x then y else x) :: st) t Q) : hy_W sc u d i loc (.inl y :: .inl x :: st) t Q := fun h1 h2 h3 => by
  obtain ⟨hx, hy, hs⟩ := hy_two h2
  refine hx_min hop (hy_vall st) (by rw [List.length_map]; exact hl) ?_
  have h := kk h1 (hy_cons (show hy_R (if y < x then y else x) by split <;> assumption) hs) h3
  simp only [hy_lt hy hx]
  split at h <;> next q => simp only [q, if_true, if_false] <;> exact h
theorem hy_max {x y : Int} (hop : (hx_ops u)[i]? = some (.invokestatic 9992)) (hl : st.length ≤ 8) (kk : hy_W sc u d (i + 1) loc (.inl (if x < y then y else x) :: st) t Q) : hy_W sc u d i loc (.inl y :: .inl x :: st) t Q := fun h1 h2 h3 => by
  obtain ⟨hx, hy, hs⟩ := hy_two h2
  refine hx_max hop (hy_vall st) (by rw [List.length_map]; exact hl) ?_
  have h := kk h1 (hy_cons (show hy_R (if x < y then y else x) by split <;> assumption) hs) h3
  simp only [hy_lt hx hy]
  split at h <;> next q => simp only [q, if_true, if_false] <;> exact h
theorem hy_abs {x : Int} (hop : (hx_ops u)[i]? = some (.invokestatic 9993)) (hl : st.length ≤ 8) (hm : -2147483648 < x) (kk : hy_W sc u d (i + 1) loc (.inl (if 0 ≤ x then x else -x) :: st) t Q) : hy_W sc u d i loc (.inl x :: st) t Q := fun h1 h2 h3 => by
  obtain ⟨hx, hs⟩ := hy_one h2
  have hx : hy_R x := hx
  refine hx_abs hop (hy_vall st) (by rw [List.length_map]; exact hl) ?_
  have h := kk h1 (hy_cons (show hy_R (if 0 ≤ x then x else -x) by unfold hy_R at *; split <;> omega) hs) h3
  have e : (0 : Int32) ≤ Int32.ofInt x ↔ 0 ≤ x := hy_le hy_R0 hx
  simp only [e]
  split at h
  · next q => simp only [q, if_true]; exact h
  · next q => simp only [q, if_false]; rw [show (0 : Int32) - Int32.ofInt x = Int32.ofInt (-x) by rw [Int32.ofInt_neg]; simp]; exact h
theorem hy_ireturn {x : Int} (hop : (hx_ops u)[i]? = some .ireturn) (hr : hx_ret u = some .int) (hQ : Q (some x) t) : hy_W sc u d i loc [.inl x] t Q := fun _ h2 h3 =>
  hx_ireturn hop hr rfl ⟨some x, t, rfl, rfl, h3, fun y hy => by cases hy; exact (hy_one h2).1, hQ⟩
theorem hy_zreturn {x : Int} (hop : (hx_ops u)[i]? = some .ireturn) (hr : hx_ret u = some .boolean) (hx : x = 0 ∨ x = 1) (hQ : Q (some x) t) : hy_W sc u d i loc [.inl x] t Q := fun _ h2 h3 =>
  hx_ireturn hop hr (by rcases hx with rfl | rfl <;> rfl) ⟨some x, t, rfl, rfl, h3, fun y hy => by cases hy; exact (hy_one h2).1, hQ⟩
theorem hy_return (hop : (hx_ops u)[i]? = some .return_) (hr : hx_ret u = none) (hQ : Q none t) : hy_W sc u d i loc [] t Q := fun _ _ h3 =>
  hx_return hop hr ⟨none, t, rfl, rfl, h3, fun y hy => (by cases hy), hQ⟩
theorem hy_tsw {dd lo hi : Int} {offs : Array Int} {x : Int} {tt : Nat} (hop : (hx_ops u)[i]? = some (.tableswitch dd lo hi offs)) (ht : (if x < lo ∨ hi < x then some dd else offs.toList[(x - lo).toNat]?) = some (tt : Int)) (kk : hy_W sc u d tt loc st t Q) : hy_W sc u d i loc (.inl x :: st) t Q := fun h1 h2 h3 =>
  hx_tsw hop (by rw [hy_ti (hy_one h2).1]; exact ht) (kk h1 (hy_one h2).2 h3)
theorem hy_lsw {dd : Int} {ps : Array (Int × Int)} {x : Int} {tt : Nat} (hop : (hx_ops u)[i]? = some (.lookupswitch dd ps)) (ht : hx_look dd ps.toList x = (tt : Int)) (kk : hy_W sc u d tt loc st t Q) : hy_W sc u d i loc (.inl x :: st) t Q := fun h1 h2 h3 =>
  hx_lsw hop (by rw [hy_ti (hy_one h2).1]; exact ht) (kk h1 (hy_one h2).2 h3)
theorem hy_W.mono {Q' : Option Int → hy_T → Prop} (k : hy_W sc u d i loc st t Q') (hQ : ∀ r t', Q' r t' → Q r t') : hy_W sc u d i loc st t Q := fun h1 h2 h3 =>
  (k h1 h2 h3).mono (Nat.le_refl _) (Nat.le_refl _) (fun r h' ⟨r', t', a1, a2, a3, a4, a5⟩ => ⟨r', t', a1, a2, a3, a4, hQ r' t' a5⟩)
theorem hy_Ct.mono {as : List hy_V} {Q' : Option Int → hy_T → Prop} (k : hy_Ct sc u d as t Q') (hQ : ∀ r t', Q' r t' → Q r t') : hy_Ct sc u d as t Q := fun h1 h2 => by
  obtain ⟨c1, c2⟩ := k h1 h2
  refine ⟨c1, fun l b o base D cA => ?_⟩
  intro p e x1 x2 x3 s m args below x4 x5 x6 x7
  obtain ⟨n, oc, g1, g2, g3, ⟨⟨r, h', g4, ⟨r', t', a1, a2, a3, a4, a5⟩, g6⟩, g7⟩, g8⟩ := c2 l b o base D cA p e x1 x2 x3 s m args below x4 x5 x6 x7
  exact ⟨n, oc, g1, g2, g3, ⟨⟨r, h', g4, ⟨r', t', a1, a2, a3, a4, hQ r' t' a5⟩, g6⟩, g7⟩, g8⟩
/-- a contract out of a walk -/
theorem hy_mk_ct {as : List hy_V} (hok : hx_okO u = true) (hcal : hx_cal u) (hl : as.length ≤ hx_L u) (kk : hy_W sc u d 0 (as ++ List.replicate (hx_L u - as.length) (.inr none)) [] t Q) : hy_Ct sc u d as t Q := fun h1 h2 => by
  refine hx_mk hok hcal (by rw [List.length_map]; exact hl) (hy_vall as) ?_
  have h := kk (fun v hv => by
    rcases List.mem_append.mp hv with h | h
    · exact h1 v h
    · rw [List.eq_of_mem_replicate h]; exact trivial) (fun v hv => by cases hv) h2
  rw [List.map_append, List.map_replicate] at h
  rw [List.length_map]
  exact h
end HYR
section HYC
variable {sc : List Int32} {u v : hx_M} {d d' i j : Nat} {loc as rest : List hy_V} {t : hy_T} {Q Q' : Option Int → hy_T → Prop}
theorem hy_st_v (r : Option Int) : (hy_st r).map hy_v = hx_st (r.map Int32.ofInt) := by cases r <;> rfl
theorem hy_after {h' : hx_H} {r : Option Int32} (hq : hy_Q Q' r h') (h1 : ∀ v ∈ loc, hy_ok v) (h2 : ∀ v ∈ rest, hy_ok v) (kk : ∀ r t', Q' r t' → hy_W sc u d (i + 1) loc (hy_st r ++ rest) t' Q) : hx_W sc u d (i + 1) (loc.map hy_v) (hx_st r ++ rest.map hy_v) h' 0 0 (hy_Q Q) := by
  obtain ⟨r', t', e1, e2, a3, a4, a5⟩ := hq
  have hs : ∀ w ∈ hy_st r' ++ rest, hy_ok w := by
    intro w hw
    rcases List.mem_append.mp hw with h | h
    · cases r' with
      | none => cases h
      | some x => rw [List.mem_singleton.mp h]; exact a4 x rfl
    · exact h2 w h
  have h := kk r' t' a5 h1 hs a3
  rw [List.map_append, hy_st_v] at h
  rw [e1, e2]
  exact h
theorem hy_callV {r ci : Nat} {q : vw_C} (hop : (hx_ops u)[i]? = some (.invokevirtual j)) (hj : hx_ms[j]? = some v) (hd : d' < d) (hn : as.length = hx_na v) (hrl : rest.length ≤ 8) (hr : hy_cls r = some ci) (hcl : hx_cl[ci]? = some q) (hqy : q.1 = (hx_y v).cls)
    (hct : hy_Ct sc v d' (.inr (some r) :: as) t Q') (kk : ∀ r t', Q' r t' → hy_W sc u d (i + 1) loc (hy_st r ++ rest) t' Q) : hy_W sc u d i loc (as.reverse ++ .inr (some r) :: rest) t Q := fun h1 h2 h3 => by
  obtain ⟨k, fr, rfl, e1⟩ := hy_cls_s hr
  have ha : ∀ v ∈ as, hy_ok v := fun v hv => h2 v (List.mem_append_left _ (List.mem_reverse.mpr hv))
  have hs : ∀ v ∈ rest, hy_ok v := fun v hv => h2 v (List.mem_append_right _ (List.mem_cons_of_mem _ hv))
  have hc := hct (hy_cons trivial ha) h3
  rw [List.map_append, List.map_reverse, List.map_cons]
  exact hx_callV (kc := 0) (ks := 0) (kc' := 0) (ks' := 0) (a := k) hop hj hd (by rw [List.length_map]; exact hn) (hy_vall rest) (by rw [List.length_map]; exact hrl) (by rw [hy_mk_at, e1]; rfl) hcl hqy hc (fun r h' hq => hy_after hq h1 hs kk)
theorem hy_callS (hop : (hx_ops u)[i]? = some (.invokestatic j)) (hj9 : j < 9991) (hj : hx_ms[j]? = some v) (hd : d' < d) (hn : as.length = hx_na v) (hrl : rest.length ≤ 8)
    (hct : hy_Ct sc v d' as t Q') (kk : ∀ r t', Q' r t' → hy_W sc u d (i + 1) loc (hy_st r ++ rest) t' Q) : hy_W sc u d i loc (as.reverse ++ rest) t Q := fun h1 h2 h3 => by
  have ha : ∀ v ∈ as, hy_ok v := fun v hv => h2 v (List.mem_append_left _ (List.mem_reverse.mpr hv))
  have hs : ∀ v ∈ rest, hy_ok v := fun v hv => h2 v (List.mem_append_right _ hv)
  have hc := hct ha h3
  rw [List.map_append, List.map_reverse]
  exact hx_callS (kc := 0) (ks := 0) (kc' := 0) (ks' := 0) hop hj9 hj hd (by rw [List.length_map]; exact hn) (hy_vall rest) (by rw [List.length_map]; exact hrl) hc (fun r h' hq => hy_after hq h1 hs kk)
end HYC
/-- an exact end -/
def hy_e (x : Option Int) (t1 : hy_T) : Option Int → hy_T → Prop := fun r t' => r = x ∧ t' = t1
/-- what is not of X stays -/
def hy_F (X : Nat → Nat → Bool) (t t' : hy_T) : Prop := ∀ r j, X r j = false → t' r j = t r j
theorem hy_F.rf {X : Nat → Nat → Bool} {t : hy_T} : hy_F X t t := fun _ _ _ => rfl
theorem hy_F.tr {X Y Z : Nat → Nat → Bool} {a b c : hy_T} (h1 : hy_F X a b) (h2 : hy_F Y b c) (hX : ∀ r j, Z r j = false → X r j = false) (hY : ∀ r j, Z r j = false → Y r j = false) : hy_F Z a c := fun r j h => (h2 r j (hY r j h)).trans (h1 r j (hX r j h))
theorem hy_F.tr' {X : Nat → Nat → Bool} {a b c : hy_T} (h1 : hy_F X a b) (h2 : hy_F X b c) : hy_F X a c := fun r j h => (h2 r j h).trans (h1 r j h)
theorem hy_F.up {X : Nat → Nat → Bool} {t t' : hy_T} {r j : Nat} {v : Int} (h : hy_F X t t') (hx : X r j = true) : hy_F X t (hy_up t' r j v) := fun r' j' h' => by
  unfold hy_up
  split
  · next q => rw [q.1, q.2, hx] at h'; cases h'
  · exact h r' j' h'
theorem hy_F.w {X Y : Nat → Nat → Bool} {a b : hy_T} (h : hy_F X a b) (hX : ∀ r j, Y r j = false → X r j = false) : hy_F Y a b := fun r j q => h r j (hX r j q)
def hy_cp (t : hy_T) (r0 r1 n : Nat) : hy_T := fun r j => if r = r1 ∧ j < n then t r0 j else t r j
section HYD
variable {sc : List Int32} {u v : hx_M} {d d' i j : Nat} {loc rest st : List hy_V} {t t1 : hy_T} {Q Q' : Option Int → hy_T → Prop}
theorem hy_copy {r0 r1 n0 n1 : Nat} {n : Int} (hop : (hx_ops u)[i]? = some (.invokestatic 9999)) (hl : st.length ≤ 8) (ha0 : hy_arr r0 = some (0, n0)) (ha1 : hy_arr r1 = some (0, n1)) (hn : 0 ≤ n ∧ n ≤ n0 ∧ n ≤ n1) (kk : hy_W sc u d (i + 1) loc st (hy_cp t r0 r1 n.toNat) Q) : hy_W sc u d i loc (.inl n :: .inl 0 :: .inr (some r1) :: .inl 0 :: .inr (some r0) :: st) t Q := fun h1 h2 h3 => by
  obtain ⟨k0, rfl, e0⟩ := hy_arr_s ha0
  obtain ⟨k1, rfl, e1⟩ := hy_arr_s ha1
  obtain ⟨hnR, hs⟩ := hy_one h2
  obtain ⟨-, hs⟩ := hy_one hs
  obtain ⟨-, hs⟩ := hy_one hs
  obtain ⟨-, hs⟩ := hy_one hs
  obtain ⟨-, hs⟩ := hy_one hs
  have hcl := hy_cl (x := n) hnR
  refine hx_copy hop (a0 := k0) (a1 := k1) (hy_vall st) (by rw [List.length_map]; exact hl) (by rw [hy_mk_at, e0]; rfl) (by rw [hy_mk_at, e1]; rfl) (by intro q; have := (hy_lt hnR hy_R0).mp q; omega) (by rw [hy_arr_len, hcl]; omega) (by rw [hy_arr_len, hcl]; omega) ?_
  rw [hcl]
  have hh : (hy_mk t).set k1 (.inl (0, ((List.range n0).map (fun j => Int32.ofInt (t (k0 + 2) j))).take n.toNat ++ ((List.range n1).map (fun j => Int32.ofInt (t (k1 + 2) j))).drop n.toNat)) = hy_mk (hy_cp t (k0 + 2) (k1 + 2) n.toNat) := by
    apply List.ext_getElem?
    intro m
    rw [hy_mk_at, List.getElem?_set, hy_mk_at]
    by_cases hik : k1 = m
    · subst hik
      have hl2 : k1 < (hy_mk t).length := by simp [hy_mk]; exact (List.getElem?_eq_some_iff.mp e1).1
      simp only [hl2, if_true, e1, Option.map_some, hy_cell]
      congr 3
      apply List.ext_getElem?
      intro z
      by_cases hz : z < n.toNat
      · rw [List.getElem?_append_left (by simp; omega), List.getElem?_take_of_lt hz, List.getElem?_map, List.getElem?_map, List.getElem?_range (by omega), List.getElem?_range (by omega)]
        simp [hy_cp]
        rw [if_pos (by omega)]
      · rw [List.getElem?_append_right (by simp; omega), List.getElem?_drop, List.getElem?_map, List.getElem?_map]
        have e3 : n.toNat + (z - (((List.range n0).map (fun j => Int32.ofInt (t (k0 + 2) j))).take n.toNat).length) = z := by simp; omega
        rw [e3]
        by_cases hz1 : z < n1
        · rw [List.getElem?_range hz1]
          simp [hy_cp]
          rw [if_neg (by omega)]
        · rw [List.getElem?_eq_none (by simp; omega)]
          rfl
    · rw [if_neg hik]
      congr 1
      funext s'
      have e : ∀ j', hy_cp t (k0 + 2) (k1 + 2) n.toNat (m + 2) j' = t (m + 2) j' := fun j' => by
        unfold hy_cp
        rw [if_neg]
        omega
      cases s' with
      | inl q => simp only [hy_cell, e]
      | inr q => simp only [hy_cell, e]
  have h := kk h1 hs (fun k j => by unfold hy_cp; split <;> exact h3 _ _)
  rw [← hh] at h
  exact h
theorem hy_slen (hop : (hx_ops u)[i]? = some .arraylength) (hs : sc.length < 2147483648) (kk : hy_W sc u d (i + 1) loc (.inl (sc.length : Int) :: st) t Q) : hy_W sc u d i loc (.inr (some 0) :: st) t Q := fun h1 h2 h3 =>
  hx_alen_s hop (kk h1 (hy_cons (by show hy_R _; unfold hy_R; omega) (hy_one h2).2) h3)
theorem hy_sld {z : Int} (hop : (hx_ops u)[i]? = some .iaload) (hz : 0 ≤ z ∧ z < sc.length) (kk : hy_W sc u d (i + 1) loc (.inl (sc.getD z.toNat 0).toInt :: st) t Q) : hy_W sc u d i loc (.inl z :: .inr (some 0) :: st) t Q := fun h1 h2 h3 => by
  obtain ⟨hzR, hs⟩ := hy_one h2
  refine hx_iald_s hop (hy_in hzR hz) ?_
  have h := kk h1 (hy_cons (hy_Ri _) (hy_one hs).2) h3
  rw [hy_cl hzR]
  simp only [List.map_cons, hy_v, hy_oi] at h ⊢
  exact h
theorem hy_cV0 {r ci : Nat} {q : vw_C} (hop : (hx_ops u)[i]? = some (.invokevirtual j)) (hj : hx_ms[j]? = some v) (hd : d' < d) (hn : 0 = hx_na v) (hrl : rest.length ≤ 8) (hr : hy_cls r = some ci) (hcl : hx_cl[ci]? = some q) (hqy : q.1 = (hx_y v).cls) (hct : hy_Ct sc v d' [.inr (some r)] t Q') (kk : ∀ r t', Q' r t' → hy_W sc u d (i + 1) loc (hy_st r ++ rest) t' Q) : hy_W sc u d i loc (.inr (some r) :: rest) t Q :=
  hy_callV (as := []) hop hj hd hn hrl hr hcl hqy hct kk
theorem hy_cV0e {r ci : Nat} {q : vw_C} {x : Int} (hop : (hx_ops u)[i]? = some (.invokevirtual j)) (hj : hx_ms[j]? = some v) (hd : d' < d) (hn : 0 = hx_na v) (hrl : rest.length ≤ 8) (hr : hy_cls r = some ci) (hcl : hx_cl[ci]? = some q) (hqy : q.1 = (hx_y v).cls) (hct : hy_Ct sc v d' [.inr (some r)] t (hy_e (some x) t1)) (kk : hy_W sc u d (i + 1) loc (.inl x :: rest) t1 Q) : hy_W sc u d i loc (.inr (some r) :: rest) t Q :=
  hy_callV (as := []) hop hj hd hn hrl hr hcl hqy hct (fun r t' h => by obtain ⟨rfl, rfl⟩ := h; exact kk)
theorem hy_cV0v {r ci : Nat} {q : vw_C} (hop : (hx_ops u)[i]? = some (.invokevirtual j)) (hj : hx_ms[j]? = some v) (hd : d' < d) (hn : 0 = hx_na v) (hrl : rest.length ≤ 8) (hr : hy_cls r = some ci) (hcl : hx_cl[ci]? = some q) (hqy : q.1 = (hx_y v).cls) (hct : hy_Ct sc v d' [.inr (some r)] t (hy_e none t1)) (kk : hy_W sc u d (i + 1) loc rest t1 Q) : hy_W sc u d i loc (.inr (some r) :: rest) t Q :=
  hy_callV (as := []) hop hj hd hn hrl hr hcl hqy hct (fun r t' h => by obtain ⟨rfl, rfl⟩ := h; exact kk)
theorem hy_cS0 (hop : (hx_ops u)[i]? = some (.invokestatic j)) (hj9 : j < 9991) (hj : hx_ms[j]? = some v) (hd : d' < d) (hn : 0 = hx_na v) (hrl : rest.length ≤ 8) (hct : hy_Ct sc v d' [] t Q') (kk : ∀ r t', Q' r t' → hy_W sc u d (i + 1) loc (hy_st r ++ rest) t' Q) : hy_W sc u d i loc (rest) t Q :=
  hy_callS (as := []) hop hj9 hj hd hn hrl hct kk
theorem hy_cS0e {x : Int} (hop : (hx_ops u)[i]? = some (.invokestatic j)) (hj9 : j < 9991) (hj : hx_ms[j]? = some v) (hd : d' < d) (hn : 0 = hx_na v) (hrl : rest.length ≤ 8) (hct : hy_Ct sc v d' [] t (hy_e (some x) t1)) (kk : hy_W sc u d (i + 1) loc (.inl x :: rest) t1 Q) : hy_W sc u d i loc (rest) t Q :=
  hy_callS (as := []) hop hj9 hj hd hn hrl hct (fun r t' h => by obtain ⟨rfl, rfl⟩ := h; exact kk)
theorem hy_cV1 {a1 : hy_V} {r ci : Nat} {q : vw_C} (hop : (hx_ops u)[i]? = some (.invokevirtual j)) (hj : hx_ms[j]? = some v) (hd : d' < d) (hn : 1 = hx_na v) (hrl : rest.length ≤ 8) (hr : hy_cls r = some ci) (hcl : hx_cl[ci]? = some q) (hqy : q.1 = (hx_y v).cls) (hct : hy_Ct sc v d' [.inr (some r), a1] t Q') (kk : ∀ r t', Q' r t' → hy_W sc u d (i + 1) loc (hy_st r ++ rest) t' Q) : hy_W sc u d i loc (a1 :: .inr (some r) :: rest) t Q :=
  hy_callV (as := [a1]) hop hj hd hn hrl hr hcl hqy hct kk
theorem hy_cV1e {a1 : hy_V} {r ci : Nat} {q : vw_C} {x : Int} (hop : (hx_ops u)[i]? = some (.invokevirtual j)) (hj : hx_ms[j]? = some v) (hd : d' < d) (hn : 1 = hx_na v) (hrl : rest.length ≤ 8) (hr : hy_cls r = some ci) (hcl : hx_cl[ci]? = some q) (hqy : q.1 = (hx_y v).cls) (hct : hy_Ct sc v d' [.inr (some r), a1] t (hy_e (some x) t1)) (kk : hy_W sc u d (i + 1) loc (.inl x :: rest) t1 Q) : hy_W sc u d i loc (a1 :: .inr (some r) :: rest) t Q :=
  hy_callV (as := [a1]) hop hj hd hn hrl hr hcl hqy hct (fun r t' h => by obtain ⟨rfl, rfl⟩ := h; exact kk)
theorem hy_cV1v {a1 : hy_V} {r ci : Nat} {q : vw_C} (hop : (hx_ops u)[i]? = some (.invokevirtual j)) (hj : hx_ms[j]? = some v) (hd : d' < d) (hn : 1 = hx_na v) (hrl : rest.length ≤ 8) (hr : hy_cls r = some ci) (hcl : hx_cl[ci]? = some q) (hqy : q.1 = (hx_y v).cls) (hct : hy_Ct sc v d' [.inr (some r), a1] t (hy_e none t1)) (kk : hy_W sc u d (i + 1) loc rest t1 Q) : hy_W sc u d i loc (a1 :: .inr (some r) :: rest) t Q :=
  hy_callV (as := [a1]) hop hj hd hn hrl hr hcl hqy hct (fun r t' h => by obtain ⟨rfl, rfl⟩ := h; exact kk)
theorem hy_cS1 {a1 : hy_V} (hop : (hx_ops u)[i]? = some (.invokestatic j)) (hj9 : j < 9991) (hj : hx_ms[j]? = some v) (hd : d' < d) (hn : 1 = hx_na v) (hrl : rest.length ≤ 8) (hct : hy_Ct sc v d' [a1] t Q') (kk : ∀ r t', Q' r t' → hy_W sc u d (i + 1) loc (hy_st r ++ rest) t' Q) : hy_W sc u d i loc (a1 :: rest) t Q :=
  hy_callS (as := [a1]) hop hj9 hj hd hn hrl hct kk
theorem hy_cS1e {a1 : hy_V} {x : Int} (hop : (hx_ops u)[i]? = some (.invokestatic j)) (hj9 : j < 9991) (hj : hx_ms[j]? = some v) (hd : d' < d) (hn : 1 = hx_na v) (hrl : rest.length ≤ 8) (hct : hy_Ct sc v d' [a1] t (hy_e (some x) t1)) (kk : hy_W sc u d (i + 1) loc (.inl x :: rest) t1 Q) : hy_W sc u d i loc (a1 :: rest) t Q :=
  hy_callS (as := [a1]) hop hj9 hj hd hn hrl hct (fun r t' h => by obtain ⟨rfl, rfl⟩ := h; exact kk)
theorem hy_cV2 {a1 a2 : hy_V} {r ci : Nat} {q : vw_C} (hop : (hx_ops u)[i]? = some (.invokevirtual j)) (hj : hx_ms[j]? = some v) (hd : d' < d) (hn : 2 = hx_na v) (hrl : rest.length ≤ 8) (hr : hy_cls r = some ci) (hcl : hx_cl[ci]? = some q) (hqy : q.1 = (hx_y v).cls) (hct : hy_Ct sc v d' [.inr (some r), a1, a2] t Q') (kk : ∀ r t', Q' r t' → hy_W sc u d (i + 1) loc (hy_st r ++ rest) t' Q) : hy_W sc u d i loc (a2 :: a1 :: .inr (some r) :: rest) t Q :=
  hy_callV (as := [a1, a2]) hop hj hd hn hrl hr hcl hqy hct kk
theorem hy_cV2e {a1 a2 : hy_V} {r ci : Nat} {q : vw_C} {x : Int} (hop : (hx_ops u)[i]? = some (.invokevirtual j)) (hj : hx_ms[j]? = some v) (hd : d' < d) (hn : 2 = hx_na v) (hrl : rest.length ≤ 8) (hr : hy_cls r = some ci) (hcl : hx_cl[ci]? = some q) (hqy : q.1 = (hx_y v).cls) (hct : hy_Ct sc v d' [.inr (some r), a1, a2] t (hy_e (some x) t1)) (kk : hy_W sc u d (i + 1) loc (.inl x :: rest) t1 Q) : hy_W sc u d i loc (a2 :: a1 :: .inr (some r) :: rest) t Q :=
  hy_callV (as := [a1, a2]) hop hj hd hn hrl hr hcl hqy hct (fun r t' h => by obtain ⟨rfl, rfl⟩ := h; exact kk)
theorem hy_cV2v {a1 a2 : hy_V} {r ci : Nat} {q : vw_C} (hop : (hx_ops u)[i]? = some (.invokevirtual j)) (hj : hx_ms[j]? = some v) (hd : d' < d) (hn : 2 = hx_na v) (hrl : rest.length ≤ 8) (hr : hy_cls r = some ci) (hcl : hx_cl[ci]? = some q) (hqy : q.1 = (hx_y v).cls) (hct : hy_Ct sc v d' [.inr (some r), a1, a2] t (hy_e none t1)) (kk : hy_W sc u d (i + 1) loc rest t1 Q) : hy_W sc u d i loc (a2 :: a1 :: .inr (some r) :: rest) t Q :=
  hy_callV (as := [a1, a2]) hop hj hd hn hrl hr hcl hqy hct (fun r t' h => by obtain ⟨rfl, rfl⟩ := h; exact kk)
theorem hy_cS2 {a1 a2 : hy_V} (hop : (hx_ops u)[i]? = some (.invokestatic j)) (hj9 : j < 9991) (hj : hx_ms[j]? = some v) (hd : d' < d) (hn : 2 = hx_na v) (hrl : rest.length ≤ 8) (hct : hy_Ct sc v d' [a1, a2] t Q') (kk : ∀ r t', Q' r t' → hy_W sc u d (i + 1) loc (hy_st r ++ rest) t' Q) : hy_W sc u d i loc (a2 :: a1 :: rest) t Q :=
  hy_callS (as := [a1, a2]) hop hj9 hj hd hn hrl hct kk
theorem hy_cS2e {a1 a2 : hy_V} {x : Int} (hop : (hx_ops u)[i]? = some (.invokestatic j)) (hj9 : j < 9991) (hj : hx_ms[j]? = some v) (hd : d' < d) (hn : 2 = hx_na v) (hrl : rest.length ≤ 8) (hct : hy_Ct sc v d' [a1, a2] t (hy_e (some x) t1)) (kk : hy_W sc u d (i + 1) loc (.inl x :: rest) t1 Q) : hy_W sc u d i loc (a2 :: a1 :: rest) t Q :=
  hy_callS (as := [a1, a2]) hop hj9 hj hd hn hrl hct (fun r t' h => by obtain ⟨rfl, rfl⟩ := h; exact kk)
theorem hy_cV3 {a1 a2 a3 : hy_V} {r ci : Nat} {q : vw_C} (hop : (hx_ops u)[i]? = some (.invokevirtual j)) (hj : hx_ms[j]? = some v) (hd : d' < d) (hn : 3 = hx_na v) (hrl : rest.length ≤ 8) (hr : hy_cls r = some ci) (hcl : hx_cl[ci]? = some q) (hqy : q.1 = (hx_y v).cls) (hct : hy_Ct sc v d' [.inr (some r), a1, a2, a3] t Q') (kk : ∀ r t', Q' r t' → hy_W sc u d (i + 1) loc (hy_st r ++ rest) t' Q) : hy_W sc u d i loc (a3 :: a2 :: a1 :: .inr (some r) :: rest) t Q :=
  hy_callV (as := [a1, a2, a3]) hop hj hd hn hrl hr hcl hqy hct kk
theorem hy_cV3e {a1 a2 a3 : hy_V} {r ci : Nat} {q : vw_C} {x : Int} (hop : (hx_ops u)[i]? = some (.invokevirtual j)) (hj : hx_ms[j]? = some v) (hd : d' < d) (hn : 3 = hx_na v) (hrl : rest.length ≤ 8) (hr : hy_cls r = some ci) (hcl : hx_cl[ci]? = some q) (hqy : q.1 = (hx_y v).cls) (hct : hy_Ct sc v d' [.inr (some r), a1, a2, a3] t (hy_e (some x) t1)) (kk : hy_W sc u d (i + 1) loc (.inl x :: rest) t1 Q) : hy_W sc u d i loc (a3 :: a2 :: a1 :: .inr (some r) :: rest) t Q :=
  hy_callV (as := [a1, a2, a3]) hop hj hd hn hrl hr hcl hqy hct (fun r t' h => by obtain ⟨rfl, rfl⟩ := h; exact kk)
theorem hy_cV3v {a1 a2 a3 : hy_V} {r ci : Nat} {q : vw_C} (hop : (hx_ops u)[i]? = some (.invokevirtual j)) (hj : hx_ms[j]? = some v) (hd : d' < d) (hn : 3 = hx_na v) (hrl : rest.length ≤ 8) (hr : hy_cls r = some ci) (hcl : hx_cl[ci]? = some q) (hqy : q.1 = (hx_y v).cls) (hct : hy_Ct sc v d' [.inr (some r), a1, a2, a3] t (hy_e none t1)) (kk : hy_W sc u d (i + 1) loc rest t1 Q) : hy_W sc u d i loc (a3 :: a2 :: a1 :: .inr (some r) :: rest) t Q :=
  hy_callV (as := [a1, a2, a3]) hop hj hd hn hrl hr hcl hqy hct (fun r t' h => by obtain ⟨rfl, rfl⟩ := h; exact kk)
theorem hy_cS3 {a1 a2 a3 : hy_V} (hop : (hx_ops u)[i]? = some (.invokestatic j)) (hj9 : j < 9991) (hj : hx_ms[j]? = some v) (hd : d' < d) (hn : 3 = hx_na v) (hrl : rest.length ≤ 8) (hct : hy_Ct sc v d' [a1, a2, a3] t Q') (kk : ∀ r t', Q' r t' → hy_W sc u d (i + 1) loc (hy_st r ++ rest) t' Q) : hy_W sc u d i loc (a3 :: a2 :: a1 :: rest) t Q :=
  hy_callS (as := [a1, a2, a3]) hop hj9 hj hd hn hrl hct kk
theorem hy_cS3e {a1 a2 a3 : hy_V} {x : Int} (hop : (hx_ops u)[i]? = some (.invokestatic j)) (hj9 : j < 9991) (hj : hx_ms[j]? = some v) (hd : d' < d) (hn : 3 = hx_na v) (hrl : rest.length ≤ 8) (hct : hy_Ct sc v d' [a1, a2, a3] t (hy_e (some x) t1)) (kk : hy_W sc u d (i + 1) loc (.inl x :: rest) t1 Q) : hy_W sc u d i loc (a3 :: a2 :: a1 :: rest) t Q :=
  hy_callS (as := [a1, a2, a3]) hop hj9 hj hd hn hrl hct (fun r t' h => by obtain ⟨rfl, rfl⟩ := h; exact kk)
theorem hy_cV4 {a1 a2 a3 a4 : hy_V} {r ci : Nat} {q : vw_C} (hop : (hx_ops u)[i]? = some (.invokevirtual j)) (hj : hx_ms[j]? = some v) (hd : d' < d) (hn : 4 = hx_na v) (hrl : rest.length ≤ 8) (hr : hy_cls r = some ci) (hcl : hx_cl[ci]? = some q) (hqy : q.1 = (hx_y v).cls) (hct : hy_Ct sc v d' [.inr (some r), a1, a2, a3, a4] t Q') (kk : ∀ r t', Q' r t' → hy_W sc u d (i + 1) loc (hy_st r ++ rest) t' Q) : hy_W sc u d i loc (a4 :: a3 :: a2 :: a1 :: .inr (some r) :: rest) t Q :=
  hy_callV (as := [a1, a2, a3, a4]) hop hj hd hn hrl hr hcl hqy hct kk
theorem hy_cV4e {a1 a2 a3 a4 : hy_V} {r ci : Nat} {q : vw_C} {x : Int} (hop : (hx_ops u)[i]? = some (.invokevirtual j)) (hj : hx_ms[j]? = some v) (hd : d' < d) (hn : 4 = hx_na v) (hrl : rest.length ≤ 8) (hr : hy_cls r = some ci) (hcl : hx_cl[ci]? = some q) (hqy : q.1 = (hx_y v).cls) (hct : hy_Ct sc v d' [.inr (some r), a1, a2, a3, a4] t (hy_e (some x) t1)) (kk : hy_W sc u d (i + 1) loc (.inl x :: rest) t1 Q) : hy_W sc u d i loc (a4 :: a3 :: a2 :: a1 :: .inr (some r) :: rest) t Q :=
  hy_callV (as := [a1, a2, a3, a4]) hop hj hd hn hrl hr hcl hqy hct (fun r t' h => by obtain ⟨rfl, rfl⟩ := h; exact kk)
theorem hy_cV4v {a1 a2 a3 a4 : hy_V} {r ci : Nat} {q : vw_C} (hop : (hx_ops u)[i]? = some (.invokevirtual j)) (hj : hx_ms[j]? = some v) (hd : d' < d) (hn : 4 = hx_na v) (hrl : rest.length ≤ 8) (hr : hy_cls r = some ci) (hcl : hx_cl[ci]? = some q) (hqy : q.1 = (hx_y v).cls) (hct : hy_Ct sc v d' [.inr (some r), a1, a2, a3, a4] t (hy_e none t1)) (kk : hy_W sc u d (i + 1) loc rest t1 Q) : hy_W sc u d i loc (a4 :: a3 :: a2 :: a1 :: .inr (some r) :: rest) t Q :=
  hy_callV (as := [a1, a2, a3, a4]) hop hj hd hn hrl hr hcl hqy hct (fun r t' h => by obtain ⟨rfl, rfl⟩ := h; exact kk)
theorem hy_cS4 {a1 a2 a3 a4 : hy_V} (hop : (hx_ops u)[i]? = some (.invokestatic j)) (hj9 : j < 9991) (hj : hx_ms[j]? = some v) (hd : d' < d) (hn : 4 = hx_na v) (hrl : rest.length ≤ 8) (hct : hy_Ct sc v d' [a1, a2, a3, a4] t Q') (kk : ∀ r t', Q' r t' → hy_W sc u d (i + 1) loc (hy_st r ++ rest) t' Q) : hy_W sc u d i loc (a4 :: a3 :: a2 :: a1 :: rest) t Q :=
  hy_callS (as := [a1, a2, a3, a4]) hop hj9 hj hd hn hrl hct kk
theorem hy_cS4e {a1 a2 a3 a4 : hy_V} {x : Int} (hop : (hx_ops u)[i]? = some (.invokestatic j)) (hj9 : j < 9991) (hj : hx_ms[j]? = some v) (hd : d' < d) (hn : 4 = hx_na v) (hrl : rest.length ≤ 8) (hct : hy_Ct sc v d' [a1, a2, a3, a4] t (hy_e (some x) t1)) (kk : hy_W sc u d (i + 1) loc (.inl x :: rest) t1 Q) : hy_W sc u d i loc (a4 :: a3 :: a2 :: a1 :: rest) t Q :=
  hy_callS (as := [a1, a2, a3, a4]) hop hj9 hj hd hn hrl hct (fun r t' h => by obtain ⟨rfl, rfl⟩ := h; exact kk)
theorem hy_cV5 {a1 a2 a3 a4 a5 : hy_V} {r ci : Nat} {q : vw_C} (hop : (hx_ops u)[i]? = some (.invokevirtual j)) (hj : hx_ms[j]? = some v) (hd : d' < d) (hn : 5 = hx_na v) (hrl : rest.length ≤ 8) (hr : hy_cls r = some ci) (hcl : hx_cl[ci]? = some q) (hqy : q.1 = (hx_y v).cls) (hct : hy_Ct sc v d' [.inr (some r), a1, a2, a3, a4, a5] t Q') (kk : ∀ r t', Q' r t' → hy_W sc u d (i + 1) loc (hy_st r ++ rest) t' Q) : hy_W sc u d i loc (a5 :: a4 :: a3 :: a2 :: a1 :: .inr (some r) :: rest) t Q :=
  hy_callV (as := [a1, a2, a3, a4, a5]) hop hj hd hn hrl hr hcl hqy hct kk
theorem hy_cV5e {a1 a2 a3 a4 a5 : hy_V} {r ci : Nat} {q : vw_C} {x : Int} (hop : (hx_ops u)[i]? = some (.invokevirtual j)) (hj : hx_ms[j]? = some v) (hd : d' < d) (hn : 5 = hx_na v) (hrl : rest.length ≤ 8) (hr : hy_cls r = some ci) (hcl : hx_cl[ci]? = some q) (hqy : q.1 = (hx_y v).cls) (hct : hy_Ct sc v d' [.inr (some r), a1, a2, a3, a4, a5] t (hy_e (some x) t1)) (kk : hy_W sc u d (i + 1) loc (.inl x :: rest) t1 Q) : hy_W sc u d i loc (a5 :: a4 :: a3 :: a2 :: a1 :: .inr (some r) :: rest) t Q :=
  hy_callV (as := [a1, a2, a3, a4, a5]) hop hj hd hn hrl hr hcl hqy hct (fun r t' h => by obtain ⟨rfl, rfl⟩ := h; exact kk)
theorem hy_cV5v {a1 a2 a3 a4 a5 : hy_V} {r ci : Nat} {q : vw_C} (hop : (hx_ops u)[i]? = some (.invokevirtual j)) (hj : hx_ms[j]? = some v) (hd : d' < d) (hn : 5 = hx_na v) (hrl : rest.length ≤ 8) (hr : hy_cls r = some ci) (hcl : hx_cl[ci]? = some q) (hqy : q.1 = (hx_y v).cls) (hct : hy_Ct sc v d' [.inr (some r), a1, a2, a3, a4, a5] t (hy_e none t1)) (kk : hy_W sc u d (i + 1) loc rest t1 Q) : hy_W sc u d i loc (a5 :: a4 :: a3 :: a2 :: a1 :: .inr (some r) :: rest) t Q :=
  hy_callV (as := [a1, a2, a3, a4, a5]) hop hj hd hn hrl hr hcl hqy hct (fun r t' h => by obtain ⟨rfl, rfl⟩ := h; exact kk)
theorem hy_cS5 {a1 a2 a3 a4 a5 : hy_V} (hop : (hx_ops u)[i]? = some (.invokestatic j)) (hj9 : j < 9991) (hj : hx_ms[j]? = some v) (hd : d' < d) (hn : 5 = hx_na v) (hrl : rest.length ≤ 8) (hct : hy_Ct sc v d' [a1, a2, a3, a4, a5] t Q') (kk : ∀ r t', Q' r t' → hy_W sc u d (i + 1) loc (hy_st r ++ rest) t' Q) : hy_W sc u d i loc (a5 :: a4 :: a3 :: a2 :: a1 :: rest) t Q :=
  hy_callS (as := [a1, a2, a3, a4, a5]) hop hj9 hj hd hn hrl hct kk
theorem hy_cS5e {a1 a2 a3 a4 a5 : hy_V} {x : Int} (hop : (hx_ops u)[i]? = some (.invokestatic j)) (hj9 : j < 9991) (hj : hx_ms[j]? = some v) (hd : d' < d) (hn : 5 = hx_na v) (hrl : rest.length ≤ 8) (hct : hy_Ct sc v d' [a1, a2, a3, a4, a5] t (hy_e (some x) t1)) (kk : hy_W sc u d (i + 1) loc (.inl x :: rest) t1 Q) : hy_W sc u d i loc (a5 :: a4 :: a3 :: a2 :: a1 :: rest) t Q :=
  hy_callS (as := [a1, a2, a3, a4, a5]) hop hj9 hj hd hn hrl hct (fun r t' h => by obtain ⟨rfl, rfl⟩ := h; exact kk)
theorem hy_cV6 {a1 a2 a3 a4 a5 a6 : hy_V} {r ci : Nat} {q : vw_C} (hop : (hx_ops u)[i]? = some (.invokevirtual j)) (hj : hx_ms[j]? = some v) (hd : d' < d) (hn : 6 = hx_na v) (hrl : rest.length ≤ 8) (hr : hy_cls r = some ci) (hcl : hx_cl[ci]? = some q) (hqy : q.1 = (hx_y v).cls) (hct : hy_Ct sc v d' [.inr (some r), a1, a2, a3, a4, a5, a6] t Q') (kk : ∀ r t', Q' r t' → hy_W sc u d (i + 1) loc (hy_st r ++ rest) t' Q) : hy_W sc u d i loc (a6 :: a5 :: a4 :: a3 :: a2 :: a1 :: .inr (some r) :: rest) t Q :=
  hy_callV (as := [a1, a2, a3, a4, a5, a6]) hop hj hd hn hrl hr hcl hqy hct kk
theorem hy_cV6e {a1 a2 a3 a4 a5 a6 : hy_V} {r ci : Nat} {q : vw_C} {x : Int} (hop : (hx_ops u)[i]? = some (.invokevirtual j)) (hj : hx_ms[j]? = some v) (hd : d' < d) (hn : 6 = hx_na v) (hrl : rest.length ≤ 8) (hr : hy_cls r = some ci) (hcl : hx_cl[ci]? = some q) (hqy : q.1 = (hx_y v).cls) (hct : hy_Ct sc v d' [.inr (some r), a1, a2, a3, a4, a5, a6] t (hy_e (some x) t1)) (kk : hy_W sc u d (i + 1) loc (.inl x :: rest) t1 Q) : hy_W sc u d i loc (a6 :: a5 :: a4 :: a3 :: a2 :: a1 :: .inr (some r) :: rest) t Q :=
  hy_callV (as := [a1, a2, a3, a4, a5, a6]) hop hj hd hn hrl hr hcl hqy hct (fun r t' h => by obtain ⟨rfl, rfl⟩ := h; exact kk)
theorem hy_cV6v {a1 a2 a3 a4 a5 a6 : hy_V} {r ci : Nat} {q : vw_C} (hop : (hx_ops u)[i]? = some (.invokevirtual j)) (hj : hx_ms[j]? = some v) (hd : d' < d) (hn : 6 = hx_na v) (hrl : rest.length ≤ 8) (hr : hy_cls r = some ci) (hcl : hx_cl[ci]? = some q) (hqy : q.1 = (hx_y v).cls) (hct : hy_Ct sc v d' [.inr (some r), a1, a2, a3, a4, a5, a6] t (hy_e none t1)) (kk : hy_W sc u d (i + 1) loc rest t1 Q) : hy_W sc u d i loc (a6 :: a5 :: a4 :: a3 :: a2 :: a1 :: .inr (some r) :: rest) t Q :=
  hy_callV (as := [a1, a2, a3, a4, a5, a6]) hop hj hd hn hrl hr hcl hqy hct (fun r t' h => by obtain ⟨rfl, rfl⟩ := h; exact kk)
theorem hy_cS6 {a1 a2 a3 a4 a5 a6 : hy_V} (hop : (hx_ops u)[i]? = some (.invokestatic j)) (hj9 : j < 9991) (hj : hx_ms[j]? = some v) (hd : d' < d) (hn : 6 = hx_na v) (hrl : rest.length ≤ 8) (hct : hy_Ct sc v d' [a1, a2, a3, a4, a5, a6] t Q') (kk : ∀ r t', Q' r t' → hy_W sc u d (i + 1) loc (hy_st r ++ rest) t' Q) : hy_W sc u d i loc (a6 :: a5 :: a4 :: a3 :: a2 :: a1 :: rest) t Q :=
  hy_callS (as := [a1, a2, a3, a4, a5, a6]) hop hj9 hj hd hn hrl hct kk
theorem hy_cS6e {a1 a2 a3 a4 a5 a6 : hy_V} {x : Int} (hop : (hx_ops u)[i]? = some (.invokestatic j)) (hj9 : j < 9991) (hj : hx_ms[j]? = some v) (hd : d' < d) (hn : 6 = hx_na v) (hrl : rest.length ≤ 8) (hct : hy_Ct sc v d' [a1, a2, a3, a4, a5, a6] t (hy_e (some x) t1)) (kk : hy_W sc u d (i + 1) loc (.inl x :: rest) t1 Q) : hy_W sc u d i loc (a6 :: a5 :: a4 :: a3 :: a2 :: a1 :: rest) t Q :=
  hy_callS (as := [a1, a2, a3, a4, a5, a6]) hop hj9 hj hd hn hrl hct (fun r t' h => by obtain ⟨rfl, rfl⟩ := h; exact kk)
theorem hy_cV7 {a1 a2 a3 a4 a5 a6 a7 : hy_V} {r ci : Nat} {q : vw_C} (hop : (hx_ops u)[i]? = some (.invokevirtual j)) (hj : hx_ms[j]? = some v) (hd : d' < d) (hn : 7 = hx_na v) (hrl : rest.length ≤ 8) (hr : hy_cls r = some ci) (hcl : hx_cl[ci]? = some q) (hqy : q.1 = (hx_y v).cls) (hct : hy_Ct sc v d' [.inr (some r), a1, a2, a3, a4, a5, a6, a7] t Q') (kk : ∀ r t', Q' r t' → hy_W sc u d (i + 1) loc (hy_st r ++ rest) t' Q) : hy_W sc u d i loc (a7 :: a6 :: a5 :: a4 :: a3 :: a2 :: a1 :: .inr (some r) :: rest) t Q :=
  hy_callV (as := [a1, a2, a3, a4, a5, a6, a7]) hop hj hd hn hrl hr hcl hqy hct kk
theorem hy_cV7e {a1 a2 a3 a4 a5 a6 a7 : hy_V} {r ci : Nat} {q : vw_C} {x : Int} (hop : (hx_ops u)[i]? = some (.invokevirtual j)) (hj : hx_ms[j]? = some v) (hd : d' < d) (hn : 7 = hx_na v) (hrl : rest.length ≤ 8) (hr : hy_cls r = some ci) (hcl : hx_cl[ci]? = some q) (hqy : q.1 = (hx_y v).cls) (hct : hy_Ct sc v d' [.inr (some r), a1, a2, a3, a4, a5, a6, a7] t (hy_e (some x) t1)) (kk : hy_W sc u d (i + 1) loc (.inl x :: rest) t1 Q) : hy_W sc u d i loc (a7 :: a6 :: a5 :: a4 :: a3 :: a2 :: a1 :: .inr (some r) :: rest) t Q :=
  hy_callV (as := [a1, a2, a3, a4, a5, a6, a7]) hop hj hd hn hrl hr hcl hqy hct (fun r t' h => by obtain ⟨rfl, rfl⟩ := h; exact kk)
theorem hy_cV7v {a1 a2 a3 a4 a5 a6 a7 : hy_V} {r ci : Nat} {q : vw_C} (hop : (hx_ops u)[i]? = some (.invokevirtual j)) (hj : hx_ms[j]? = some v) (hd : d' < d) (hn : 7 = hx_na v) (hrl : rest.length ≤ 8) (hr : hy_cls r = some ci) (hcl : hx_cl[ci]? = some q) (hqy : q.1 = (hx_y v).cls) (hct : hy_Ct sc v d' [.inr (some r), a1, a2, a3, a4, a5, a6, a7] t (hy_e none t1)) (kk : hy_W sc u d (i + 1) loc rest t1 Q) : hy_W sc u d i loc (a7 :: a6 :: a5 :: a4 :: a3 :: a2 :: a1 :: .inr (some r) :: rest) t Q :=
  hy_callV (as := [a1, a2, a3, a4, a5, a6, a7]) hop hj hd hn hrl hr hcl hqy hct (fun r t' h => by obtain ⟨rfl, rfl⟩ := h; exact kk)
theorem hy_cS7 {a1 a2 a3 a4 a5 a6 a7 : hy_V} (hop : (hx_ops u)[i]? = some (.invokestatic j)) (hj9 : j < 9991) (hj : hx_ms[j]? = some v) (hd : d' < d) (hn : 7 = hx_na v) (hrl : rest.length ≤ 8) (hct : hy_Ct sc v d' [a1, a2, a3, a4, a5, a6, a7] t Q') (kk : ∀ r t', Q' r t' → hy_W sc u d (i + 1) loc (hy_st r ++ rest) t' Q) : hy_W sc u d i loc (a7 :: a6 :: a5 :: a4 :: a3 :: a2 :: a1 :: rest) t Q :=
  hy_callS (as := [a1, a2, a3, a4, a5, a6, a7]) hop hj9 hj hd hn hrl hct kk
theorem hy_cS7e {a1 a2 a3 a4 a5 a6 a7 : hy_V} {x : Int} (hop : (hx_ops u)[i]? = some (.invokestatic j)) (hj9 : j < 9991) (hj : hx_ms[j]? = some v) (hd : d' < d) (hn : 7 = hx_na v) (hrl : rest.length ≤ 8) (hct : hy_Ct sc v d' [a1, a2, a3, a4, a5, a6, a7] t (hy_e (some x) t1)) (kk : hy_W sc u d (i + 1) loc (.inl x :: rest) t1 Q) : hy_W sc u d i loc (a7 :: a6 :: a5 :: a4 :: a3 :: a2 :: a1 :: rest) t Q :=
  hy_callS (as := [a1, a2, a3, a4, a5, a6, a7]) hop hj9 hj hd hn hrl hct (fun r t' h => by obtain ⟨rfl, rfl⟩ := h; exact kk)
end HYD
