abbrev hy_S : Type := (Nat × Nat) ⊕ (Nat × List (Option Nat))
/-- the cells behind the two constructors: arrays by kind and length, objects by class and fields (a reference, or a number) -/
def hy_shape : List hy_S := [
  .inr (10, [some 3, some 5, some 8, some 11, some 19, some 27, some 33, some 37, some 41, none, some 45, some 47, some 49, some 52, some 57, some 58]),
  .inr (9, [some 4, none, none, none, none]),
  .inl (0, 260),
  .inr (5, [some 6, some 7, none, none]),
  .inl (0, 12),
  .inl (0, 12),
  .inr (2, [some 3, some 5, some 9, some 10]),
  .inl (0, 64),
  .inl (0, 64),
  .inr (3, [some 3, some 12, some 13, none, some 14, some 15, some 16, none, some 17, some 18]),
  .inl (0, 241),
  .inl (0, 241),
  .inl (0, 16),
  .inl (0, 16),
  .inl (0, 16),
  .inl (0, 10),
  .inl (0, 32),
  .inr (3, [some 3, some 20, some 21, none, some 22, some 23, some 24, none, some 25, some 26]),
  .inl (0, 241),
  .inl (0, 241),
  .inl (0, 16),
  .inl (0, 16),
  .inl (0, 16),
  .inl (0, 10),
  .inl (0, 32),
  .inr (4, [some 3, some 28, some 29, some 30, some 31, some 32, none]),
  .inl (0, 8),
  .inl (0, 8),
  .inl (0, 8),
  .inl (0, 8),
  .inl (0, 8),
  .inr (8, [some 34, some 35, some 36, none, none, none, none, none]),
  .inl (0, 48),
  .inl (0, 64),
  .inl (0, 96),
  .inr (8, [some 38, some 39, some 40, none, none, none, none, none]),
  .inl (0, 48),
  .inl (0, 64),
  .inl (0, 96),
  .inr (8, [some 42, some 43, some 44, none, none, none, none, none]),
  .inl (0, 48),
  .inl (0, 64),
  .inl (0, 96),
  .inr (1, [some 5, some 11, some 33, some 46]),
  .inl (0, 12),
  .inr (7, [some 5, some 11, some 33, some 45, some 8, some 48]),
  .inl (0, 12),
  .inr (0, [some 33, some 47, some 50, some 51, none, none, none, none, none]),
  .inl (0, 144),
  .inl (0, 144),
  .inr (6, [some 53, some 54, some 55, some 56, none, none]),
  .inl (2, 64),
  .inl (2, 64),
  .inl (0, 64),
  .inl (0, 64),
  .inl (0, 24),
  .inl (0, 12),
  .inr (11, [none, none, none, some 60, some 61, some 62, some 63, some 64, some 65, none, none, none, none, none, none, none, none, none, none, some 66, some 67, some 68, some 69, some 70, some 71, some 72, some 73, some 74, some 75, some 76, some 77, some 78, some 79, none, none, some 80, some 81, some 82, some 83, some 84, some 85, some 86, some 87, some 88, some 89, some 90, some 91, some 92, some 93, some 94, some 95, none, none, none, none, none, none, none, none, none, none, some 96, some 97, some 98, some 99, some 100, some 101, some 102]),
  .inl (0, 12),
  .inl (0, 12),
  .inl (0, 48),
  .inl (0, 64),
  .inl (0, 64),
  .inl (1, 260),
  .inl (0, 260),
  .inl (0, 260),
  .inl (0, 16),
  .inl (0, 16),
  .inl (0, 16),
  .inl (0, 16),
  .inl (0, 260),
  .inl (0, 16),
  .inl (0, 16),
  .inl (0, 16),
  .inl (0, 16),
  .inl (0, 260),
  .inl (0, 10),
  .inl (0, 13),
  .inl (0, 8),
  .inl (0, 8),
  .inl (0, 8),
  .inl (0, 8),
  .inl (0, 8),
  .inl (0, 16),
  .inl (0, 16),
  .inl (0, 16),
  .inl (0, 16),
  .inl (0, 16),
  .inl (0, 16),
  .inl (0, 48),
  .inl (0, 96),
  .inl (0, 48),
  .inl (0, 96),
  .inl (0, 64),
  .inl (0, 64),
  .inl (0, 64),
  .inl (0, 72),
  .inl (0, 144),
  .inl (0, 144),
  .inl (2, 144),
  .inl (0, 64)]
abbrev hy_R (x : Int) : Prop := -2147483648 ≤ x ∧ x ≤ 2147483647
abbrev hy_V : Type := Int ⊕ Option Nat
def hy_v (v : hy_V) : Value := match v with
  | .inl x => .int (Int32.ofInt x)
  | .inr none => .null
  | .inr (some r) => .ref r
def hy_ok (v : hy_V) : Prop := match v with
  | .inl x => hy_R x
  | .inr _ => True
abbrev hy_T : Type := Nat → Nat → Int
def hy_up (t : hy_T) (r j : Nat) (v : Int) : hy_T := fun r' j' => if r' = r ∧ j' = j then v else t r' j'
def hy_cell (t : hy_T) (r : Nat) (s : hy_S) : hx_C := match s with
  | .inl q => .inl (q.1, (List.range q.2).map (fun j => Int32.ofInt (t r j)))
  | .inr q => .inr (q.1, q.2.mapIdx (fun j o => match o with
    | none => .int (Int32.ofInt (t r j))
    | some a => .ref a))
def hy_mk (t : hy_T) : hx_H := hy_shape.mapIdx (fun k s => hy_cell t (k + 2) s)
def hy_sh (r : Nat) : Option hy_S := match r with
  | k + 2 => hy_shape[k]?
  | _ => none
def hy_fld (r f : Nat) : Option (Option Nat) := match hy_sh r with
  | some (.inr q) => if q.1 = f / 100 then q.2[f % 100]? else none
  | _ => none
def hy_arr (r : Nat) : Option (Nat × Nat) := match hy_sh r with
  | some (.inl q) => some q
  | _ => none
def hy_cls (r : Nat) : Option Nat := match hy_sh r with
  | some (.inr q) => some q.1
  | _ => none
/-- an end at this level -/
def hy_Q (Q : Option Int → hy_T → Prop) : Option Int32 → hx_H → Prop := fun r h' => ∃ (r' : Option Int) (t' : hy_T), r = r'.map Int32.ofInt ∧ h' = hy_mk t' ∧ (∀ k j, hy_R (t' k j)) ∧ (∀ x, r' = some x → hy_R x) ∧ Q r' t'
/-- THE JUDGEMENT at this level -/
def hy_W (sc : List Int32) (u : hx_M) (d i : Nat) (loc st : List hy_V) (t : hy_T) (Q : Option Int → hy_T → Prop) : Prop :=
  (∀ v ∈ loc, hy_ok v) → (∀ v ∈ st, hy_ok v) → (∀ k j, hy_R (t k j)) → hx_W sc u d i (loc.map hy_v) (st.map hy_v) (hy_mk t) 0 0 (hy_Q Q)
def hy_Ct (sc : List Int32) (u : hx_M) (d : Nat) (as : List hy_V) (t : hy_T) (Q : Option Int → hy_T → Prop) : Prop :=
  (∀ v ∈ as, hy_ok v) → (∀ k j, hy_R (t k j)) → hx_Ct sc u d 0 0 (as.map hy_v) (hy_mk t) (hy_Q Q)
def hy_b (p : Bool) : Int := if p then 1 else 0
def hy_st (r : Option Int) : List hy_V := match r with
  | some x => [.inl x]
  | none => []
/-! numbers -/
theorem hy_ti {x : Int} (h : hy_R x) : (Int32.ofInt x).toInt = x := by
  rw [Int32.toInt_ofInt, Int.bmod_def, show ((Int32.size : Nat) : Int) = 4294967296 from rfl]
  unfold hy_R at h
  omega
theorem hy_Ri (x : Int32) : hy_R x.toInt := ⟨Int32.le_toInt x, by have := Int32.toInt_lt x; omega⟩
theorem hy_oi (x : Int32) : Int32.ofInt x.toInt = x := Int32.ofInt_toInt x
theorem hy_Rb (p : Bool) : hy_R (hy_b p) := by cases p <;> decide +kernel
theorem hy_lt {x y : Int} (hx : hy_R x) (hy : hy_R y) : Int32.ofInt x < Int32.ofInt y ↔ x < y := by
  rw [Int32.lt_iff_toInt_lt, hy_ti hx, hy_ti hy]
theorem hy_le {x y : Int} (hx : hy_R x) (hy : hy_R y) : Int32.ofInt x ≤ Int32.ofInt y ↔ x ≤ y := by
  rw [Int32.le_iff_toInt_le, hy_ti hx, hy_ti hy]
theorem hy_eq {x y : Int} (hx : hy_R x) (hy : hy_R y) : Int32.ofInt x = Int32.ofInt y ↔ x = y := by
  rw [← Int32.toInt_inj, hy_ti hx, hy_ti hy]
theorem hy_R0 : hy_R 0 := by decide +kernel
theorem hy_z32 : Int32.ofInt 0 = 0 := rfl
theorem hy_cl {x : Int} (hx : hy_R x) : (Int32.ofInt x).toNatClampNeg = x.toNat := by
  show (Int32.ofInt x).toInt.toNat = _
  rw [hy_ti hx]
theorem hy_in {z : Int} {n : Nat} (hz : hy_R z) (h : 0 ≤ z ∧ z < n) : vp_in (Int32.ofInt z) n := by
  rw [vp_in_iff, hy_ti hz]
  exact h
/-! the heap -/
theorem hy_mk_at (t : hy_T) (k : Nat) : (hy_mk t)[k]? = (hy_shape[k]?).map (fun s => hy_cell t (k + 2) s) := by
  simp [hy_mk, List.getElem?_mapIdx]
theorem hy_fld_s {r f : Nat} {o : Option Nat} (h : hy_fld r f = some o) : ∃ (k : Nat) (fr : List (Option Nat)), r = k + 2 ∧ hy_shape[k]? = some (.inr (f / 100, fr)) ∧ fr[f % 100]? = some o := by
  unfold hy_fld at h
  match r, h with
  | k + 2, h =>
    simp only [hy_sh] at h
    split at h
    · next q hq =>
      split at h
      · next hc =>
        obtain ⟨a, fr⟩ := q
        dsimp only at hc h
        subst hc
        exact ⟨k, fr, rfl, hq, h⟩
      · cases h
    · cases h
  | 0, h => cases h
  | 1, h => cases h
theorem hy_arr_s {r : Nat} {q : Nat × Nat} (h : hy_arr r = some q) : ∃ k : Nat, r = k + 2 ∧ hy_shape[k]? = some (.inl q) := by
  unfold hy_arr at h
  match r, h with
  | k + 2, h =>
    simp only [hy_sh] at h
    split at h
    · next q' hq => cases h; exact ⟨k, rfl, hq⟩
    · cases h
  | 0, h => cases h
  | 1, h => cases h
theorem hy_cls_s {r c : Nat} (h : hy_cls r = some c) : ∃ (k : Nat) (fr : List (Option Nat)), r = k + 2 ∧ hy_shape[k]? = some (.inr (c, fr)) := by
  unfold hy_cls at h
  match r, h with
  | k + 2, h =>
    simp only [hy_sh] at h
    split at h
    · next q' hq => cases h; exact ⟨k, q'.2, rfl, hq⟩
    · cases h
  | 0, h => cases h
  | 1, h => cases h
theorem hy_arr_len (t : hy_T) (r n : Nat) : ((List.range n).map (fun j => Int32.ofInt (t r j))).length = n := by simp
theorem hy_arr_get (t : hy_T) (r n : Nat) {j : Nat} (h : j < n) : ((List.range n).map (fun j => Int32.ofInt (t r j))).getD j 0 = Int32.ofInt (t r j) := by
  simp [List.getD_eq_getElem?_getD, h]
theorem hy_up_other {t : hy_T} {r j r' : Nat} {v : Int} (h : r' ≠ r) (s : hy_S) : hy_cell (hy_up t r j v) r' s = hy_cell t r' s := by
  have e : ∀ j', hy_up t r j v r' j' = t r' j' := fun j' => by simp [hy_up, h]
  cases s with
  | inl q => simp only [hy_cell, e]
  | inr q => simp only [hy_cell, e]
theorem hy_set {t : hy_T} {k j : Nat} {v : Int} {s : hy_S} {c : hx_C} (hs : hy_shape[k]? = some s) (hc : hy_cell (hy_up t (k + 2) j v) (k + 2) s = c) : (hy_mk t).set k c = hy_mk (hy_up t (k + 2) j v) := by
  apply List.ext_getElem?
  intro i
  rw [hy_mk_at, List.getElem?_set, hy_mk_at]
  by_cases hik : k = i
  · subst hik
    have hl : k < (hy_mk t).length := by simp [hy_mk]; exact (List.getElem?_eq_some_iff.mp hs).1
    simp [hl, hs, hc]
  · rw [if_neg hik]
    congr 1
    funext s'
    rw [hy_up_other (by omega)]
theorem hy_set_a {t : hy_T} {k j n ty : Nat} {v : Int} (hs : hy_shape[k]? = some (.inl (ty, n))) (hj : j < n) : (hy_mk t).set k (.inl (ty, ((List.range n).map (fun j => Int32.ofInt (t (k + 2) j))).set j (Int32.ofInt v))) = hy_mk (hy_up t (k + 2) j v) := by
  refine hy_set hs ?_
  simp only [hy_cell]
  congr 2
  apply List.ext_getElem?
  intro i
  rw [List.getElem?_set]
  by_cases hij : j = i
  · subst hij
    simp [hj, hy_up]
  · rw [if_neg hij, List.getElem?_map, List.getElem?_map]
    by_cases hin : i < n
    · rw [List.getElem?_range hin]
      simp [hy_up, Ne.symm hij]
    · rw [List.getElem?_eq_none (by simp; omega)]
      rfl
theorem hy_set_f {t : hy_T} {k j ci : Nat} {v : Int} {fr : List (Option Nat)} (hs : hy_shape[k]? = some (.inr (ci, fr))) (hj : fr[j]? = some none) :
    (hy_mk t).set k (.inr (ci, (fr.mapIdx (fun j o => match o with | none => Value.int (Int32.ofInt (t (k + 2) j)) | some a => .ref a)).set j (.int (Int32.ofInt v)))) = hy_mk (hy_up t (k + 2) j v) := by
  refine hy_set hs ?_
  simp only [hy_cell]
  congr 2
  apply List.ext_getElem?
  intro i
  rw [List.getElem?_set]
  by_cases hij : j = i
  · subst hij
    obtain ⟨hl, he⟩ := List.getElem?_eq_some_iff.mp hj
    simp [hy_up, hl, he]
  · rw [if_neg hij]
    simp only [List.getElem?_mapIdx]
    congr 1
    funext o
    simp [hy_up, Ne.symm hij]
theorem hy_up_R {t : hy_T} {r j : Nat} {v : Int} (h : ∀ k j, hy_R (t k j)) (hv : hy_R v) : ∀ k j', hy_R (hy_up t r j v k j') := by
  intro k j'
  unfold hy_up
  split
  · exact hv
  · exact h k j'
theorem hy_set_ok {loc : List hy_V} {k : Nat} {v : hy_V} (h : ∀ w ∈ loc, hy_ok w) (hv : hy_ok v) : ∀ w ∈ loc.set k v, hy_ok w := by
  intro w hw
  rcases List.mem_or_eq_of_mem_set hw with h1 | h1
  · exact h w h1
  · rw [h1]; exact hv
theorem hy_cons {v : hy_V} {st : List hy_V} (hv : hy_ok v) (h : ∀ w ∈ st, hy_ok w) : ∀ w ∈ v :: st, hy_ok w := List.forall_mem_cons.mpr ⟨hv, h⟩
theorem hy_vv (v : hy_V) : hx_v (hy_v v) = true := by
  unfold hy_v
  split <;> rfl
theorem hy_vall (st : List hy_V) : (st.map hy_v).all hx_v = true := by
  rw [List.all_eq_true]
  intro x hx
  obtain ⟨v, -, rfl⟩ := List.mem_map.mp hx
  exact hy_vv v
theorem hy_map_set {loc : List hy_V} {k : Nat} {v : hy_V} : (loc.map hy_v).set k (hy_v v) = (loc.set k v).map hy_v := by rw [List.map_set]
section HYR
variable {sc : List Int32} {u : hx_M} {d i : Nat} {loc st : List hy_V} {t : hy_T} {Q : Option Int → hy_T → Prop}
theorem hy_rng {x : Int} (k : Nat) (hl : loc[k]? = some (.inl x)) (kk : hy_R x → hy_W sc u d i loc st t Q) : hy_W sc u d i loc st t Q := fun h1 h2 h3 => kk (h1 (.inl x) (List.mem_of_getElem? hl)) h1 h2 h3
theorem hy_rngs {x : Int} (kk : hy_R x → hy_W sc u d i loc (.inl x :: st) t Q) : hy_W sc u d i loc (.inl x :: st) t Q := fun h1 h2 h3 => kk (h2 (.inl x) List.mem_cons_self) h1 h2 h3
theorem hy_rngt (kk : (∀ k j, hy_R (t k j)) → hy_W sc u d i loc st t Q) : hy_W sc u d i loc st t Q := fun h1 h2 h3 => kk h3 h1 h2 h3
theorem hy_iload {k : Nat} {x : Int} (hop : (hx_ops u)[i]? = some (.iload k)) (hl : loc[k]? = some (.inl x)) (kk : hy_W sc u d (i + 1) loc (.inl x :: st) t Q) : hy_W sc u d i loc st t Q := fun h1 h2 h3 =>
  hx_iload hop (x := Int32.ofInt x) (by rw [List.getElem?_map, hl]; rfl) (kk h1 (hy_cons (h1 _ (List.mem_of_getElem? hl)) h2) h3)
theorem hy_aload {k r : Nat} (hop : (hx_ops u)[i]? = some (.aload k)) (hl : loc[k]? = some (.inr (some r))) (kk : hy_W sc u d (i + 1) loc (.inr (some r) :: st) t Q) : hy_W sc u d i loc st t Q := fun h1 h2 h3 =>
  hx_aload hop (a := r) (by rw [List.getElem?_map, hl]; rfl) (kk h1 (hy_cons trivial h2) h3)
theorem hy_istore {k : Nat} {x : Int} (hop : (hx_ops u)[i]? = some (.istore k)) (kk : hy_W sc u d (i + 1) (loc.set k (.inl x)) st t Q) : hy_W sc u d i loc (.inl x :: st) t Q := fun h1 h2 h3 =>
  hx_istore hop (x := Int32.ofInt x) (by have h := kk (hy_set_ok h1 (h2 _ List.mem_cons_self)) (fun w hw => h2 w (List.mem_cons_of_mem _ hw)) h3; rw [← hy_map_set] at h; exact h)
theorem hy_astore {k r : Nat} (hop : (hx_ops u)[i]? = some (.astore k)) (kk : hy_W sc u d (i + 1) (loc.set k (.inr (some r))) st t Q) : hy_W sc u d i loc (.inr (some r) :: st) t Q := fun h1 h2 h3 =>
  hx_astore hop (a := r) (by have h := kk (hy_set_ok h1 trivial) (fun w hw => h2 w (List.mem_cons_of_mem _ hw)) h3; rw [← hy_map_set] at h; exact h)
theorem hy_iinc {k : Nat} {n x : Int} (hop : (hx_ops u)[i]? = some (.iinc k n)) (hl : loc[k]? = some (.inl x)) (hr : hy_R (x + n)) (kk : hy_W sc u d (i + 1) (loc.set k (.inl (x + n))) st t Q) : hy_W sc u d i loc st t Q := fun h1 h2 h3 =>
  hx_iinc hop (x := Int32.ofInt x) (by rw [List.getElem?_map, hl]; rfl) (by have h := kk (hy_set_ok h1 hr) h2 h3; rw [← hy_map_set] at h; rw [← Int32.ofInt_add]; exact h)
theorem hy_const {n : Int} (hop : (hx_ops u)[i]? = some (.bipush n)) (hn : hy_R n) (kk : hy_W sc u d (i + 1) loc (.inl n :: st) t Q) : hy_W sc u d i loc st t Q := fun h1 h2 h3 =>
  hx_const hop (kk h1 (hy_cons hn h2) h3)
theorem hy_two {x y : Int} (h2 : ∀ v ∈ (.inl y :: .inl x :: st : List hy_V), hy_ok v) : hy_R x ∧ hy_R y ∧ ∀ v ∈ st, hy_ok v :=
  ⟨h2 (.inl x) (List.mem_cons_of_mem _ List.mem_cons_self), h2 (.inl y) List.mem_cons_self, fun w hw => h2 w (List.mem_cons_of_mem _ (List.mem_cons_of_mem _ hw))⟩
theorem hy_one {v : hy_V} (h2 : ∀ w ∈ (v :: st : List hy_V), hy_ok w) : hy_ok v ∧ ∀ w ∈ st, hy_ok w := ⟨h2 v List.mem_cons_self, fun w hw => h2 w (List.mem_cons_of_mem _ hw)⟩
theorem hy_iadd {x y : Int} (hop : (hx_ops u)[i]? = some .iadd) (hr : hy_R (x + y)) (kk : hy_W sc u d (i + 1) loc (.inl (x + y) :: st) t Q) : hy_W sc u d i loc (.inl y :: .inl x :: st) t Q := fun h1 h2 h3 =>
  hx_iadd hop (by have h := kk h1 (hy_cons hr (hy_two h2).2.2) h3; rw [← Int32.ofInt_add]; exact h)
theorem hy_iaddw {x y : Int} (hop : (hx_ops u)[i]? = some .iadd) (kk : hy_W sc u d (i + 1) loc (.inl (Int32.ofInt (x + y)).toInt :: st) t Q) : hy_W sc u d i loc (.inl y :: .inl x :: st) t Q := fun h1 h2 h3 =>
  hx_iadd hop (by have h := kk h1 (hy_cons (hy_Ri _) (hy_two h2).2.2) h3; rw [← Int32.ofInt_add]; simp only [List.map_cons, hy_v, hy_oi] at h ⊢; exact h)
theorem hy_isub {x y : Int} (hop : (hx_ops u)[i]? = some .isub) (hr : hy_R (x - y)) (kk : hy_W sc u d (i + 1) loc (.inl (x - y) :: st) t Q) : hy_W sc u d i loc (.inl y :: .inl x :: st) t Q := fun h1 h2 h3 =>
  hx_isub hop (by have h := kk h1 (hy_cons hr (hy_two h2).2.2) h3; rw [← Int32.ofInt_sub]; exact h)
theorem hy_isubw {x y : Int} (hop : (hx_ops u)[i]? = some .isub) (kk : hy_W sc u d (i + 1) loc (.inl (Int32.ofInt (x - y)).toInt :: st) t Q) : hy_W sc u d i loc (.inl y :: .inl x :: st) t Q := fun h1 h2 h3 =>
  hx_isub hop (by have h := kk h1 (hy_cons (hy_Ri _) (hy_two h2).2.2) h3; rw [← Int32.ofInt_sub]; simp only [List.map_cons, hy_v, hy_oi] at h ⊢; exact h)
def hz_iand (x y : Int) : Int := (Int32.ofInt x &&& Int32.ofInt y).toInt
theorem hy_imul {x y : Int} (hop : (hx_ops u)[i]? = some .imul) (hr : hy_R (x * y)) (kk : hy_W sc u d (i + 1) loc (.inl (x * y) :: st) t Q) : hy_W sc u d i loc (.inl y :: .inl x :: st) t Q := fun h1 h2 h3 =>
  hx_imul hop (by have h := kk h1 (hy_cons hr (hy_two h2).2.2) h3; rw [← Int32.ofInt_mul]; exact h)
theorem hy_imulw {x y : Int} (hop : (hx_ops u)[i]? = some .imul) (kk : hy_W sc u d (i + 1) loc (.inl (Int32.ofInt (x * y)).toInt :: st) t Q) : hy_W sc u d i loc (.inl y :: .inl x :: st) t Q := fun h1 h2 h3 =>
  hx_imul hop (by have h := kk h1 (hy_cons (hy_Ri _) (hy_two h2).2.2) h3; rw [← Int32.ofInt_mul]; simp only [List.map_cons, hy_v, hy_oi] at h ⊢; exact h)
def hz_ior (x y : Int) : Int := (Int32.ofInt x ||| Int32.ofInt y).toInt
theorem hy_iand {x y : Int} (hop : (hx_ops u)[i]? = some .iand) (kk : hy_W sc u d (i + 1) loc (.inl (hz_iand x y) :: st) t Q) : hy_W sc u d i loc (.inl y :: .inl x :: st) t Q := fun h1 h2 h3 =>
  hx_iand hop (by have h := kk h1 (hy_cons (hy_Ri _) (hy_two h2).2.2) h3; simp only [List.map_cons, hy_v, hz_iand, hy_oi] at h ⊢; exact h)
def hz_ixor (x y : Int) : Int := (Int32.ofInt x ^^^ Int32.ofInt y).toInt
theorem hy_ior {x y : Int} (hop : (hx_ops u)[i]? = some .ior) (kk : hy_W sc u d (i + 1) loc (.inl (hz_ior x y) :: st) t Q) : hy_W sc u d i loc (.inl y :: .inl x :: st) t Q := fun h1 h2 h3 =>
  hx_ior hop (by have h := kk h1 (hy_cons (hy_Ri _) (hy_two h2).2.2) h3; simp only [List.map_cons, hy_v, hz_ior, hy_oi] at h ⊢; exact h)
def hz_ishl (x y : Int) : Int := (Int32.ofInt x <<< (Int32.ofInt y &&& 31)).toInt
theorem hy_ixor {x y : Int} (hop : (hx_ops u)[i]? = some .ixor) (kk : hy_W sc u d (i + 1) loc (.inl (hz_ixor x y) :: st) t Q) : hy_W sc u d i loc (.inl y :: .inl x :: st) t Q := fun h1 h2 h3 =>
  hx_ixor hop (by have h := kk h1 (hy_cons (hy_Ri _) (hy_two h2).2.2) h3; simp only [List.map_cons, hy_v, hz_ixor, hy_oi] at h ⊢; exact h)
def hz_ishr (x y : Int) : Int := (Int32.ofInt x >>> (Int32.ofInt y &&& 31)).toInt
theorem hy_ishl {x y : Int} (hop : (hx_ops u)[i]? = some .ishl) (kk : hy_W sc u d (i + 1) loc (.inl (hz_ishl x y) :: st) t Q) : hy_W sc u d i loc (.inl y :: .inl x :: st) t Q := fun h1 h2 h3 =>
  hx_ishl hop (by have h := kk h1 (hy_cons (hy_Ri _) (hy_two h2).2.2) h3; simp only [List.map_cons, hy_v, hz_ishl, hy_oi] at h ⊢; exact h)
def hz_iushr (x y : Int) : Int := (((Int32.ofInt x).toUInt32 >>> ((Int32.ofInt y).toUInt32 &&& Int32.toUInt32 31)).toInt32).toInt
theorem hy_ishr {x y : Int} (hop : (hx_ops u)[i]? = some .ishr) (kk : hy_W sc u d (i + 1) loc (.inl (hz_ishr x y) :: st) t Q) : hy_W sc u d i loc (.inl y :: .inl x :: st) t Q := fun h1 h2 h3 =>
  hx_ishr hop (by have h := kk h1 (hy_cons (hy_Ri _) (hy_two h2).2.2) h3; simp only [List.map_cons, hy_v, hz_ishr, hy_oi] at h ⊢; exact h)
theorem hy_iushr {x y : Int} (hop : (hx_ops u)[i]? = some .iushr) (kk : hy_W sc u d (i + 1) loc (.inl (hz_iushr x y) :: st) t Q) : hy_W sc u d i loc (.inl y :: .inl x :: st) t Q := fun h1 h2 h3 =>
  hx_iushr hop (by have h := kk h1 (hy_cons (hy_Ri _) (hy_two h2).2.2) h3; simp only [List.map_cons, hy_v, hz_iushr, hy_oi] at h ⊢; exact h)
theorem hy_ne0 {y : Int} (hy : hy_R y) (h : y ≠ 0) : ¬ Int32.ofInt y = 0 := fun q => h ((hy_eq hy hy_R0).mp q)
theorem hy_div32 {x y : Int} (hx : hy_R x) (hy : hy_R y) (h0 : 0 ≤ x) (h1 : 0 < y) : Int32.ofInt x / Int32.ofInt y = Int32.ofInt (x / y) := by
  have hq : hy_R (x / y) := by
    have a1 : 0 ≤ x / y := Int.ediv_nonneg h0 (by omega)
    have a2 : x / y ≤ x := Int.ediv_le_self y h0
    unfold hy_R at *
    omega
  rw [← Int32.toInt_inj, Int32.toInt_div, hy_ti hx, hy_ti hy, hy_ti hq, Int.tdiv_eq_ediv_of_nonneg h0, Int.bmod_def]
  unfold hy_R at hq
  omega
theorem hy_idiv {x y : Int} (hop : (hx_ops u)[i]? = some .idiv) (h0 : 0 ≤ x) (hy0 : 0 < y) (kk : hy_W sc u d (i + 1) loc (.inl (x / y) :: st) t Q) : hy_W sc u d i loc (.inl y :: .inl x :: st) t Q := fun h1 h2 h3 => by
  obtain ⟨hx, hy, hs⟩ := hy_two h2
  have hq : hy_R (x / y) := by
    have a1 : 0 ≤ x / y := Int.ediv_nonneg h0 (by omega)
    have a2 : x / y ≤ x := Int.ediv_le_self y h0
    unfold hy_R at *
    omega
  refine hx_idiv hop (hy_ne0 hy (by omega)) ?_
  rw [hy_div32 hx hy h0 hy0]
  exact kk h1 (hy_cons hq hs) h3
theorem hy_irem {x y : Int} (hop : (hx_ops u)[i]? = some .irem) (h0 : 0 ≤ x) (hy0 : 0 < y) (kk : hy_W sc u d (i + 1) loc (.inl (x % y) :: st) t Q) : hy_W sc u d i loc (.inl y :: .inl x :: st) t Q := fun h1 h2 h3 => by
  obtain ⟨hx, hy, hs⟩ := hy_two h2
  have b1 := Int.emod_nonneg x (show y ≠ 0 by omega)
  have b2 := Int.emod_lt_of_pos x hy0
  have hq : hy_R (x % y) := by
    unfold hy_R at *
    omega
  refine hx_irem hop (hy_ne0 hy (by omega)) ?_
  rw [hy_div32 hx hy h0 hy0, ← Int32.ofInt_mul, ← Int32.ofInt_sub, show x - x / y * y = x % y by rw [Int.emod_def, Int.mul_comm]]
  exact kk h1 (hy_cons hq hs) h3
def hz_div (x y : Int) : Int := (Int32.ofInt x / Int32.ofInt y).toInt
def hz_rem (x y : Int) : Int := (Int32.ofInt x - Int32.ofInt x / Int32.ofInt y * Int32.ofInt y).toInt
theorem hy_idivw {x y : Int} (hop : (hx_ops u)[i]? = some .idiv) (hy0 : y ≠ 0) (kk : hy_W sc u d (i + 1) loc (.inl (hz_div x y) :: st) t Q) : hy_W sc u d i loc (.inl y :: .inl x :: st) t Q := fun h1 h2 h3 => by
  obtain ⟨hx, hy, hs⟩ := hy_two h2
  refine hx_idiv hop (hy_ne0 hy hy0) ?_
  have h := kk h1 (hy_cons (hy_Ri _) hs) h3
  simp only [List.map_cons, hy_v, hz_div, hy_oi] at h
  exact h
theorem hy_iremw {x y : Int} (hop : (hx_ops u)[i]? = some .irem) (hy0 : y ≠ 0) (kk : hy_W sc u d (i + 1) loc (.inl (hz_rem x y) :: st) t Q) : hy_W sc u d i loc (.inl y :: .inl x :: st) t Q := fun h1 h2 h3 => by
  obtain ⟨hx, hy, hs⟩ := hy_two h2
  refine hx_irem hop (hy_ne0 hy hy0) ?_
  have h := kk h1 (hy_cons (hy_Ri _) hs) h3
  simp only [List.map_cons, hy_v, hz_rem, hy_oi] at h
  exact h
theorem hy_ineg {x : Int} (hop : (hx_ops u)[i]? = some .ineg) (hr : hy_R (-x)) (kk : hy_W sc u d (i + 1) loc (.inl (-x) :: st) t Q) : hy_W sc u d i loc (.inl x :: st) t Q := fun h1 h2 h3 => by
  refine hx_ineg hop ?_
  rw [← Int32.ofInt_neg]
  exact kk h1 (hy_cons hr (hy_one h2).2) h3
def hz_i2b (x : Int) : Int := ((Int32.ofInt x).toInt8.toInt32).toInt
theorem hy_i2b {x : Int} (hop : (hx_ops u)[i]? = some .i2b) (kk : hy_W sc u d (i + 1) loc (.inl (hz_i2b x) :: st) t Q) : hy_W sc u d i loc (.inl x :: st) t Q := fun h1 h2 h3 => by
  refine hx_i2b hop ?_
  have h := kk h1 (hy_cons (hy_Ri _) (hy_one h2).2) h3
  simp only [List.map_cons, hy_v, hz_i2b, hy_oi] at h
  exact h
theorem hy_vcat (v : hy_V) : (hy_v v).category = 1 := hx_v_cat (hy_vv v)
theorem hy_dup {w : hy_V} (hop : (hx_ops u)[i]? = some .dup) (kk : hy_W sc u d (i + 1) loc (w :: w :: st) t Q) : hy_W sc u d i loc (w :: st) t Q := fun h1 h2 h3 =>
  hx_dup hop (hy_vcat w) (kk h1 (hy_cons (hy_one h2).1 h2) h3)
theorem hy_dup2 {w z : hy_V} (hop : (hx_ops u)[i]? = some .dup2) (kk : hy_W sc u d (i + 1) loc (w :: z :: w :: z :: st) t Q) : hy_W sc u d i loc (w :: z :: st) t Q := fun h1 h2 h3 =>
  hx_dup2 hop (hy_vcat w) (hy_vcat z) (kk h1 (hy_cons (hy_one h2).1 (hy_cons (hy_one (hy_one h2).2).1 h2)) h3)
theorem hy_pop {w : hy_V} (hop : (hx_ops u)[i]? = some .pop) (kk : hy_W sc u d (i + 1) loc st t Q) : hy_W sc u d i loc (w :: st) t Q := fun h1 h2 h3 =>
  hx_pop hop (hy_vcat w) (kk h1 (hy_one h2).2 h3)
theorem hy_goto {tt : Nat} (hop : (hx_ops u)[i]? = some (.goto (tt : Int))) (kk : hy_W sc u d tt loc st t Q) : hy_W sc u d i loc st t Q := fun h1 h2 h3 =>
  hx_goto hop (kk h1 h2 h3)
theorem hy_if_eq {x : Int} {tt : Nat} (hop : (hx_ops u)[i]? = some (.ifCond .eq (tt : Int))) (kt : x = 0 → hy_W sc u d tt loc st t Q) (kf : ¬ x = 0 → hy_W sc u d (i + 1) loc st t Q) : hy_W sc u d i loc (.inl x :: st) t Q := fun h1 h2 h3 => by
  obtain ⟨hx, hs⟩ := hy_one h2
  exact hx_if_eq hop (fun q => kt ((hy_eq hx hy_R0).mp q) h1 hs h3) (fun q => kf ((not_congr (hy_eq hx hy_R0)).mp q) h1 hs h3)
theorem hy_if_ne {x : Int} {tt : Nat} (hop : (hx_ops u)[i]? = some (.ifCond .ne (tt : Int))) (kt : ¬ x = 0 → hy_W sc u d tt loc st t Q) (kf : x = 0 → hy_W sc u d (i + 1) loc st t Q) : hy_W sc u d i loc (.inl x :: st) t Q := fun h1 h2 h3 => by
  obtain ⟨hx, hs⟩ := hy_one h2
  exact hx_if_ne hop (fun q => kt ((not_congr (hy_eq hx hy_R0)).mp q) h1 hs h3) (fun q => kf ((hy_eq hx hy_R0).mp q) h1 hs h3)
theorem hy_if_lt {x : Int} {tt : Nat} (hop : (hx_ops u)[i]? = some (.ifCond .lt (tt : Int))) (kt : x < 0 → hy_W sc u d tt loc st t Q) (kf : ¬ x < 0 → hy_W sc u d (i + 1) loc st t Q) : hy_W sc u d i loc (.inl x :: st) t Q := fun h1 h2 h3 => by
  obtain ⟨hx, hs⟩ := hy_one h2
  exact hx_if_lt hop (fun q => kt ((hy_lt hx hy_R0).mp q) h1 hs h3) (fun q => kf ((not_congr (hy_lt hx hy_R0)).mp q) h1 hs h3)
theorem hy_if_ge {x : Int} {tt : Nat} (hop : (hx_ops u)[i]? = some (.ifCond .ge (tt : Int))) (kt : 0 ≤ x → hy_W sc u d tt loc st t Q) (kf : ¬ 0 ≤ x → hy_W sc u d (i + 1) loc st t Q) : hy_W sc u d i loc (.inl x :: st) t Q := fun h1 h2 h3 => by
  obtain ⟨hx, hs⟩ := hy_one h2
  exact hx_if_ge hop (fun q => kt ((hy_le hy_R0 hx).mp q) h1 hs h3) (fun q => kf ((not_congr (hy_le hy_R0 hx)).mp q) h1 hs h3)
theorem hy_if_gt {x : Int} {tt : Nat} (hop : (hx_ops u)[i]? = some (.ifCond .gt (tt : Int))) (kt : 0 < x → hy_W sc u d tt loc st t Q) (kf : ¬ 0 < x → hy_W sc u d (i + 1) loc st t Q) : hy_W sc u d i loc (.inl x :: st) t Q := fun h1 h2 h3 => by
  obtain ⟨hx, hs⟩ := hy_one h2
  exact hx_if_gt hop (fun q => kt ((hy_lt hy_R0 hx).mp q) h1 hs h3) (fun q => kf ((not_congr (hy_lt hy_R0 hx)).mp q) h1 hs h3)
theorem hy_if_le {x : Int} {tt : Nat} (hop : (hx_ops u)[i]? = some (.ifCond .le (tt : Int))) (kt : x ≤ 0 → hy_W sc u d tt loc st t Q) (kf : ¬ x ≤ 0 → hy_W sc u d (i + 1) loc st t Q) : hy_W sc u d i loc (.inl x :: st) t Q := fun h1 h2 h3 => by
  obtain ⟨hx, hs⟩ := hy_one h2
  exact hx_if_le hop (fun q => kt ((hy_le hx hy_R0).mp q) h1 hs h3) (fun q => kf ((not_congr (hy_le hx hy_R0)).mp q) h1 hs h3)
theorem hy_ic_eq {x y : Int} {tt : Nat} (hop : (hx_ops u)[i]? = some (.if_icmp .eq (tt : Int))) (kt : x = y → hy_W sc u d tt loc st t Q) (kf : ¬ x = y → hy_W sc u d (i + 1) loc st t Q) : hy_W sc u d i loc (.inl y :: .inl x :: st) t Q := fun h1 h2 h3 => by
  obtain ⟨hx, hy, hs⟩ := hy_two h2
  exact hx_ic_eq hop (fun q => kt ((hy_eq hx hy).mp q) h1 hs h3) (fun q => kf ((not_congr (hy_eq hx hy)).mp q) h1 hs h3)
theorem hy_ic_ne {x y : Int} {tt : Nat} (hop : (hx_ops u)[i]? = some (.if_icmp .ne (tt : Int))) (kt : ¬ x = y → hy_W sc u d tt loc st t Q) (kf : x = y → hy_W sc u d (i + 1) loc st t Q) : hy_W sc u d i loc (.inl y :: .inl x :: st) t Q := fun h1 h2 h3 => by
  obtain ⟨hx, hy, hs⟩ := hy_two h2
  exact hx_ic_ne hop (fun q => kt ((not_congr (hy_eq hx hy)).mp q) h1 hs h3) (fun q => kf ((hy_eq hx hy).mp q) h1 hs h3)
theorem hy_ic_lt {x y : Int} {tt : Nat} (hop : (hx_ops u)[i]? = some (.if_icmp .lt (tt : Int))) (kt : x < y → hy_W sc u d tt loc st t Q) (kf : ¬ x < y → hy_W sc u d (i + 1) loc st t Q) : hy_W sc u d i loc (.inl y :: .inl x :: st) t Q := fun h1 h2 h3 => by
  obtain ⟨hx, hy, hs⟩ := hy_two h2
  exact hx_ic_lt hop (fun q => kt ((hy_lt hx hy).mp q) h1 hs h3) (fun q => kf ((not_congr (hy_lt hx hy)).mp q) h1 hs h3)
theorem hy_ic_ge {x y : Int} {tt : Nat} (hop : (hx_ops u)[i]? = some (.if_icmp .ge (tt : Int))) (kt : y ≤ x → hy_W sc u d tt loc st t Q) (kf : ¬ y ≤ x → hy_W sc u d (i + 1) loc st t Q) : hy_W sc u d i loc (.inl y :: .inl x :: st) t Q := fun h1 h2 h3 => by
  obtain ⟨hx, hy, hs⟩ := hy_two h2
  exact hx_ic_ge hop (fun q => kt ((hy_le hy hx).mp q) h1 hs h3) (fun q => kf ((not_congr (hy_le hy hx)).mp q) h1 hs h3)
theorem hy_ic_gt {x y : Int} {tt : Nat} (hop : (hx_ops u)[i]? = some (.if_icmp .gt (tt : Int))) (kt : y < x → hy_W sc u d tt loc st t Q) (kf : ¬ y < x → hy_W sc u d (i + 1) loc st t Q) : hy_W sc u d i loc (.inl y :: .inl x :: st) t Q := fun h1 h2 h3 => by
  obtain ⟨hx, hy, hs⟩ := hy_two h2
  exact hx_ic_gt hop (fun q => kt ((hy_lt hy hx).mp q) h1 hs h3) (fun q => kf ((not_congr (hy_lt hy hx)).mp q) h1 hs h3)
theorem hy_ic_le {x y : Int} {tt : Nat} (hop : (hx_ops u)[i]? = some (.if_icmp .le (tt : Int))) (kt : x ≤ y → hy_W sc u d tt loc st t Q) (kf : ¬ x ≤ y → hy_W sc u d (i + 1) loc st t Q) : hy_W sc u d i loc (.inl y :: .inl x :: st) t Q := fun h1 h2 h3 => by
  obtain ⟨hx, hy, hs⟩ := hy_two h2
  exact hx_ic_le hop (fun q => kt ((hy_le hx hy).mp q) h1 hs h3) (fun q => kf ((not_congr (hy_le hx hy)).mp q) h1 hs h3)
theorem hy_b_eq {p : Bool} : hy_b p = 0 ↔ p = false := by cases p <;> simp [hy_b]
theorem hy_b_ne {p : Bool} : ¬ hy_b p = 0 ↔ p = true := by cases p <;> simp [hy_b]
theorem hy_ib_eq {p : Bool} {tt : Nat} (hop : (hx_ops u)[i]? = some (.ifCond .eq (tt : Int))) (kt : p = false → hy_W sc u d tt loc st t Q) (kf : p = true → hy_W sc u d (i + 1) loc st t Q) : hy_W sc u d i loc (.inl (hy_b p) :: st) t Q :=
  hy_if_eq hop (fun q => kt (hy_b_eq.mp q)) (fun q => kf (hy_b_ne.mp q))
theorem hy_ib_ne {p : Bool} {tt : Nat} (hop : (hx_ops u)[i]? = some (.ifCond .ne (tt : Int))) (kt : p = true → hy_W sc u d tt loc st t Q) (kf : p = false → hy_W sc u d (i + 1) loc st t Q) : hy_W sc u d i loc (.inl (hy_b p) :: st) t Q :=
  hy_if_ne hop (fun q => kt (hy_b_ne.mp q)) (fun q => kf (hy_b_eq.mp q))
/-! fields and arrays -/
theorem hy_get {f r fk : Nat} (hop : (hx_ops u)[i]? = some (.getfield f)) (hs : hy_fld r f = some none) (hfk : f % 100 = fk) (kk : hy_W sc u d (i + 1) loc (.inl (t r fk) :: st) t Q) : hy_W sc u d i loc (.inr (some r) :: st) t Q := fun h1 h2 h3 => by
  subst hfk
  obtain ⟨k, fr, rfl, e1, e2⟩ := hy_fld_s hs
  refine hx_get hop (a := k) (w := .int (Int32.ofInt (t (k + 2) (f % 100)))) (by rw [hy_mk_at, e1]; rfl) rfl ?_ (kk h1 (hy_cons (h3 _ _) (hy_one h2).2) h3)
  rw [List.getElem?_mapIdx, e2]
  rfl
theorem hy_getr {f r a : Nat} (hop : (hx_ops u)[i]? = some (.getfield f)) (hs : hy_fld r f = some (some a)) (kk : hy_W sc u d (i + 1) loc (.inr (some a) :: st) t Q) : hy_W sc u d i loc (.inr (some r) :: st) t Q := fun h1 h2 h3 => by
  obtain ⟨k, fr, rfl, e1, e2⟩ := hy_fld_s hs
  refine hx_get hop (a := k) (w := .ref a) (by rw [hy_mk_at, e1]; rfl) rfl ?_ (kk h1 (hy_cons trivial (hy_one h2).2) h3)
  rw [List.getElem?_mapIdx, e2]
  rfl
theorem hy_puts {f r : Nat} {x : Int} {ty : FieldType} (hop : (hx_ops u)[i]? = some (.putfield f)) (hs : hy_fld r f = some none) (hd : (hx_cl[f / 100]?).bind (fun q => parseFieldDescriptor (q.2.1 (f % 100)).2.2.1) = some ty) (hn : narrow ty (.int (Int32.ofInt x)) = .int (Int32.ofInt x)) (hft : fits ty (.int (Int32.ofInt x)) = true) (kk : hy_W sc u d (i + 1) loc st (hy_up t r (f % 100) x) Q) : hy_W sc u d i loc (.inl x :: .inr (some r) :: st) t Q := fun h1 h2 h3 => by
  obtain ⟨k, fr, rfl, e1, e2⟩ := hy_fld_s hs
  have hl := (List.getElem?_eq_some_iff.mp e2).1
  refine hx_put hop (a := k) (w := .int (Int32.ofInt x)) (by rw [hy_mk_at, e1]; rfl) rfl (by rw [List.length_mapIdx]; exact hl) hd (fun _ _ _ => hn) (fun _ _ _ => hft) ?_
  rw [hy_set_f e1 e2]
  exact kk h1 (hy_one (hy_one h2).2).2 (hy_up_R h3 (hy_one h2).1)
theorem hy_put {f r fk : Nat} {x : Int} (hop : (hx_ops u)[i]? = some (.putfield f)) (hs : hy_fld r f = some none) (hfk : f % 100 = fk) (hd : (hx_cl[f / 100]?).bind (fun q => parseFieldDescriptor (q.2.1 (f % 100)).2.2.1) = some .int) (kk : hy_W sc u d (i + 1) loc st (hy_up t r fk x) Q) : hy_W sc u d i loc (.inl x :: .inr (some r) :: st) t Q := by
  subst hfk
  exact hy_puts hop hs hd rfl rfl kk
theorem hy_putz {f r fk : Nat} {x : Int} (hop : (hx_ops u)[i]? = some (.putfield f)) (hs : hy_fld r f = some none) (hfk : f % 100 = fk) (hd : (hx_cl[f / 100]?).bind (fun q => parseFieldDescriptor (q.2.1 (f % 100)).2.2.1) = some .boolean) (hx : x = 0 ∨ x = 1) (kk : hy_W sc u d (i + 1) loc st (hy_up t r fk x) Q) : hy_W sc u d i loc (.inl x :: .inr (some r) :: st) t Q := by
  subst hfk
  exact hy_puts hop hs hd (by rcases hx with rfl | rfl <;> rfl) (by rcases hx with rfl | rfl <;> rfl) kk
theorem hy_iald {z : Int} {r n k : Nat} (hop : (hx_ops u)[i]? = some .iaload) (ha : hy_arr r = some (0, n)) (hz : 0 ≤ z ∧ z < n) (hk : z.toNat = k) (kk : hy_W sc u d (i + 1) loc (.inl (t r k) :: st) t Q) : hy_W sc u d i loc (.inl z :: .inr (some r) :: st) t Q := fun h1 h2 h3 => by
  subst hk
  obtain ⟨k, rfl, e1⟩ := hy_arr_s ha
  obtain ⟨hzR, hs⟩ := hy_one h2
  refine hx_iald hop (a := k) (by rw [hy_mk_at, e1]; rfl) (by rw [hy_arr_len]; exact hy_in hzR hz) ?_
  rw [hy_cl hzR, hy_arr_get _ _ _ (by omega)]
  exact kk h1 (hy_cons (h3 _ _) (hy_one hs).2) h3
theorem hy_bald {z : Int} {r n ty k : Nat} (hop : (hx_ops u)[i]? = some .baload) (ha : hy_arr r = some (ty, n)) (hty : ty = 1 ∨ ty = 2) (hz : 0 ≤ z ∧ z < n) (hk : z.toNat = k) (kk : hy_W sc u d (i + 1) loc (.inl (t r k) :: st) t Q) : hy_W sc u d i loc (.inl z :: .inr (some r) :: st) t Q := fun h1 h2 h3 => by
  subst hk
  obtain ⟨k, rfl, e1⟩ := hy_arr_s ha
  obtain ⟨hzR, hs⟩ := hy_one h2
  refine hx_bald hop (a := k) (xs := (List.range n).map (fun j => Int32.ofInt (t (k + 2) j))) (by rw [hy_mk_at, e1]; rcases hty with rfl | rfl; exact Or.inl rfl; exact Or.inr rfl) (by rw [hy_arr_len]; exact hy_in hzR hz) ?_
  rw [hy_cl hzR, hy_arr_get _ _ _ (by omega)]
  exact kk h1 (hy_cons (h3 _ _) (hy_one hs).2) h3
theorem hy_alen {r n ty : Nat} (hop : (hx_ops u)[i]? = some .arraylength) (ha : hy_arr r = some (ty, n)) (hty : ty < 3) (hn : hy_R n) (kk : hy_W sc u d (i + 1) loc (.inl (n : Int) :: st) t Q) : hy_W sc u d i loc (.inr (some r) :: st) t Q := fun h1 h2 h3 => by
  obtain ⟨k, rfl, e1⟩ := hy_arr_s ha
  refine hx_alen hop (a := k) (t := ty) hty (by rw [hy_mk_at, e1]; rfl) ?_
  rw [hy_arr_len]
  exact kk h1 (hy_cons hn (hy_one h2).2) h3
theorem hy_iast {z x : Int} {r n k : Nat} (hop : (hx_ops u)[i]? = some .iastore) (ha : hy_arr r = some (0, n)) (hz : 0 ≤ z ∧ z < n) (hk : z.toNat = k) (kk : hy_W sc u d (i + 1) loc st (hy_up t r k x) Q) : hy_W sc u d i loc (.inl x :: .inl z :: .inr (some r) :: st) t Q := fun h1 h2 h3 => by
  subst hk
  obtain ⟨k, rfl, e1⟩ := hy_arr_s ha
  obtain ⟨hxR, hs⟩ := hy_one h2
  obtain ⟨hzR, hs⟩ := hy_one hs
  refine hx_iast hop (a := k) (x := Int32.ofInt x) (by rw [hy_mk_at, e1]; rfl) (by rw [hy_arr_len]; exact hy_in hzR hz) ?_
  rw [hy_cl hzR, hy_set_a e1 (by omega)]
  exact kk h1 (hy_one hs).2 (hy_up_R h3 hxR)
theorem hy_bast {z x : Int} {r n k : Nat} (hop : (hx_ops u)[i]? = some .bastore) (ha : hy_arr r = some (1, n)) (hz : 0 ≤ z ∧ z < n) (hk : z.toNat = k) (hx8 : -128 ≤ x ∧ x ≤ 127) (kk : hy_W sc u d (i + 1) loc st (hy_up t r k x) Q) : hy_W sc u d i loc (.inl x :: .inl z :: .inr (some r) :: st) t Q := fun h1 h2 h3 => by
  subst hk
  obtain ⟨k, rfl, e1⟩ := hy_arr_s ha
  obtain ⟨hxR, hs⟩ := hy_one h2
  obtain ⟨hzR, hs⟩ := hy_one hs
  refine hx_bast hop (a := k) (x := Int32.ofInt x) (by rw [hy_mk_at, e1]; rfl) ?_ (by rw [hy_arr_len]; exact hy_in hzR hz) ?_
  · rw [vp_nar_byte, ← Int32.toInt_inj]
    simp only [Int8.toInt_toInt32, Int32.toInt_toInt8, hy_ti hxR]
    rw [Int.bmod_def]
    omega
  · rw [hy_cl hzR, hy_set_a e1 (by omega)]
    exact kk h1 (hy_one hs).2 (hy_up_R h3 hxR)
theorem hy_zast {z x : Int} {r n k : Nat} (hop : (hx_ops u)[i]? = some .bastore) (ha : hy_arr r = some (2, n)) (hz : 0 ≤ z ∧ z < n) (hk : z.toNat = k) (hx8 : x = 0 ∨ x = 1) (kk : hy_W sc u d (i + 1) loc st (hy_up t r k x) Q) : hy_W sc u d i loc (.inl x :: .inl z :: .inr (some r) :: st) t Q := fun h1 h2 h3 => by
  subst hk
  obtain ⟨k, rfl, e1⟩ := hy_arr_s ha
  obtain ⟨hxR, hs⟩ := hy_one h2
  obtain ⟨hzR, hs⟩ := hy_one hs
  refine hx_zast hop (a := k) (x := Int32.ofInt x) (by rw [hy_mk_at, e1]; rfl) (by rcases hx8 with rfl | rfl; exact Or.inl rfl; exact Or.inr rfl) (by rw [hy_arr_len]; exact hy_in hzR hz) ?_
  rw [hy_cl hzR, hy_set_a e1 (by omega)]
  exact kk h1 (hy_one hs).2 (hy_up_R h3 hxR)
theorem hy_gets {n : Nat} (hop : (hx_ops u)[i]? = some (.getstatic n)) (kk : hy_W sc u d (i + 1) loc (.inr (some 1) :: st) t Q) : hy_W sc u d i loc st t Q := fun h1 h2 h3 =>
  hx_gets hop (kk h1 (hy_cons trivial h2) h3)
theorem hy_alen_o (hop : (hx_ops u)[i]? = some .arraylength) (kk : hy_W sc u d (i + 1) loc (.inl 6 :: st) t Q) : hy_W sc u d i loc (.inr (some 1) :: st) t Q := fun h1 h2 h3 =>
  hx_alen_o hop (kk h1 (hy_cons (by decide +kernel : hy_R 6) (hy_one h2).2) h3)
theorem hy_iald_o {z : Int} (hop : (hx_ops u)[i]? = some .iaload) (hz : 0 ≤ z ∧ z < 6) (kk : hy_W sc u d (i + 1) loc (.inl ([1, 1, 2, 6, 24, 120].getD z.toNat 0) :: st) t Q) : hy_W sc u d i loc (.inl z :: .inr (some 1) :: st) t Q := fun h1 h2 h3 => by
  obtain ⟨hzR, hs⟩ := hy_one h2
  refine hx_iald_o hop (hy_in hzR hz) ?_
  have hg : ∀ n : Nat, n < 6 → hx_ors.getD n 0 = Int32.ofInt ([1, 1, 2, 6, 24, 120].getD n 0) ∧ hy_R ([1, 1, 2, 6, 24, 120].getD n 0) := by decide +kernel
  have hz6 : z.toNat < 6 := by omega
  rw [hy_cl hzR, (hg _ hz6).1]
  exact kk h1 (hy_cons (hg _ hz6).2 (hy_one hs).2) h3
/-! Math, copies, switches, ends -/
theorem hy_min {x y : Int} (hop : (hx_ops u)[i]? = some (.invokestatic 9991)) (hl : st.length ≤ 8) (kk : hy_W sc u d (i + 1) loc (.inl (if y < x then y else x) :: st) t Q) : hy_W sc u d i loc (.inl y :: .inl x :: st) t Q := fun h1 h2 h3 => by
  obtain ⟨hx, hy, hs⟩ := hy_two h2
  refine hx_min hop (hy_vall st) (by rw [List.length_map]; exact hl) ?_
  have h := kk h1 (hy_cons (show hy_R (if y < x then y else x) by split <;> assumption) hs) h3
  simp only [hy_lt hy hx]
  split at h <;> next q => simp only [q, if_true, if_false] <;> exact h
theorem hy_max {x y : Int} (hop : (hx_ops u)[i]? = some (.invokestatic 9992)) (hl : st.length ≤ 8) (kk : hy_W sc u d (i + 1) loc (.inl (if x < y then y else x) :: st) t Q) : hy_W sc u d i loc (.inl y :: .inl x :: st) t Q := fun h1 h2 h3 => by
  obtain ⟨hx, hy, hs⟩ := hy_two h2
  refine hx_max hop (hy_vall st) (by rw [List.length_map]; exact hl) ?_
  have h := kk h1 (hy_cons (show hy_R (if x < y then y else x) by split <;> assumption) hs) h3
  simp only [hy_lt hx hy]
  split at h <;> next q => simp only [q, if_true, if_false] <;> exact h
theorem hy_abs {x : Int} (hop : (hx_ops u)[i]? = some (.invokestatic 9993)) (hl : st.length ≤ 8) (hm : -2147483648 < x) (kk : hy_W sc u d (i + 1) loc (.inl (if 0 ≤ x then x else -x) :: st) t Q) : hy_W sc u d i loc (.inl x :: st) t Q := fun h1 h2 h3 => by
  obtain ⟨hx, hs⟩ := hy_one h2
  have hx : hy_R x := hx
  refine hx_abs hop (hy_vall st) (by rw [List.length_map]; exact hl) ?_
  have h := kk h1 (hy_cons (show hy_R (if 0 ≤ x then x else -x) by unfold hy_R at *; split <;> omega) hs) h3
  have e : (0 : Int32) ≤ Int32.ofInt x ↔ 0 ≤ x := hy_le hy_R0 hx
  simp only [e]
  split at h
  · next q => simp only [q, if_true]; exact h
  · next q => simp only [q, if_false]; rw [show (0 : Int32) - Int32.ofInt x = Int32.ofInt (-x) by rw [Int32.ofInt_neg]; simp]; exact h
theorem hy_ireturn {x : Int} (hop : (hx_ops u)[i]? = some .ireturn) (hr : hx_ret u = some .int) (hQ : Q (some x) t) : hy_W sc u d i loc [.inl x] t Q := fun _ h2 h3 =>
  hx_ireturn hop hr rfl ⟨some x, t, rfl, rfl, h3, fun y hy => by cases hy; exact (hy_one h2).1, hQ⟩
theorem hy_zreturn {x : Int} (hop : (hx_ops u)[i]? = some .ireturn) (hr : hx_ret u = some .boolean) (hx : x = 0 ∨ x = 1) (hQ : Q (some x) t) : hy_W sc u d i loc [.inl x] t Q := fun _ h2 h3 =>
  hx_ireturn hop hr (by rcases hx with rfl | rfl <;> rfl) ⟨some x, t, rfl, rfl, h3, fun y hy => by cases hy; exact (hy_one h2).1, hQ⟩
theorem hy_return (hop : (hx_ops u)[i]? = some .return_) (hr : hx_ret u = none) (hQ : Q none t) : hy_W sc u d i loc [] t Q := fun _ _ h3 =>
  hx_return hop hr ⟨none, t, rfl, rfl, h3, fun y hy => (by cases hy), hQ⟩
theorem hy_tsw {dd lo hi : Int} {offs : Array Int} {x : Int} {tt : Nat} (hop : (hx_ops u)[i]? = some (.tableswitch dd lo hi offs)) (ht : (if x < lo ∨ hi < x then some dd else offs.toList[(x - lo).toNat]?) = some (tt : Int)) (kk : hy_W sc u d tt loc st t Q) : hy_W sc u d i loc (.inl x :: st) t Q := fun h1 h2 h3 =>
  hx_tsw hop (by rw [hy_ti (hy_one h2).1]; exact ht) (kk h1 (hy_one h2).2 h3)
theorem hy_lsw {dd : Int} {ps : Array (Int × Int)} {x : Int} {tt : Nat} (hop : (hx_ops u)[i]? = some (.lookupswitch dd ps)) (ht : hx_look dd ps.toList x = (tt : Int)) (kk : hy_W sc u d tt loc st t Q) : hy_W sc u d i loc (.inl x :: st) t Q := fun h1 h2 h3 =>
  hx_lsw hop (by rw [hy_ti (hy_one h2).1]; exact ht) (kk h1 (hy_one h2).2 h3)
theorem hy_W.mono {Q' : Option Int → hy_T → Prop} (k : hy_W sc u d i loc st t Q') (hQ : ∀ r t', Q' r t' → Q r t') : hy_W sc u d i loc st t Q := fun h1 h2 h3 =>
  (k h1 h2 h3).mono (Nat.le_refl _) (Nat.le_refl _) (fun r h' ⟨r', t', a1, a2, a3, a4, a5⟩ => ⟨r', t', a1, a2, a3, a4, hQ r' t' a5⟩)
theorem hy_Ct.mono {as : List hy_V} {Q' : Option Int → hy_T → Prop} (k : hy_Ct sc u d as t Q') (hQ : ∀ r t', Q' r t' → Q r t') : hy_Ct sc u d as t Q := fun h1 h2 => by
  obtain ⟨c1, c2⟩ := k h1 h2
  refine ⟨c1, fun l b o base D cA => ?_⟩
  intro p e x1 x2 x3 s m args below x4 x5 x6 x7
  obtain ⟨n, oc, g1, g2, g3, ⟨⟨r, h', g4, ⟨r', t', a1, a2, a3, a4, a5⟩, g6⟩, g7⟩, g8⟩ := c2 l b o base D cA p e x1 x2 x3 s m args below x4 x5 x6 x7
  exact ⟨n, oc, g1, g2, g3, ⟨⟨r, h', g4, ⟨r', t', a1, a2, a3, a4, hQ r' t' a5⟩, g6⟩, g7⟩, g8⟩
/-- a contract out of a walk -/
theorem hy_mk_ct {as : List hy_V} (hok : hx_okO u = true) (hcal : hx_cal u) (hl : as.length ≤ hx_L u) (kk : hy_W sc u d 0 (as ++ List.replicate (hx_L u - as.length) (.inr none)) [] t Q) : hy_Ct sc u d as t Q := fun h1 h2 => by
  refine hx_mk hok hcal (by rw [List.length_map]; exact hl) (hy_vall as) ?_
  have h := kk (fun v hv => by
    rcases List.mem_append.mp hv with h | h
    · exact h1 v h
    · rw [List.eq_of_mem_replicate h]; exact trivial) (fun v hv => by cases hv) h2
  rw [List.map_append, List.map_replicate] at h
  rw [List.length_map]
  exact h
end HYR
section HYC
variable {sc : List Int32} {u v : hx_M} {d d' i j : Nat} {loc as rest : List hy_V} {t : hy_T} {Q Q' : Option Int → hy_T → Prop}
theorem hy_st_v (r : Option Int) : (hy_st r).map hy_v = hx_st (r.map Int32.ofInt) := by cases r <;> rfl
theorem hy_after {h' : hx_H} {r : Option Int32} (hq : hy_Q Q' r h') (h1 : ∀ v ∈ loc, hy_ok v) (h2 : ∀ v ∈ rest, hy_ok v) (kk : ∀ r t', Q' r t' → hy_W sc u d (i + 1) loc (hy_st r ++ rest) t' Q) : hx_W sc u d (i + 1) (loc.map hy_v) (hx_st r ++ rest.map hy_v) h' 0 0 (hy_Q Q) := by
  obtain ⟨r', t', e1, e2, a3, a4, a5⟩ := hq
  have hs : ∀ w ∈ hy_st r' ++ rest, hy_ok w := by
    intro w hw
    rcases List.mem_append.mp hw with h | h
    · cases r' with
      | none => cases h
      | some x => rw [List.mem_singleton.mp h]; exact a4 x rfl
    · exact h2 w h
  have h := kk r' t' a5 h1 hs a3
  rw [List.map_append, hy_st_v] at h
  rw [e1, e2]
  exact h
theorem hy_callV {r ci : Nat} {q : vw_C} (hop : (hx_ops u)[i]? = some (.invokevirtual j)) (hj : hx_ms[j]? = some v) (hd : d' < d) (hn : as.length = hx_na v) (hrl : rest.length ≤ 8) (hr : hy_cls r = some ci) (hcl : hx_cl[ci]? = some q) (hqy : q.1 = (hx_y v).cls)
    (hct : hy_Ct sc v d' (.inr (some r) :: as) t Q') (kk : ∀ r t', Q' r t' → hy_W sc u d (i + 1) loc (hy_st r ++ rest) t' Q) : hy_W sc u d i loc (as.reverse ++ .inr (some r) :: rest) t Q := fun h1 h2 h3 => by
  obtain ⟨k, fr, rfl, e1⟩ := hy_cls_s hr
  have ha : ∀ v ∈ as, hy_ok v := fun v hv => h2 v (List.mem_append_left _ (List.mem_reverse.mpr hv))
  have hs : ∀ v ∈ rest, hy_ok v := fun v hv => h2 v (List.mem_append_right _ (List.mem_cons_of_mem _ hv))
  have hc := hct (hy_cons trivial ha) h3
  rw [List.map_append, List.map_reverse, List.map_cons]
  exact hx_callV (kc := 0) (ks := 0) (kc' := 0) (ks' := 0) (a := k) hop hj hd (by rw [List.length_map]; exact hn) (hy_vall rest) (by rw [List.length_map]; exact hrl) (by rw [hy_mk_at, e1]; rfl) hcl hqy hc (fun r h' hq => hy_after hq h1 hs kk)
theorem hy_callS (hop : (hx_ops u)[i]? = some (.invokestatic j)) (hj9 : j < 9991) (hj : hx_ms[j]? = some v) (hd : d' < d) (hn : as.length = hx_na v) (hrl : rest.length ≤ 8)
    (hct : hy_Ct sc v d' as t Q') (kk : ∀ r t', Q' r t' → hy_W sc u d (i + 1) loc (hy_st r ++ rest) t' Q) : hy_W sc u d i loc (as.reverse ++ rest) t Q := fun h1 h2 h3 => by
  have ha : ∀ v ∈ as, hy_ok v := fun v hv => h2 v (List.mem_append_left _ (List.mem_reverse.mpr hv))
  have hs : ∀ v ∈ rest, hy_ok v := fun v hv => h2 v (List.mem_append_right _ hv)
  have hc := hct ha h3
  rw [List.map_append, List.map_reverse]
  exact hx_callS (kc := 0) (ks := 0) (kc' := 0) (ks' := 0) hop hj9 hj hd (by rw [List.length_map]; exact hn) (hy_vall rest) (by rw [List.length_map]; exact hrl) hc (fun r h' hq => hy_after hq h1 hs kk)
end HYC
