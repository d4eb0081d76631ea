/-! the class: what stays true behind every call -/
abbrev pr_ok (t : hy_T) : Prop := ∀ j : Nat, j < 12 → (-1 ≤ t 6 j ∧ t 6 j < 12) ∧ -1 ≤ t 7 j ∧ t 7 j < 12
def cK (t : hy_T) : Prop := ((tp_ok t ∧ lc_ok t) ∧ da_ok t ∧ ln_ok t) ∧ (st_ok 33 t ∧ st_ok 37 t) ∧ pa_stk t ∧ pr_ok t
theorem cK.tp {t : hy_T} (h : cK t) : tp_ok t := h.1.1.1
theorem cK.lc {t : hy_T} (h : cK t) : lc_ok t := h.1.1.2
theorem cK.da {t : hy_T} (h : cK t) : da_ok t := h.1.2.1
theorem cK.ln {t : hy_T} (h : cK t) : ln_ok t := h.1.2.2
theorem cK.s1 {t : hy_T} (h : cK t) : st_ok 33 t := h.2.1.1
theorem cK.s2 {t : hy_T} (h : cK t) : st_ok 37 t := h.2.1.2
theorem cK.sk {t : hy_T} (h : cK t) : pa_stk t := h.2.2.1
theorem cK.pr {t : hy_T} (h : cK t) : pr_ok t := h.2.2.2
abbrev ckT : Nat → Nat → Bool := fun r j => (r == 3 && (j == 1 || j == 2 || j == 3)) || r == 4
abbrev ckN : Nat → Nat → Bool := fun r _ => r == 28 || r == 29 || r == 31 || r == 32
abbrev ckS (b : Nat) : Nat → Nat → Bool := fun r j => (r == b && (j == 3 || j == 4 || j == 5)) || r == b + 3
abbrev ckP : Nat → Nat → Bool := fun r _ => r == 6 || r == 7
abbrev frees (X Y : Nat → Nat → Bool) : Prop := ∀ r j, Y r j = true → X r j = false
theorem ck_tp {X : Nat → Nat → Bool} {t t1 : hy_T} (h : hy_F X t t1) (hx : frees X ckT) (k : tp_ok t) : tp_ok t1 :=
  ⟨fun j hj => by rw [h 4 j (hx 4 j rfl)]; exact k.b j hj, by rw [h 3 1 (hx 3 1 rfl)]; exact k.l, by rw [h 3 2 (hx 3 2 rfl)]; exact k.e, by rw [h 3 3 (hx 3 3 rfl)]; exact k.p⟩
theorem ck_lc {X : Nat → Nat → Bool} {t t1 : hy_T} (h : hy_F X t t1) (hx : frees X lawX) (k : lc_ok t) : lc_ok t1 := lc_ok_same (lc_same_of h hx) k
theorem ck_ln {X : Nat → Nat → Bool} {t t1 : hy_T} (h : hy_F X t t1) (hx : frees X ckN) (k : ln_ok t) : ln_ok t1 :=
  ln_ok_F h (fun j => hx 28 j rfl) (fun j => hx 29 j rfl) (fun j => hx 31 j rfl) (fun j => hx 32 j rfl) k
theorem ck_st {b : Nat} {X : Nat → Nat → Bool} {t t1 : hy_T} (h : hy_F X t t1) (hx : frees X (ckS b)) (k : st_ok b t) : st_ok b t1 :=
  ⟨by rw [h b 3 (hx b 3 (by simp))]; exact k.c, by rw [h b 4 (hx b 4 (by simp))]; exact k.d, by rw [h b 5 (hx b 5 (by simp))]; exact k.w, fun j hj => by rw [h (b + 3) j (hx (b + 3) j (by simp))]; exact k.t j hj⟩
theorem ck_pr {X : Nat → Nat → Bool} {t t1 : hy_T} (h : hy_F X t t1) (hx : frees X ckP) (k : pr_ok t) : pr_ok t1 := fun j hj => by
  rw [h 6 j (hx 6 j rfl), h 7 j (hx 7 j rfl)]
  exact k j hj
/-- a call that leaves all of this alone -/
abbrev ckX : Nat → Nat → Bool := fun r j => ckT r j || lawX r j || r == 21 || ckN r j || ckS 33 r j || ckS 37 r j || r == 56 || ckP r j
theorem cK_F {X : Nat → Nat → Bool} {t t1 : hy_T} (h : hy_F X t t1) (hx : frees X ckX) (k : cK t) : cK t1 :=
  ⟨⟨⟨ck_tp h (fun r j q => hx r j (by simp only [ckX, q]; simp)) k.tp, ck_lc h (fun r j q => hx r j (by simp only [ckX, q]; simp)) k.lc⟩, da_F h (fun j => hx 21 j (by simp [ckX])) k.da, ck_ln h (fun r j q => hx r j (by simp only [ckX, q]; simp)) k.ln⟩,
   ⟨ck_st h (fun r j q => hx r j (by simp only [ckX, q]; simp)) k.s1, ck_st h (fun r j q => hx r j (by simp only [ckX, q]; simp)) k.s2⟩, pa_stk_F h (fun j => hx 56 j (by simp [ckX])) k.sk, ck_pr h (fun r j q => hx r j (by simp only [ckX, q]; simp)) k.pr⟩
