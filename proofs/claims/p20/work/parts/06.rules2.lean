section HXS
variable {sc : List Int32} {u : hx_M} {d i : Nat} {loc st : List Value} {h : hx_H} {kc ks : Nat} {Q : Option Int32 → hx_H → Prop}
theorem hx_off_t {u : hx_M} {i t : Nat} : (hx_pc u i : Int) + hx_off u i (t : Int) = (hx_pc u t : Int) := by
  unfold hx_off
  simp
  omega
theorem hx_iadd {x y : Int32} (hop : (hx_ops u)[i]? = some .iadd) (kk : hx_W sc u d (i + 1) loc (.int (x + y) :: st) h kc ks Q) : hx_W sc u d i loc (.int y :: .int x :: st) h kc ks Q := by
  intro b o base D cA p l e R s m args below meth c H locs cells slots Qm ls hok hc hf hR hw hS hL hq
  have h1 := hx_at hok hop
  have h2 := kk b o base D cA p l e R s m args below meth c H locs cells slots Qm ls hok hc hf hR hw hS hL hq
  obtain ⟨e1, e2⟩ := hx_dec_s (show hx_dec u i .iadd 1 = true from h1)
  rw [e2] at h2
  exact lv_iadd hc.1 hc.2.1 e1 h2
theorem hx_isub {x y : Int32} (hop : (hx_ops u)[i]? = some .isub) (kk : hx_W sc u d (i + 1) loc (.int (x - y) :: st) h kc ks Q) : hx_W sc u d i loc (.int y :: .int x :: st) h kc ks Q := by
  intro b o base D cA p l e R s m args below meth c H locs cells slots Qm ls hok hc hf hR hw hS hL hq
  have h1 := hx_at hok hop
  have h2 := kk b o base D cA p l e R s m args below meth c H locs cells slots Qm ls hok hc hf hR hw hS hL hq
  obtain ⟨e1, e2⟩ := hx_dec_s (show hx_dec u i .isub 1 = true from h1)
  rw [e2] at h2
  exact lv_isub hc.1 hc.2.1 e1 h2
theorem hx_imul {x y : Int32} (hop : (hx_ops u)[i]? = some .imul) (kk : hx_W sc u d (i + 1) loc (.int (x * y) :: st) h kc ks Q) : hx_W sc u d i loc (.int y :: .int x :: st) h kc ks Q := by
  intro b o base D cA p l e R s m args below meth c H locs cells slots Qm ls hok hc hf hR hw hS hL hq
  have h1 := hx_at hok hop
  have h2 := kk b o base D cA p l e R s m args below meth c H locs cells slots Qm ls hok hc hf hR hw hS hL hq
  obtain ⟨e1, e2⟩ := hx_dec_s (show hx_dec u i .imul 1 = true from h1)
  rw [e2] at h2
  exact lv_imul hc.1 hc.2.1 e1 h2
theorem hx_iand {x y : Int32} (hop : (hx_ops u)[i]? = some .iand) (kk : hx_W sc u d (i + 1) loc (.int (x &&& y) :: st) h kc ks Q) : hx_W sc u d i loc (.int y :: .int x :: st) h kc ks Q := by
  intro b o base D cA p l e R s m args below meth c H locs cells slots Qm ls hok hc hf hR hw hS hL hq
  have h1 := hx_at hok hop
  have h2 := kk b o base D cA p l e R s m args below meth c H locs cells slots Qm ls hok hc hf hR hw hS hL hq
  obtain ⟨e1, e2⟩ := hx_dec_s (show hx_dec u i .iand 1 = true from h1)
  rw [e2] at h2
  exact lv_iand hc.1 hc.2.1 e1 h2
theorem hx_ior {x y : Int32} (hop : (hx_ops u)[i]? = some .ior) (kk : hx_W sc u d (i + 1) loc (.int (x ||| y) :: st) h kc ks Q) : hx_W sc u d i loc (.int y :: .int x :: st) h kc ks Q := by
  intro b o base D cA p l e R s m args below meth c H locs cells slots Qm ls hok hc hf hR hw hS hL hq
  have h1 := hx_at hok hop
  have h2 := kk b o base D cA p l e R s m args below meth c H locs cells slots Qm ls hok hc hf hR hw hS hL hq
  obtain ⟨e1, e2⟩ := hx_dec_s (show hx_dec u i .ior 1 = true from h1)
  rw [e2] at h2
  exact lv_ior hc.1 hc.2.1 e1 h2
theorem hx_ixor {x y : Int32} (hop : (hx_ops u)[i]? = some .ixor) (kk : hx_W sc u d (i + 1) loc (.int (x ^^^ y) :: st) h kc ks Q) : hx_W sc u d i loc (.int y :: .int x :: st) h kc ks Q := by
  intro b o base D cA p l e R s m args below meth c H locs cells slots Qm ls hok hc hf hR hw hS hL hq
  have h1 := hx_at hok hop
  have h2 := kk b o base D cA p l e R s m args below meth c H locs cells slots Qm ls hok hc hf hR hw hS hL hq
  obtain ⟨e1, e2⟩ := hx_dec_s (show hx_dec u i .ixor 1 = true from h1)
  rw [e2] at h2
  exact lv_ixor hc.1 hc.2.1 e1 h2
theorem hx_ishl {x y : Int32} (hop : (hx_ops u)[i]? = some .ishl) (kk : hx_W sc u d (i + 1) loc (.int (x <<< (y &&& 31)) :: st) h kc ks Q) : hx_W sc u d i loc (.int y :: .int x :: st) h kc ks Q := by
  intro b o base D cA p l e R s m args below meth c H locs cells slots Qm ls hok hc hf hR hw hS hL hq
  have h1 := hx_at hok hop
  have h2 := kk b o base D cA p l e R s m args below meth c H locs cells slots Qm ls hok hc hf hR hw hS hL hq
  obtain ⟨e1, e2⟩ := hx_dec_s (show hx_dec u i .ishl 1 = true from h1)
  rw [e2] at h2
  exact lv_ishl hc.1 hc.2.1 e1 h2
theorem hx_ishr {x y : Int32} (hop : (hx_ops u)[i]? = some .ishr) (kk : hx_W sc u d (i + 1) loc (.int (x >>> (y &&& 31)) :: st) h kc ks Q) : hx_W sc u d i loc (.int y :: .int x :: st) h kc ks Q := by
  intro b o base D cA p l e R s m args below meth c H locs cells slots Qm ls hok hc hf hR hw hS hL hq
  have h1 := hx_at hok hop
  have h2 := kk b o base D cA p l e R s m args below meth c H locs cells slots Qm ls hok hc hf hR hw hS hL hq
  obtain ⟨e1, e2⟩ := hx_dec_s (show hx_dec u i .ishr 1 = true from h1)
  rw [e2] at h2
  exact lv_ishr hc.1 hc.2.1 e1 h2
theorem hx_iushr {x y : Int32} (hop : (hx_ops u)[i]? = some .iushr) (kk : hx_W sc u d (i + 1) loc (.int ((x.toUInt32 >>> (y.toUInt32 &&& Int32.toUInt32 31)).toInt32) :: st) h kc ks Q) : hx_W sc u d i loc (.int y :: .int x :: st) h kc ks Q := by
  intro b o base D cA p l e R s m args below meth c H locs cells slots Qm ls hok hc hf hR hw hS hL hq
  have h1 := hx_at hok hop
  have h2 := kk b o base D cA p l e R s m args below meth c H locs cells slots Qm ls hok hc hf hR hw hS hL hq
  obtain ⟨e1, e2⟩ := hx_dec_s (show hx_dec u i .iushr 1 = true from h1)
  rw [e2] at h2
  exact lv_iushr hc.1 hc.2.1 e1 rfl h2
theorem hx_idiv {x y : Int32} (hop : (hx_ops u)[i]? = some .idiv) (hne : ¬ y = 0) (kk : hx_W sc u d (i + 1) loc (.int (x / y) :: st) h kc ks Q) : hx_W sc u d i loc (.int y :: .int x :: st) h kc ks Q := by
  intro b o base D cA p l e R s m args below meth c H locs cells slots Qm ls hok hc hf hR hw hS hL hq
  have h1 := hx_at hok hop
  have h2 := kk b o base D cA p l e R s m args below meth c H locs cells slots Qm ls hok hc hf hR hw hS hL hq
  obtain ⟨e1, e2⟩ := hx_dec_s (show hx_dec u i .idiv 1 = true from h1)
  rw [e2] at h2
  exact lv_idiv hc.1 hc.2.1 e1 hne h2
theorem hx_irem {x y : Int32} (hop : (hx_ops u)[i]? = some .irem) (hne : ¬ y = 0) (kk : hx_W sc u d (i + 1) loc (.int (x - x / y * y) :: st) h kc ks Q) : hx_W sc u d i loc (.int y :: .int x :: st) h kc ks Q := by
  intro b o base D cA p l e R s m args below meth c H locs cells slots Qm ls hok hc hf hR hw hS hL hq
  have h1 := hx_at hok hop
  have h2 := kk b o base D cA p l e R s m args below meth c H locs cells slots Qm ls hok hc hf hR hw hS hL hq
  obtain ⟨e1, e2⟩ := hx_dec_s (show hx_dec u i .irem 1 = true from h1)
  rw [e2] at h2
  exact lv_irem hc.1 hc.2.1 e1 hne h2
theorem hx_ineg {x : Int32} (hop : (hx_ops u)[i]? = some .ineg) (kk : hx_W sc u d (i + 1) loc (.int (-x) :: st) h kc ks Q) : hx_W sc u d i loc (.int x :: st) h kc ks Q := by
  intro b o base D cA p l e R s m args below meth c H locs cells slots Qm ls hok hc hf hR hw hS hL hq
  have h1 := hx_at hok hop
  have h2 := kk b o base D cA p l e R s m args below meth c H locs cells slots Qm ls hok hc hf hR hw hS hL hq
  obtain ⟨e1, e2⟩ := hx_dec_s (show hx_dec u i .ineg 1 = true from h1)
  rw [e2] at h2
  exact lv_ineg hc.1 hc.2.1 e1 h2
theorem hx_i2b {x : Int32} (hop : (hx_ops u)[i]? = some .i2b) (kk : hx_W sc u d (i + 1) loc (.int x.toInt8.toInt32 :: st) h kc ks Q) : hx_W sc u d i loc (.int x :: st) h kc ks Q := by
  intro b o base D cA p l e R s m args below meth c H locs cells slots Qm ls hok hc hf hR hw hS hL hq
  have h1 := hx_at hok hop
  have h2 := kk b o base D cA p l e R s m args below meth c H locs cells slots Qm ls hok hc hf hR hw hS hL hq
  obtain ⟨e1, e2⟩ := hx_dec_s (show hx_dec u i .i2b 1 = true from h1)
  rw [e2] at h2
  exact lv_i2b hc.1 hc.2.1 e1 rfl h2
theorem hx_dup {w : Value} (hop : (hx_ops u)[i]? = some .dup) (hw1 : w.category = 1) (kk : hx_W sc u d (i + 1) loc (w :: w :: st) h kc ks Q) : hx_W sc u d i loc (w :: st) h kc ks Q := by
  intro b o base D cA p l e R s m args below meth c H locs cells slots Qm ls hok hc hf hR hw hS hL hq
  have h1 := hx_at hok hop
  have h2 := kk b o base D cA p l e R s m args below meth c H locs cells slots Qm ls hok hc hf hR hw hS hL hq
  obtain ⟨e1, e2⟩ := hx_dec_s (show hx_dec u i .dup 1 = true from h1)
  rw [e2] at h2
  exact lv_dup hc.1 hc.2.1 e1 (by rw [hx_g_cat]; exact hw1) h2
theorem hx_dup2 {w z : Value} (hop : (hx_ops u)[i]? = some .dup2) (hw1 : w.category = 1) (hw2 : z.category = 1) (kk : hx_W sc u d (i + 1) loc (w :: z :: w :: z :: st) h kc ks Q) : hx_W sc u d i loc (w :: z :: st) h kc ks Q := by
  intro b o base D cA p l e R s m args below meth c H locs cells slots Qm ls hok hc hf hR hw hS hL hq
  have h1 := hx_at hok hop
  have h2 := kk b o base D cA p l e R s m args below meth c H locs cells slots Qm ls hok hc hf hR hw hS hL hq
  obtain ⟨e1, e2⟩ := hx_dec_s (show hx_dec u i .dup2 1 = true from h1)
  rw [e2] at h2
  exact lv_dup2_11 hc.1 hc.2.1 e1 (by rw [hx_g_cat]; exact hw1) (by rw [hx_g_cat]; exact hw2) h2
theorem hx_pop {w : Value} (hop : (hx_ops u)[i]? = some .pop) (hw1 : w.category = 1) (kk : hx_W sc u d (i + 1) loc (st) h kc ks Q) : hx_W sc u d i loc (w :: st) h kc ks Q := by
  intro b o base D cA p l e R s m args below meth c H locs cells slots Qm ls hok hc hf hR hw hS hL hq
  have h1 := hx_at hok hop
  have h2 := kk b o base D cA p l e R s m args below meth c H locs cells slots Qm ls hok hc hf hR hw hS hL hq
  obtain ⟨e1, e2⟩ := hx_dec_s (show hx_dec u i .pop 1 = true from h1)
  rw [e2] at h2
  exact lv_pop hc.1 hc.2.1 e1 (by rw [hx_g_cat]; exact hw1) h2
theorem hx_if_eq {x : Int32} {t : Nat} (hop : (hx_ops u)[i]? = some (.ifCond .eq (t : Int))) (kt : x = 0 → hx_W sc u d t loc st h kc ks Q) (kf : ¬ x = 0 → hx_W sc u d (i + 1) loc st h kc ks Q) : hx_W sc u d i loc (.int x :: st) h kc ks Q := by
  intro b o base D cA p l e R s m args below meth c H locs cells slots Qm ls hok hc hf hR hw hS hL hq
  have h1 := hx_at hok hop
  obtain ⟨e1, e2⟩ := hx_dec_s (show hx_dec u i (.ifCond .eq (hx_off u i (t : Int))) 3 = true from h1)
  have h2 := fun q => kt q b o base D cA p l e R s m args below meth c H locs cells slots Qm ls hok hc hf hR hw hS hL hq
  have h3 := fun q => kf q b o base D cA p l e R s m args below meth c H locs cells slots Qm ls hok hc hf hR hw hS hL hq
  rw [e2] at h3
  exact lv_if_eq hc.1 hc.2.1 e1 hx_off_t h2 h3
theorem hx_if_ne {x : Int32} {t : Nat} (hop : (hx_ops u)[i]? = some (.ifCond .ne (t : Int))) (kt : ¬ x = 0 → hx_W sc u d t loc st h kc ks Q) (kf : x = 0 → hx_W sc u d (i + 1) loc st h kc ks Q) : hx_W sc u d i loc (.int x :: st) h kc ks Q := by
  intro b o base D cA p l e R s m args below meth c H locs cells slots Qm ls hok hc hf hR hw hS hL hq
  have h1 := hx_at hok hop
  obtain ⟨e1, e2⟩ := hx_dec_s (show hx_dec u i (.ifCond .ne (hx_off u i (t : Int))) 3 = true from h1)
  have h2 := fun q => kt q b o base D cA p l e R s m args below meth c H locs cells slots Qm ls hok hc hf hR hw hS hL hq
  have h3 := fun q => kf q b o base D cA p l e R s m args below meth c H locs cells slots Qm ls hok hc hf hR hw hS hL hq
  rw [e2] at h3
  exact lv_if_ne hc.1 hc.2.1 e1 hx_off_t h2 h3
theorem hx_if_lt {x : Int32} {t : Nat} (hop : (hx_ops u)[i]? = some (.ifCond .lt (t : Int))) (kt : x < 0 → hx_W sc u d t loc st h kc ks Q) (kf : ¬ x < 0 → hx_W sc u d (i + 1) loc st h kc ks Q) : hx_W sc u d i loc (.int x :: st) h kc ks Q := by
  intro b o base D cA p l e R s m args below meth c H locs cells slots Qm ls hok hc hf hR hw hS hL hq
  have h1 := hx_at hok hop
  obtain ⟨e1, e2⟩ := hx_dec_s (show hx_dec u i (.ifCond .lt (hx_off u i (t : Int))) 3 = true from h1)
  have h2 := fun q => kt q b o base D cA p l e R s m args below meth c H locs cells slots Qm ls hok hc hf hR hw hS hL hq
  have h3 := fun q => kf q b o base D cA p l e R s m args below meth c H locs cells slots Qm ls hok hc hf hR hw hS hL hq
  rw [e2] at h3
  exact lv_if_lt hc.1 hc.2.1 e1 hx_off_t h2 h3
theorem hx_if_ge {x : Int32} {t : Nat} (hop : (hx_ops u)[i]? = some (.ifCond .ge (t : Int))) (kt : 0 ≤ x → hx_W sc u d t loc st h kc ks Q) (kf : ¬ 0 ≤ x → hx_W sc u d (i + 1) loc st h kc ks Q) : hx_W sc u d i loc (.int x :: st) h kc ks Q := by
  intro b o base D cA p l e R s m args below meth c H locs cells slots Qm ls hok hc hf hR hw hS hL hq
  have h1 := hx_at hok hop
  obtain ⟨e1, e2⟩ := hx_dec_s (show hx_dec u i (.ifCond .ge (hx_off u i (t : Int))) 3 = true from h1)
  have h2 := fun q => kt q b o base D cA p l e R s m args below meth c H locs cells slots Qm ls hok hc hf hR hw hS hL hq
  have h3 := fun q => kf q b o base D cA p l e R s m args below meth c H locs cells slots Qm ls hok hc hf hR hw hS hL hq
  rw [e2] at h3
  exact lv_if_ge hc.1 hc.2.1 e1 hx_off_t h2 h3
theorem hx_if_gt {x : Int32} {t : Nat} (hop : (hx_ops u)[i]? = some (.ifCond .gt (t : Int))) (kt : 0 < x → hx_W sc u d t loc st h kc ks Q) (kf : ¬ 0 < x → hx_W sc u d (i + 1) loc st h kc ks Q) : hx_W sc u d i loc (.int x :: st) h kc ks Q := by
  intro b o base D cA p l e R s m args below meth c H locs cells slots Qm ls hok hc hf hR hw hS hL hq
  have h1 := hx_at hok hop
  obtain ⟨e1, e2⟩ := hx_dec_s (show hx_dec u i (.ifCond .gt (hx_off u i (t : Int))) 3 = true from h1)
  have h2 := fun q => kt q b o base D cA p l e R s m args below meth c H locs cells slots Qm ls hok hc hf hR hw hS hL hq
  have h3 := fun q => kf q b o base D cA p l e R s m args below meth c H locs cells slots Qm ls hok hc hf hR hw hS hL hq
  rw [e2] at h3
  exact lv_if_gt hc.1 hc.2.1 e1 hx_off_t h2 h3
theorem hx_if_le {x : Int32} {t : Nat} (hop : (hx_ops u)[i]? = some (.ifCond .le (t : Int))) (kt : x ≤ 0 → hx_W sc u d t loc st h kc ks Q) (kf : ¬ x ≤ 0 → hx_W sc u d (i + 1) loc st h kc ks Q) : hx_W sc u d i loc (.int x :: st) h kc ks Q := by
  intro b o base D cA p l e R s m args below meth c H locs cells slots Qm ls hok hc hf hR hw hS hL hq
  have h1 := hx_at hok hop
  obtain ⟨e1, e2⟩ := hx_dec_s (show hx_dec u i (.ifCond .le (hx_off u i (t : Int))) 3 = true from h1)
  have h2 := fun q => kt q b o base D cA p l e R s m args below meth c H locs cells slots Qm ls hok hc hf hR hw hS hL hq
  have h3 := fun q => kf q b o base D cA p l e R s m args below meth c H locs cells slots Qm ls hok hc hf hR hw hS hL hq
  rw [e2] at h3
  exact lv_if_le hc.1 hc.2.1 e1 hx_off_t h2 h3
theorem hx_ic_eq {x y : Int32} {t : Nat} (hop : (hx_ops u)[i]? = some (.if_icmp .eq (t : Int))) (kt : x = y → hx_W sc u d t loc st h kc ks Q) (kf : ¬ x = y → hx_W sc u d (i + 1) loc st h kc ks Q) : hx_W sc u d i loc (.int y :: .int x :: st) h kc ks Q := by
  intro b o base D cA p l e R s m args below meth c H locs cells slots Qm ls hok hc hf hR hw hS hL hq
  have h1 := hx_at hok hop
  obtain ⟨e1, e2⟩ := hx_dec_s (show hx_dec u i (.if_icmp .eq (hx_off u i (t : Int))) 3 = true from h1)
  have h2 := fun q => kt q b o base D cA p l e R s m args below meth c H locs cells slots Qm ls hok hc hf hR hw hS hL hq
  have h3 := fun q => kf q b o base D cA p l e R s m args below meth c H locs cells slots Qm ls hok hc hf hR hw hS hL hq
  rw [e2] at h3
  exact lv_icmp_eq hc.1 hc.2.1 e1 hx_off_t h2 h3
theorem hx_ic_ne {x y : Int32} {t : Nat} (hop : (hx_ops u)[i]? = some (.if_icmp .ne (t : Int))) (kt : ¬ x = y → hx_W sc u d t loc st h kc ks Q) (kf : x = y → hx_W sc u d (i + 1) loc st h kc ks Q) : hx_W sc u d i loc (.int y :: .int x :: st) h kc ks Q := by
  intro b o base D cA p l e R s m args below meth c H locs cells slots Qm ls hok hc hf hR hw hS hL hq
  have h1 := hx_at hok hop
  obtain ⟨e1, e2⟩ := hx_dec_s (show hx_dec u i (.if_icmp .ne (hx_off u i (t : Int))) 3 = true from h1)
  have h2 := fun q => kt q b o base D cA p l e R s m args below meth c H locs cells slots Qm ls hok hc hf hR hw hS hL hq
  have h3 := fun q => kf q b o base D cA p l e R s m args below meth c H locs cells slots Qm ls hok hc hf hR hw hS hL hq
  rw [e2] at h3
  exact lv_icmp_ne hc.1 hc.2.1 e1 hx_off_t h2 h3
theorem hx_ic_lt {x y : Int32} {t : Nat} (hop : (hx_ops u)[i]? = some (.if_icmp .lt (t : Int))) (kt : x < y → hx_W sc u d t loc st h kc ks Q) (kf : ¬ x < y → hx_W sc u d (i + 1) loc st h kc ks Q) : hx_W sc u d i loc (.int y :: .int x :: st) h kc ks Q := by
  intro b o base D cA p l e R s m args below meth c H locs cells slots Qm ls hok hc hf hR hw hS hL hq
  have h1 := hx_at hok hop
  obtain ⟨e1, e2⟩ := hx_dec_s (show hx_dec u i (.if_icmp .lt (hx_off u i (t : Int))) 3 = true from h1)
  have h2 := fun q => kt q b o base D cA p l e R s m args below meth c H locs cells slots Qm ls hok hc hf hR hw hS hL hq
  have h3 := fun q => kf q b o base D cA p l e R s m args below meth c H locs cells slots Qm ls hok hc hf hR hw hS hL hq
  rw [e2] at h3
  exact lv_icmp_lt hc.1 hc.2.1 e1 hx_off_t h2 h3
theorem hx_ic_ge {x y : Int32} {t : Nat} (hop : (hx_ops u)[i]? = some (.if_icmp .ge (t : Int))) (kt : y ≤ x → hx_W sc u d t loc st h kc ks Q) (kf : ¬ y ≤ x → hx_W sc u d (i + 1) loc st h kc ks Q) : hx_W sc u d i loc (.int y :: .int x :: st) h kc ks Q := by
  intro b o base D cA p l e R s m args below meth c H locs cells slots Qm ls hok hc hf hR hw hS hL hq
  have h1 := hx_at hok hop
  obtain ⟨e1, e2⟩ := hx_dec_s (show hx_dec u i (.if_icmp .ge (hx_off u i (t : Int))) 3 = true from h1)
  have h2 := fun q => kt q b o base D cA p l e R s m args below meth c H locs cells slots Qm ls hok hc hf hR hw hS hL hq
  have h3 := fun q => kf q b o base D cA p l e R s m args below meth c H locs cells slots Qm ls hok hc hf hR hw hS hL hq
  rw [e2] at h3
  exact lv_icmp_ge hc.1 hc.2.1 e1 hx_off_t h2 h3
theorem hx_ic_gt {x y : Int32} {t : Nat} (hop : (hx_ops u)[i]? = some (.if_icmp .gt (t : Int))) (kt : y < x → hx_W sc u d t loc st h kc ks Q) (kf : ¬ y < x → hx_W sc u d (i + 1) loc st h kc ks Q) : hx_W sc u d i loc (.int y :: .int x :: st) h kc ks Q := by
  intro b o base D cA p l e R s m args below meth c H locs cells slots Qm ls hok hc hf hR hw hS hL hq
  have h1 := hx_at hok hop
  obtain ⟨e1, e2⟩ := hx_dec_s (show hx_dec u i (.if_icmp .gt (hx_off u i (t : Int))) 3 = true from h1)
  have h2 := fun q => kt q b o base D cA p l e R s m args below meth c H locs cells slots Qm ls hok hc hf hR hw hS hL hq
  have h3 := fun q => kf q b o base D cA p l e R s m args below meth c H locs cells slots Qm ls hok hc hf hR hw hS hL hq
  rw [e2] at h3
  exact lv_icmp_gt hc.1 hc.2.1 e1 hx_off_t h2 h3
theorem hx_ic_le {x y : Int32} {t : Nat} (hop : (hx_ops u)[i]? = some (.if_icmp .le (t : Int))) (kt : x ≤ y → hx_W sc u d t loc st h kc ks Q) (kf : ¬ x ≤ y → hx_W sc u d (i + 1) loc st h kc ks Q) : hx_W sc u d i loc (.int y :: .int x :: st) h kc ks Q := by
  intro b o base D cA p l e R s m args below meth c H locs cells slots Qm ls hok hc hf hR hw hS hL hq
  have h1 := hx_at hok hop
  obtain ⟨e1, e2⟩ := hx_dec_s (show hx_dec u i (.if_icmp .le (hx_off u i (t : Int))) 3 = true from h1)
  have h2 := fun q => kt q b o base D cA p l e R s m args below meth c H locs cells slots Qm ls hok hc hf hR hw hS hL hq
  have h3 := fun q => kf q b o base D cA p l e R s m args below meth c H locs cells slots Qm ls hok hc hf hR hw hS hL hq
  rw [e2] at h3
  exact lv_icmp_le hc.1 hc.2.1 e1 hx_off_t h2 h3
theorem hx_goto {t : Nat} (hop : (hx_ops u)[i]? = some (.goto (t : Int))) (kk : hx_W sc u d t loc st h kc ks Q) : hx_W sc u d i loc st h kc ks Q := by
  intro b o base D cA p l e R s m args below meth c H locs cells slots Qm ls hok hc hf hR hw hS hL hq
  have h1 := hx_at hok hop
  have e1 : decode (hx_b u) (hx_pc u i) = .ok (.goto (hx_off u i (t : Int)), 3) := of_decide_eq_true (show hx_decl u i (.goto (hx_off u i (t : Int))) = true from h1)
  exact lv_goto hc.1 hc.2.1 e1 hx_off_t (kk b o base D cA p l e R s m args below meth c H locs cells slots Qm ls hok hc hf hR hw hS hL hq)
theorem hx_own {ci : Nat} {q : vw_C} (h : hx_cl[ci]? = some q) : (∀ w ∈ u_ws q.1 q.2.1 q.2.2, w ∈ hx_T) ∧ (∃ ty : Nat → FieldType, ∀ k, k < q.2.2 → parseFieldDescriptor (q.2.1 k).2.2.1 = some (ty k)) ∧ (∀ a, a < q.2.2 → ∀ b, b < q.2.2 → a ≠ b → (q.2.1 a).2.1 ≠ (q.2.1 b).2.1) := by
  match ci, h with
  | 0, h => cases h; exact ⟨fun w hw => hx_T_in (inX0 w hw).1 (inX0 w hw).2, ⟨tyX0, tyX0_ok⟩, nmX0⟩
  | 1, h => cases h; exact ⟨fun w hw => hx_T_in (inX1 w hw).1 (inX1 w hw).2, ⟨tyX1, tyX1_ok⟩, nmX1⟩
  | 2, h => cases h; exact ⟨fun w hw => hx_T_in (inX2 w hw).1 (inX2 w hw).2, ⟨tyX2, tyX2_ok⟩, nmX2⟩
  | 3, h => cases h; exact ⟨fun w hw => hx_T_in (inX3 w hw).1 (inX3 w hw).2, ⟨tyX3, tyX3_ok⟩, nmX3⟩
  | 4, h => cases h; exact ⟨fun w hw => hx_T_in (inX4 w hw).1 (inX4 w hw).2, ⟨tyX4, tyX4_ok⟩, nmX4⟩
  | 5, h => cases h; exact ⟨fun w hw => hx_T_in (inX5 w hw).1 (inX5 w hw).2, ⟨tyX5, tyX5_ok⟩, nmX5⟩
  | 6, h => cases h; exact ⟨fun w hw => hx_T_in (inX6 w hw).1 (inX6 w hw).2, ⟨tyX6, tyX6_ok⟩, nmX6⟩
  | 7, h => cases h; exact ⟨fun w hw => hx_T_in (inX7 w hw).1 (inX7 w hw).2, ⟨tyX7, tyX7_ok⟩, nmX7⟩
  | 8, h => cases h; exact ⟨fun w hw => hx_T_in (inX8 w hw).1 (inX8 w hw).2, ⟨tyX8, tyX8_ok⟩, nmX8⟩
  | 9, h => cases h; exact ⟨fun w hw => hx_T_in (inX9 w hw).1 (inX9 w hw).2, ⟨tyX9, tyX9_ok⟩, nmX9⟩
  | 10, h => cases h; exact ⟨fun w hw => hx_T_in (inX10 w hw).1 (inX10 w hw).2, ⟨tyX10, tyX10_ok⟩, nmX10⟩
  | 11, h => cases h; exact ⟨fun w hw => hx_T_in (inX11 w hw).1 (inX11 w hw).2, ⟨tyX11, tyX11_ok⟩, nmX11⟩
  | k + 12, h => simp [hx_cl] at h
theorem hx_get {f a ci : Nat} {fs : List Value} {w : Value} (hop : (hx_ops u)[i]? = some (.getfield f)) (hcell : h[a]? = some (.inr (ci, fs))) (hci : ci = f / 100) (hv : fs[f % 100]? = some w) (kk : hx_W sc u d (i + 1) loc (w :: st) h kc ks Q) : hx_W sc u d i loc (.ref (a + 2) :: st) h kc ks Q := by
  intro b o base D cA p l e R s m args below meth c H locs cells slots Qm ls hok hc hf hR hw hS hL hq
  have h1 := hx_at hok hop
  have h2 := kk b o base D cA p l e R s m args below meth c H locs cells slots Qm ls hok hc hf hR hw hS hL hq
  simp only [hx_okI] at h1
  split at h1
  · next q hcl =>
    simp only [Bool.and_eq_true, decide_eq_true_eq] at h1
    obtain ⟨⟨hk, h1⟩, h3⟩ := h1
    obtain ⟨e1, e2⟩ := hx_dec_s h1
    rw [e2] at h2
    subst hci
    obtain ⟨g1, -, -⟩ := hx_own hcl
    refine va_get (rest := st.map (hx_g b o base)) hc.1 hc.2.1 hc.2.2.2.2.1 g1 hc.2.2.2.1 hf.1 hw.2 a (hx_w_get hcell) hcl (f % 100) hk (hc.2.2.2.2.1 _ (hx_wd_in h3)) (fun _ z => z) (v := hx_g b o base w) ?_ e1 h2
    rw [List.getElem?_map, hv]
    rfl
  · cases h1
theorem hx_put {f a ci : Nat} {fs : List Value} {w : Value} {ty : FieldType} (hop : (hx_ops u)[i]? = some (.putfield f)) (hcell : h[a]? = some (.inr (ci, fs))) (hci : ci = f / 100) (hl : f % 100 < fs.length) (hd : (hx_cl[f / 100]?).bind (fun q => parseFieldDescriptor (q.2.1 (f % 100)).2.2.1) = some ty) (hn : ∀ b o base, narrow ty (hx_g b o base w) = hx_g b o base w) (hft : ∀ b o base, fits ty (hx_g b o base w) = true)
    (kk : hx_W sc u d (i + 1) loc st (h.set a (.inr (ci, fs.set (f % 100) w))) kc ks Q) : hx_W sc u d i loc (w :: .ref (a + 2) :: st) h kc ks Q := by
  intro b o base D cA p l e R s m args below meth c H locs cells slots Qm ls hok hc hf hR hw hS hL hq
  have h1 := hx_at hok hop
  simp only [hx_okI] at h1
  split at h1
  · next q hcl =>
    simp only [Bool.and_eq_true, Bool.or_eq_true, Bool.not_eq_true', decide_eq_true_eq] at h1
    obtain ⟨⟨⟨hk, h1⟩, h3⟩, h4⟩ := h1
    obtain ⟨e1, e2⟩ := hx_dec_s h1
    subst hci
    obtain ⟨g1, ⟨tyf, g2⟩, g3⟩ := hx_own hcl
    rw [hcl] at hd
    simp only [Option.bind_some] at hd
    have hP := hw.2
    have hap := va_apart (own := (hx_y u).cls) hc.2.2.2.2.1 g1 tyf g2 g3 hf.1 hcl
    obtain ⟨r, hr1, cell, q1, q2, q3, q4⟩ := hP a _ (hx_w_get hcell)
    have hr : r = q := Option.some.inj (hr1.symm.trans hcl)
    subst hr
    obtain ⟨hSl, hfc, kC, hkC, hkind⟩ := hf.1.1 (f / 100) _ hcl
    obtain ⟨cf, kf, fi, fd, hi, hsl⟩ := hSl (f % 100) hk
    have hst := (u_facts hfc hkC (u_lays hc.2.2.2.2.1 g1 hk) hi).1
    have hlink := hc.2.2.2.2.1 _ (hx_wd_in h3)
    have go : ∀ (H1 : Heap), H1[base + a]? = some (cell.setSlot (D.2 (f / 100) (f % 100)) (hx_g b o base w)) → H1.size = H.size → (∀ q, q ≠ base + a → H1[q]? = H[q]?) →
        W p l e R s m args below meth c H1 (locs ++ [⟨base + a, D.2 (f / 100) (f % 100)⟩]) cells slots Qm (F0 m (hx_pc u i + 3) ls (st.map (hx_g b o base))) := by
      intro H1 z1 z2 z3
      have hP1 : va_P D hx_cl ((hx_w b o base cA h).set a (base + a, .inr (f / 100, (fs.map (hx_g b o base)).set (f % 100) (hx_g b o base w)))) H1 :=
        hP.set (hx_w_D b o base cA h) (hx_w_get hcell) ⟨_, hcl, t_OB.to (V := updV (vp_V (fs.map (hx_g b o base))) (f % 100) (hx_g b o base w)) ⟨_, z1, q2, q3, t_set q4 hap hk _⟩ (fun j _ => vp_updV_set (by rw [List.length_map]; exact hl) _ j)⟩ z3
      have h2 := kk b o base D cA p l e R s m args below meth c H1 (locs ++ [⟨base + a, D.2 (f / 100) (f % 100)⟩]) cells slots Qm ls hok hc hf hR ⟨by rw [List.length_set, z2]; exact hw.1, by
        rw [hx_w_set]
        show va_P D hx_cl ((hx_w b o base cA h).set a (base + a, .inr (f / 100, (fs.set (f % 100) w).map (hx_g b o base)))) H1
        rw [List.map_set]; exact hP1⟩ (hS.put z2 z3 (show base ≤ base + a by omega)) hL hq
      rw [e2] at h2
      exact h2
    cases hfin : (r.2.1 (f % 100)).2.2.2
    · have hlay := hc.2.2.2.2.1 _ (g1 _ (u_in_lay hk))
      unfold u_lay at hlay
      rw [if_neg (by rw [hfin]; decide)] at hlay
      have h6 := u_store hfc hkC hkind hlay hi hd (hn b o base) (hft b o base)
      refine W.putK hc.1 hc.2.1 (f := fd) ⟨hc.2.2.2.1, hlink, ⟨_, _, _, hi⟩, hst⟩ (by rw [q2]; exact h6) q1 q3 (by rw [hsl]; exact k2_hasslot (q4 _ hk)) rfl rfl e1 fun H' z1 z2 z3 => ?_
      rw [hsl] at z1 ⊢
      exact go H' z1 z2 z3
    · have hlay := hc.2.2.2.2.1 _ (g1 _ (u_in_lay hk))
      unfold u_lay at hlay
      rw [if_pos hfin] at hlay
      rcases h4 with h4 | ⟨h4, h5⟩
      · rw [hfin] at h4; cases h4
      have hcf : m.cls = cf := by
        obtain ⟨_, _, c', _, _, _, -, -, hf', -, -, -, hown2, -⟩ := Cond.laysFinal_spec hlay
        have e1 : c' = cf := by have := hi.symm.trans hf'; simp at this; exact this.1.symm
        rw [h5] at hown2
        rw [← e1]; exact Option.some.inj (hc.2.2.2.1.symm.trans hown2)
      have h6 := u_fits hfc hkC hkind (Or.inr hlay) hi hd (hn b o base) (hft b o base)
      refine W.putFinK hc.1 hc.2.1 hc.2.2.2.1 hlink hi hst hcf (hc.2.2.2.2.2.2.2.trans h4) (by rw [q2]; exact h6) q1 q3 (by rw [hsl]; exact k2_hasslot (q4 _ hk)) rfl rfl e1 fun H' z1 z2 z3 => ?_
      rw [hsl] at z1 ⊢
      exact go H' z1 z2 z3
  · cases h1
end HXS
