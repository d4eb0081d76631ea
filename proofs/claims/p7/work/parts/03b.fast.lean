/-! the check by the bytes themselves: quicker than to decode each -/
theorem hq_u1e (c : ByteArray) (p : Nat) : (Reader.u1 : Decoder Nat) c p = (if h : p < c.size then .ok (c[p].toNat, p + 1) else .error (HasTruncated.truncated p)) := by
  show (do if h : p < c.size then do set (p + 1); Pure.pure c[p].toNat else MonadExcept.throw (HasTruncated.truncated p) : Decoder Nat) c p = _
  by_cases hi : p < c.size
  · rw [dif_pos hi, dif_pos hi]; rfl
  · rw [dif_neg hi, dif_neg hi]; rfl
theorem hq_bind {α β : Type} {r : Decoder α} {f : α → Decoder β} {c : ByteArray} {p q : Nat} {a : α} (h : r c p = .ok (a, q)) : (r >>= f) c p = f a c q := by
  show (do let (a, s) ← r c p; f a c s : Except DecodeError (β × Nat)) = _
  rw [h]; rfl
theorem hq_map {α β : Type} {r : Decoder α} {g : α → β} {c : ByteArray} {p q : Nat} {a : α} (h : r c p = .ok (a, q)) : (g <$> r) c p = .ok (g a, q) := by
  show (do let (a, s) ← r c p; .ok (g a, s) : Except DecodeError (β × Nat)) = _
  rw [h]; rfl
theorem hq_tl {α : Type} {l : List α} {i : Nat} {a : α} {r : List α} (h : l.drop i = a :: r) : l[i]? = some a ∧ l.drop (i + 1) = r := by
  have hl : i < l.length := by
    have h2 := congrArg List.length h
    simp only [List.length_drop, List.length_cons] at h2
    omega
  rw [List.drop_eq_getElem_cons hl] at h
  injection h with h1 h2
  exact ⟨by rw [List.getElem?_eq_getElem hl, h1], h2⟩
theorem hq_b1 {c : ByteArray} {p : Nat} {b : UInt8} {r : List UInt8} (h : c.data.toList.drop p = b :: r) : (Reader.u1 : Decoder Nat) c p = .ok (b.toNat, p + 1) := by
  have hl : p < c.data.toList.length := by
    have h2 := congrArg List.length h
    simp only [List.length_drop, List.length_cons] at h2
    omega
  rw [List.drop_eq_getElem_cons hl] at h
  injection h with h1 h2
  have hs : p < c.size := by simpa using hl
  rw [hq_u1e, dif_pos hs, ← h1]
  rfl
theorem hq_b2 {c : ByteArray} {p : Nat} {b d : UInt8} {r : List UInt8} (h : c.data.toList.drop p = b :: d :: r) : (Reader.u2 : Decoder Nat) c p = .ok (b.toNat * 256 + d.toNat, p + 2) := by
  have h2 := (hq_tl h).2
  show (Reader.u1 >>= fun hi => Reader.u1 >>= fun lo => Pure.pure (hi * 256 + lo) : Decoder Nat) c p = _
  rw [hq_bind (hq_b1 h), hq_bind (hq_b1 h2)]
  rfl
theorem hq_of {c : ByteArray} {p q : Nat} {j : Instr} (h : Decoder.instr p c p = .ok (j, q)) : decode c p = .ok (j, q - p) := by
  show (do let (i, n) ← Decoder.instr p c p; Pure.pure (i, n - p) : Except DecodeError (Instr × Nat)) = _
  rw [h]; rfl
/-- what is read behind an opcode -/
def hq_H (v : Nat) (m : Decoder Instr) : Prop := ∃ K : Nat → Nat → Decoder Instr, (∀ p, Decoder.instr p = Reader.u1 >>= K p) ∧ ∀ p, K p v = m
theorem hq_run {v : Nat} {m : Decoder Instr} (hH : hq_H v m) {c : ByteArray} {p q : Nat} {b : UInt8} {r : List UInt8} {j : Instr} (hb : c.data.toList.drop p = b :: r) (hv : b.toNat = v) (hm : m c (p + 1) = .ok (j, q)) : decode c p = .ok (j, q - p) := by
  obtain ⟨K, h1, h2⟩ := hH
  apply hq_of
  rw [h1, hq_bind (hq_b1 hb), hv, h2]
  exact hm
theorem hq_r1 {v : Nat} {j : Instr} (hH : hq_H v (Pure.pure j)) {c : ByteArray} {p : Nat} {b : UInt8} {r : List UInt8} (hb : c.data.toList.drop p = b :: r) (hv : b.toNat = v) : decode c p = .ok (j, 1) := by
  have h := hq_run hH hb hv (q := p + 1) (j := j) rfl
  rwa [Nat.add_sub_cancel_left] at h
theorem hq_r2 {v : Nat} {f : Nat → Instr} (hH : hq_H v (Reader.u1 >>= fun x => Pure.pure (f x))) {c : ByteArray} {p : Nat} {b d : UInt8} {r : List UInt8} (hb : c.data.toList.drop p = b :: d :: r) (hv : b.toNat = v) : decode c p = .ok (f d.toNat, 2) := by
  have h := hq_run hH hb hv (q := p + 2) (j := f d.toNat) (by rw [hq_bind (hq_b1 (hq_tl hb).2)]; rfl)
  rwa [Nat.add_sub_cancel_left] at h
theorem hq_r2s {v : Nat} {f : Int → Instr} (hH : hq_H v (Reader.s1 >>= fun x => Pure.pure (f x))) {c : ByteArray} {p : Nat} {b d : UInt8} {r : List UInt8} (hb : c.data.toList.drop p = b :: d :: r) (hv : b.toNat = v) : decode c p = .ok (f (Reader.signed 8 d.toNat), 2) := by
  have h := hq_run hH hb hv (q := p + 2) (j := f (Reader.signed 8 d.toNat)) (by
    have e : (Reader.s1 : Decoder Int) c (p + 1) = .ok (Reader.signed 8 d.toNat, p + 2) := hq_map (hq_b1 (hq_tl hb).2)
    rw [hq_bind e]; rfl)
  rwa [Nat.add_sub_cancel_left] at h
theorem hq_r3 {v : Nat} {f : Nat → Instr} (hH : hq_H v (Reader.u2 >>= fun x => Pure.pure (f x))) {c : ByteArray} {p : Nat} {b d e : UInt8} {r : List UInt8} (hb : c.data.toList.drop p = b :: d :: e :: r) (hv : b.toNat = v) : decode c p = .ok (f (d.toNat * 256 + e.toNat), 3) := by
  have h := hq_run hH hb hv (q := p + 3) (j := f (d.toNat * 256 + e.toNat)) (by rw [hq_bind (hq_b2 (hq_tl hb).2)]; rfl)
  rwa [Nat.add_sub_cancel_left] at h
theorem hq_r3s {v : Nat} {f : Int → Instr} (hH : hq_H v (Reader.s2 >>= fun x => Pure.pure (f x))) {c : ByteArray} {p : Nat} {b d e : UInt8} {r : List UInt8} (hb : c.data.toList.drop p = b :: d :: e :: r) (hv : b.toNat = v) : decode c p = .ok (f (Reader.signed 16 (d.toNat * 256 + e.toNat)), 3) := by
  have h := hq_run hH hb hv (q := p + 3) (j := f (Reader.signed 16 (d.toNat * 256 + e.toNat))) (by
    have e1 : (Reader.s2 : Decoder Int) c (p + 1) = .ok (Reader.signed 16 (d.toNat * 256 + e.toNat), p + 3) := hq_map (hq_b2 (hq_tl hb).2)
    rw [hq_bind e1]; rfl)
  rwa [Nat.add_sub_cancel_left] at h
theorem hq_rinc (hH : hq_H 132 (Reader.u1 >>= fun x => Reader.s1 >>= fun y => Pure.pure (.iinc x y))) {c : ByteArray} {p : Nat} {b d e : UInt8} {r : List UInt8} (hb : c.data.toList.drop p = b :: d :: e :: r) (hv : b.toNat = 132) : decode c p = .ok (.iinc d.toNat (Reader.signed 8 e.toNat), 3) := by
  have h := hq_run hH hb hv (q := p + 3) (j := .iinc d.toNat (Reader.signed 8 e.toNat)) (by
    have e1 : (Reader.s1 : Decoder Int) c (p + 1 + 1) = .ok (Reader.signed 8 e.toNat, p + 1 + 1 + 1) := hq_map (hq_b1 (hq_tl (hq_tl hb).2).2)
    rw [hq_bind (hq_b1 (hq_tl hb).2), hq_bind e1]; rfl)
  rwa [Nat.add_sub_cancel_left] at h
theorem hq_h_iadd : hq_H 96 (Pure.pure .iadd) := ⟨_, fun _ => rfl, fun _ => rfl⟩
theorem hq_h_isub : hq_H 100 (Pure.pure .isub) := ⟨_, fun _ => rfl, fun _ => rfl⟩
theorem hq_h_imul : hq_H 104 (Pure.pure .imul) := ⟨_, fun _ => rfl, fun _ => rfl⟩
theorem hq_h_idiv : hq_H 108 (Pure.pure .idiv) := ⟨_, fun _ => rfl, fun _ => rfl⟩
theorem hq_h_irem : hq_H 112 (Pure.pure .irem) := ⟨_, fun _ => rfl, fun _ => rfl⟩
theorem hq_h_iand : hq_H 126 (Pure.pure .iand) := ⟨_, fun _ => rfl, fun _ => rfl⟩
theorem hq_h_ior : hq_H 128 (Pure.pure .ior) := ⟨_, fun _ => rfl, fun _ => rfl⟩
theorem hq_h_ixor : hq_H 130 (Pure.pure .ixor) := ⟨_, fun _ => rfl, fun _ => rfl⟩
theorem hq_h_ishl : hq_H 120 (Pure.pure .ishl) := ⟨_, fun _ => rfl, fun _ => rfl⟩
theorem hq_h_iaload : hq_H 46 (Pure.pure .iaload) := ⟨_, fun _ => rfl, fun _ => rfl⟩
theorem hq_h_baload : hq_H 51 (Pure.pure .baload) := ⟨_, fun _ => rfl, fun _ => rfl⟩
theorem hq_h_iastore : hq_H 79 (Pure.pure .iastore) := ⟨_, fun _ => rfl, fun _ => rfl⟩
theorem hq_h_pop : hq_H 87 (Pure.pure .pop) := ⟨_, fun _ => rfl, fun _ => rfl⟩
theorem hq_h_dup : hq_H 89 (Pure.pure .dup) := ⟨_, fun _ => rfl, fun _ => rfl⟩
theorem hq_h_arraylength : hq_H 190 (Pure.pure .arraylength) := ⟨_, fun _ => rfl, fun _ => rfl⟩
theorem hq_h_ireturn : hq_H 172 (Pure.pure .ireturn) := ⟨_, fun _ => rfl, fun _ => rfl⟩
theorem hq_h_return_ : hq_H 177 (Pure.pure .return_) := ⟨_, fun _ => rfl, fun _ => rfl⟩
theorem hq_h_iload : hq_H 21 (Reader.u1 >>= fun x => Pure.pure (.iload x)) := ⟨_, fun _ => rfl, fun _ => rfl⟩
theorem hq_h_aload : hq_H 25 (Reader.u1 >>= fun x => Pure.pure (.aload x)) := ⟨_, fun _ => rfl, fun _ => rfl⟩
theorem hq_h_istore : hq_H 54 (Reader.u1 >>= fun x => Pure.pure (.istore x)) := ⟨_, fun _ => rfl, fun _ => rfl⟩
theorem hq_h_astore : hq_H 58 (Reader.u1 >>= fun x => Pure.pure (.astore x)) := ⟨_, fun _ => rfl, fun _ => rfl⟩
theorem hq_h_iload_n : ∀ (k : Nat) (hk : k < 4), hq_H (26 + k) (Pure.pure (.iload_n ⟨k, hk⟩))
  | 0, _ => (⟨_, fun _ => rfl, fun _ => rfl⟩ : hq_H 26 _)
  | 1, _ => (⟨_, fun _ => rfl, fun _ => rfl⟩ : hq_H 27 _)
  | 2, _ => (⟨_, fun _ => rfl, fun _ => rfl⟩ : hq_H 28 _)
  | 3, _ => (⟨_, fun _ => rfl, fun _ => rfl⟩ : hq_H 29 _)
theorem hq_h_aload_n : ∀ (k : Nat) (hk : k < 4), hq_H (42 + k) (Pure.pure (.aload_n ⟨k, hk⟩))
  | 0, _ => (⟨_, fun _ => rfl, fun _ => rfl⟩ : hq_H 42 _)
  | 1, _ => (⟨_, fun _ => rfl, fun _ => rfl⟩ : hq_H 43 _)
  | 2, _ => (⟨_, fun _ => rfl, fun _ => rfl⟩ : hq_H 44 _)
  | 3, _ => (⟨_, fun _ => rfl, fun _ => rfl⟩ : hq_H 45 _)
theorem hq_h_istore_n : ∀ (k : Nat) (hk : k < 4), hq_H (59 + k) (Pure.pure (.istore_n ⟨k, hk⟩))
  | 0, _ => (⟨_, fun _ => rfl, fun _ => rfl⟩ : hq_H 59 _)
  | 1, _ => (⟨_, fun _ => rfl, fun _ => rfl⟩ : hq_H 60 _)
  | 2, _ => (⟨_, fun _ => rfl, fun _ => rfl⟩ : hq_H 61 _)
  | 3, _ => (⟨_, fun _ => rfl, fun _ => rfl⟩ : hq_H 62 _)
theorem hq_h_astore_n : ∀ (k : Nat) (hk : k < 4), hq_H (75 + k) (Pure.pure (.astore_n ⟨k, hk⟩))
  | 0, _ => (⟨_, fun _ => rfl, fun _ => rfl⟩ : hq_H 75 _)
  | 1, _ => (⟨_, fun _ => rfl, fun _ => rfl⟩ : hq_H 76 _)
  | 2, _ => (⟨_, fun _ => rfl, fun _ => rfl⟩ : hq_H 77 _)
  | 3, _ => (⟨_, fun _ => rfl, fun _ => rfl⟩ : hq_H 78 _)
theorem hq_h_iconst (n : Int) (h1 : -1 ≤ n) (h2 : n ≤ 5) : hq_H (n + 3).toNat (Pure.pure (.iconst n)) := by
  have h3 : n = -1 ∨ n = 0 ∨ n = 1 ∨ n = 2 ∨ n = 3 ∨ n = 4 ∨ n = 5 := by omega
  rcases h3 with rfl | rfl | rfl | rfl | rfl | rfl | rfl
  · exact (⟨_, fun _ => rfl, fun _ => rfl⟩ : hq_H 2 _)
  · exact (⟨_, fun _ => rfl, fun _ => rfl⟩ : hq_H 3 _)
  · exact (⟨_, fun _ => rfl, fun _ => rfl⟩ : hq_H 4 _)
  · exact (⟨_, fun _ => rfl, fun _ => rfl⟩ : hq_H 5 _)
  · exact (⟨_, fun _ => rfl, fun _ => rfl⟩ : hq_H 6 _)
  · exact (⟨_, fun _ => rfl, fun _ => rfl⟩ : hq_H 7 _)
  · exact (⟨_, fun _ => rfl, fun _ => rfl⟩ : hq_H 8 _)
theorem hq_h_bipush : hq_H 16 (Reader.s1 >>= fun x => Pure.pure (.bipush x)) := ⟨_, fun _ => rfl, fun _ => rfl⟩
theorem hq_h_sipush : hq_H 17 (Reader.s2 >>= fun x => Pure.pure (.sipush x)) := ⟨_, fun _ => rfl, fun _ => rfl⟩
theorem hq_h_iinc : hq_H 132 (Reader.u1 >>= fun x => Reader.s1 >>= fun y => Pure.pure (.iinc x y)) := ⟨_, fun _ => rfl, fun _ => rfl⟩
theorem hq_h_goto : hq_H 167 (Reader.s2 >>= fun x => Pure.pure (.goto x)) := ⟨_, fun _ => rfl, fun _ => rfl⟩
def hq_cn : Jvm.ClassFile.Cond → Nat
  | .eq => 0
  | .ne => 1
  | .lt => 2
  | .ge => 3
  | .gt => 4
  | .le => 5
theorem hq_h_ifCond : ∀ k : Jvm.ClassFile.Cond, hq_H (153 + hq_cn k) (Reader.s2 >>= fun x => Pure.pure (.ifCond k x))
  | .eq => (⟨_, fun _ => rfl, fun _ => rfl⟩ : hq_H 153 _)
  | .ne => (⟨_, fun _ => rfl, fun _ => rfl⟩ : hq_H 154 _)
  | .lt => (⟨_, fun _ => rfl, fun _ => rfl⟩ : hq_H 155 _)
  | .ge => (⟨_, fun _ => rfl, fun _ => rfl⟩ : hq_H 156 _)
  | .gt => (⟨_, fun _ => rfl, fun _ => rfl⟩ : hq_H 157 _)
  | .le => (⟨_, fun _ => rfl, fun _ => rfl⟩ : hq_H 158 _)
theorem hq_h_if_icmp : ∀ k : Jvm.ClassFile.Cond, hq_H (159 + hq_cn k) (Reader.s2 >>= fun x => Pure.pure (.if_icmp k x))
  | .eq => (⟨_, fun _ => rfl, fun _ => rfl⟩ : hq_H 159 _)
  | .ne => (⟨_, fun _ => rfl, fun _ => rfl⟩ : hq_H 160 _)
  | .lt => (⟨_, fun _ => rfl, fun _ => rfl⟩ : hq_H 161 _)
  | .ge => (⟨_, fun _ => rfl, fun _ => rfl⟩ : hq_H 162 _)
  | .gt => (⟨_, fun _ => rfl, fun _ => rfl⟩ : hq_H 163 _)
  | .le => (⟨_, fun _ => rfl, fun _ => rfl⟩ : hq_H 164 _)
theorem hq_h_getfield : hq_H 180 (Reader.u2 >>= fun x => Pure.pure (.getfield x)) := ⟨_, fun _ => rfl, fun _ => rfl⟩
theorem hq_h_putfield : hq_H 181 (Reader.u2 >>= fun x => Pure.pure (.putfield x)) := ⟨_, fun _ => rfl, fun _ => rfl⟩
theorem hq_h_invokevirtual : hq_H 182 (Reader.u2 >>= fun x => Pure.pure (.invokevirtual x)) := ⟨_, fun _ => rfl, fun _ => rfl⟩
theorem hq_h_invokestatic : hq_H 184 (Reader.u2 >>= fun x => Pure.pure (.invokestatic x)) := ⟨_, fun _ => rfl, fun _ => rfl⟩
/-- the bytes of an instruction of one, two, three bytes -/
def hq_1 (v pc n : Nat) (bs : List UInt8) : Bool := match bs with
  | b :: _ => Nat.beq b.toNat v && Nat.beq n (pc + 1)
  | _ => false
def hq_0 (v : Nat) (bs : List UInt8) : Bool := match bs with
  | b :: _ => Nat.beq b.toNat v
  | _ => false
def hq_2 (v x pc n : Nat) (bs : List UInt8) : Bool := match bs with
  | b :: d :: _ => Nat.beq b.toNat v && Nat.beq d.toNat x && Nat.beq n (pc + 2)
  | _ => false
def hq_2s (v : Nat) (x : Int) (pc n : Nat) (bs : List UInt8) : Bool := match bs with
  | b :: d :: _ => Nat.beq b.toNat v && decide (Reader.signed 8 d.toNat = x) && Nat.beq n (pc + 2)
  | _ => false
def hq_x (bs : List UInt8) : Nat := match bs with
  | _ :: d :: e :: _ => d.toNat * 256 + e.toNat
  | _ => 0
def hq_3 (v pc n : Nat) (bs : List UInt8) : Bool := match bs with
  | b :: _ :: _ :: _ => Nat.beq b.toNat v && Nat.beq n (pc + 3)
  | _ => false
def hq_g (v : Nat) (bs : List UInt8) : Bool := match bs with
  | b :: _ :: _ :: _ => Nat.beq b.toNat v
  | _ => false
def hq_i (k : Nat) (x : Int) (pc n : Nat) (bs : List UInt8) : Bool := match bs with
  | b :: d :: e :: _ => Nat.beq b.toNat 132 && Nat.beq d.toNat k && decide (Reader.signed 8 e.toNat = x) && Nat.beq n (pc + 3)
  | _ => false
/-- a jump's goal -/
def hq_j (pc t x : Nat) : Bool := if x < 32768 then Nat.beq (pc + x) t else Nat.beq (pc + x) (t + 65536)
theorem hq_j_s {pc t x : Nat} (h : hq_j pc t x = true) : Reader.signed 16 x = (t : Int) - (pc : Int) := by
  unfold hq_j at h
  unfold Reader.signed
  by_cases hx : x < 32768
  · rw [if_pos hx] at h
    have e := Nat.eq_of_beq_eq_true h
    rw [if_pos (show x < 2 ^ (16 - 1) from hx)]
    omega
  · rw [if_neg hx] at h
    have e := Nat.eq_of_beq_eq_true h
    rw [if_neg (show ¬ x < 2 ^ (16 - 1) from hx)]
    omega
def hq_A (u : hx_M) (i pc n : Nat) (bs : List UInt8) : Prop := hx_pc u i = pc ∧ hx_pc u (i + 1) = n ∧ (hx_b u).data.toList.drop pc = bs
theorem hq_dec_of {u : hx_M} {i n : Nat} {j : Instr} (h : decode (hx_b u) (hx_pc u i) = .ok (j, n)) (hn : hx_pc u (i + 1) = hx_pc u i + n) : hx_dec u i j n = true := by
  unfold hx_dec
  rw [Bool.and_eq_true]
  exact ⟨decide_eq_true h, decide_eq_true hn⟩
theorem hq_s1 {u : hx_M} {i pc n v : Nat} {bs : List UInt8} {j : Instr} (hA : hq_A u i pc n bs) (hH : hq_H v (Pure.pure j)) (h : hq_1 v pc n bs = true) : hx_dec u i j 1 = true := by
  obtain ⟨rfl, rfl, hb⟩ := hA
  match bs, hb, h with
  | b :: _, hb, h =>
    simp only [hq_1, Bool.and_eq_true] at h
    exact hq_dec_of (hq_r1 hH hb (Nat.eq_of_beq_eq_true h.1)) (Nat.eq_of_beq_eq_true h.2)
theorem hq_s0 {u : hx_M} {i pc n v : Nat} {bs : List UInt8} {j : Instr} (hA : hq_A u i pc n bs) (hH : hq_H v (Pure.pure j)) (h : hq_0 v bs = true) : decode (hx_b u) (hx_pc u i) = .ok (j, 1) := by
  obtain ⟨rfl, rfl, hb⟩ := hA
  match bs, hb, h with
  | b :: _, hb, h => exact hq_r1 hH hb (Nat.eq_of_beq_eq_true h)
theorem hq_s2 {u : hx_M} {i pc n v x : Nat} {bs : List UInt8} {f : Nat → Instr} (hA : hq_A u i pc n bs) (hH : hq_H v (Reader.u1 >>= fun x => Pure.pure (f x))) (h : hq_2 v x pc n bs = true) : hx_dec u i (f x) 2 = true := by
  obtain ⟨rfl, rfl, hb⟩ := hA
  match bs, hb, h with
  | b :: d :: _, hb, h =>
    simp only [hq_2, Bool.and_eq_true] at h
    have e := hq_r2 hH hb (Nat.eq_of_beq_eq_true h.1.1)
    rw [Nat.eq_of_beq_eq_true h.1.2] at e
    exact hq_dec_of e (Nat.eq_of_beq_eq_true h.2)
theorem hq_s2s {u : hx_M} {i pc n v : Nat} {x : Int} {bs : List UInt8} {f : Int → Instr} (hA : hq_A u i pc n bs) (hH : hq_H v (Reader.s1 >>= fun x => Pure.pure (f x))) (h : hq_2s v x pc n bs = true) : hx_dec u i (f x) 2 = true := by
  obtain ⟨rfl, rfl, hb⟩ := hA
  match bs, hb, h with
  | b :: d :: _, hb, h =>
    simp only [hq_2s, Bool.and_eq_true] at h
    have e := hq_r2s hH hb (Nat.eq_of_beq_eq_true h.1.1)
    rw [of_decide_eq_true h.1.2] at e
    exact hq_dec_of e (Nat.eq_of_beq_eq_true h.2)
theorem hq_s3 {u : hx_M} {i pc n v : Nat} {bs : List UInt8} {f : Nat → Instr} (hA : hq_A u i pc n bs) (hH : hq_H v (Reader.u2 >>= fun x => Pure.pure (f x))) (h : hq_3 v pc n bs = true) : hx_dec u i (f (hq_x bs)) 3 = true := by
  obtain ⟨rfl, rfl, hb⟩ := hA
  match bs, hb, h with
  | b :: d :: e :: _, hb, h =>
    simp only [hq_3, Bool.and_eq_true] at h
    exact hq_dec_of (hq_r3 hH hb (Nat.eq_of_beq_eq_true h.1)) (Nat.eq_of_beq_eq_true h.2)
theorem hq_s3s {u : hx_M} {i pc n v : Nat} {bs : List UInt8} {f : Int → Instr} (hA : hq_A u i pc n bs) (hH : hq_H v (Reader.s2 >>= fun x => Pure.pure (f x))) (h : hq_3 v pc n bs = true) : hx_dec u i (f (Reader.signed 16 (hq_x bs))) 3 = true := by
  obtain ⟨rfl, rfl, hb⟩ := hA
  match bs, hb, h with
  | b :: d :: e :: _, hb, h =>
    simp only [hq_3, Bool.and_eq_true] at h
    exact hq_dec_of (hq_r3s hH hb (Nat.eq_of_beq_eq_true h.1)) (Nat.eq_of_beq_eq_true h.2)
theorem hq_sj {u : hx_M} {i pc n v : Nat} {t : Int} {bs : List UInt8} {f : Int → Instr} (hA : hq_A u i pc n bs) (hH : hq_H v (Reader.s2 >>= fun x => Pure.pure (f x))) (h : hq_3 v pc n bs = true) (hj : hq_j pc (hx_pc u t.toNat) (hq_x bs) = true) : hx_dec u i (f (hx_off u i t)) 3 = true := by
  have e := hq_s3s hA hH h
  rw [hq_j_s hj, ← hA.1] at e
  exact e
theorem hq_sg {u : hx_M} {i pc n v : Nat} {t : Int} {bs : List UInt8} {f : Int → Instr} (hA : hq_A u i pc n bs) (hH : hq_H v (Reader.s2 >>= fun x => Pure.pure (f x))) (h : hq_g v bs = true) (hj : hq_j pc (hx_pc u t.toNat) (hq_x bs) = true) : hx_decl u i (f (hx_off u i t)) = true := by
  obtain ⟨rfl, rfl, hb⟩ := hA
  match bs, hb, h, hj with
  | b :: d :: e :: _, hb, h, hj =>
    have e1 := hq_r3s hH hb (Nat.eq_of_beq_eq_true h)
    have e2 := hq_j_s hj
    rw [show d.toNat * 256 + e.toNat = hq_x (b :: d :: e :: _) from rfl, e2] at e1
    exact decide_eq_true e1
theorem hq_si {u : hx_M} {i pc n k : Nat} {x : Int} {bs : List UInt8} (hA : hq_A u i pc n bs) (h : hq_i k x pc n bs = true) : hx_dec u i (.iinc k x) 3 = true := by
  obtain ⟨rfl, rfl, hb⟩ := hA
  match bs, hb, h with
  | b :: d :: e :: _, hb, h =>
    simp only [hq_i, Bool.and_eq_true] at h
    have e1 := hq_rinc hq_h_iinc hb (Nat.eq_of_beq_eq_true h.1.1.1)
    rw [Nat.eq_of_beq_eq_true h.1.1.2, of_decide_eq_true h.1.2] at e1
    exact hq_dec_of e1 (Nat.eq_of_beq_eq_true h.2)
/-- an instruction by its bytes; what is rare as before -/
def hq_I (u : hx_M) (i : Nat) (ins : Instr) (pc n w : Nat) (bs : List UInt8) : Bool := match ins with
  | .iload k => if k < 4 then hq_1 (26 + k) pc n bs else hq_2 21 k pc n bs
  | .aload k => if k < 4 then hq_1 (42 + k) pc n bs else hq_2 25 k pc n bs
  | .istore k => decide (k < hx_L u) && (if k < 4 then hq_1 (59 + k) pc n bs else hq_2 54 k pc n bs)
  | .astore k => decide (k < hx_L u) && (if k < 4 then hq_1 (75 + k) pc n bs else hq_2 58 k pc n bs)
  | .bipush x => (decide (-1 ≤ x) && decide (x ≤ 5) && hq_1 (x + 3).toNat pc n bs) || (hq_2s 16 x pc n bs && decide ((Int8.ofInt x).toInt32 = Int32.ofInt x)) || (hq_3 17 pc n bs && decide (Reader.signed 16 (hq_x bs) = x) && decide ((Int16.ofInt x).toInt32 = Int32.ofInt x)) || hx_okI u i (.bipush x)
  | .iinc k x => decide (k < hx_L u) && hq_i k x pc n bs
  | .goto t => hq_g 167 bs && hq_j pc (hx_pc u t.toNat) (hq_x bs)
  | .ifCond c t => hq_3 (153 + hq_cn c) pc n bs && hq_j pc (hx_pc u t.toNat) (hq_x bs)
  | .if_icmp c t => hq_3 (159 + hq_cn c) pc n bs && hq_j pc (hx_pc u t.toNat) (hq_x bs)
  | .getfield f => match hx_cl[f / 100]? with
      | some q => decide (f % 100 < q.2.2) && hq_3 180 pc n bs && hx_wd w (.fieldLink (hx_y u).cls (hq_x bs) (q.2.1 (f % 100)).1 (q.2.1 (f % 100)).2.1 (q.2.1 (f % 100)).2.2.1)
      | none => false
  | .putfield f => match hx_cl[f / 100]? with
      | some q => decide (f % 100 < q.2.2) && hq_3 181 pc n bs && hx_wd w (.fieldLink (hx_y u).cls (hq_x bs) (q.2.1 (f % 100)).1 (q.2.1 (f % 100)).2.1 (q.2.1 (f % 100)).2.2.1) &&
          (!(q.2.1 (f % 100)).2.2.2 || (decide ((hx_y u).name = "<init>") && decide ((q.2.1 (f % 100)).1 = (hx_y u).cls)))
      | none => false
  | .invokevirtual j => match hx_ms[j]? with
      | some v => decide (hx_kind v = 1) && hq_3 182 pc n bs && hx_wd w (.methodLink (hx_y u).cls (hq_x bs) (hx_y v))
      | none => false
  | .invokestatic j => if 9990 < j then hx_okI u i (.invokestatic j) else match hx_ms[j]? with
      | some v => decide (hx_kind v = 0) && hq_3 184 pc n bs && (hx_wd w (.methodLink (hx_y u).cls (hq_x bs) (hx_y v)) || decide (hx_N[w]? = some ((hx_y u).cls, hq_x bs, hx_y v, "HueWar")))
      | none => false
  | .iadd => hq_1 96 pc n bs
  | .isub => hq_1 100 pc n bs
  | .imul => hq_1 104 pc n bs
  | .idiv => hq_1 108 pc n bs
  | .irem => hq_1 112 pc n bs
  | .iand => hq_1 126 pc n bs
  | .ior => hq_1 128 pc n bs
  | .ixor => hq_1 130 pc n bs
  | .ishl => hq_1 120 pc n bs
  | .iaload => hq_1 46 pc n bs
  | .baload => hq_1 51 pc n bs
  | .iastore => hq_1 79 pc n bs
  | .pop => hq_1 87 pc n bs
  | .dup => hq_1 89 pc n bs
  | .arraylength => hq_1 190 pc n bs
  | .ireturn => hq_0 172 bs
  | .return_ => hq_0 177 bs
  | j => hx_okI u i j
theorem hq_I_s {u : hx_M} {i pc n w : Nat} {ins : Instr} {bs : List UInt8} (hA : hq_A u i pc n bs) (hw : hx_wk u i = w) (h : hq_I u i ins pc n w bs = true) : hx_okI u i ins = true := by
  cases ins
  case iload k =>
    show (if h : k < 4 then hx_dec u i (.iload_n ⟨k, h⟩) 1 else hx_dec u i (.iload k) 2) = true
    replace h : (if k < 4 then hq_1 (26 + k) pc n bs else hq_2 21 k pc n bs) = true := h
    by_cases hk : k < 4
    · rw [if_pos hk] at h; rw [dif_pos hk]; exact hq_s1 hA (hq_h_iload_n k hk) h
    · rw [if_neg hk] at h; rw [dif_neg hk]; exact hq_s2 (f := fun x => .iload x) hA hq_h_iload h
  case aload k =>
    show (if h : k < 4 then hx_dec u i (.aload_n ⟨k, h⟩) 1 else hx_dec u i (.aload k) 2) = true
    replace h : (if k < 4 then hq_1 (42 + k) pc n bs else hq_2 25 k pc n bs) = true := h
    by_cases hk : k < 4
    · rw [if_pos hk] at h; rw [dif_pos hk]; exact hq_s1 hA (hq_h_aload_n k hk) h
    · rw [if_neg hk] at h; rw [dif_neg hk]; exact hq_s2 (f := fun x => .aload x) hA hq_h_aload h
  case istore k =>
    show (decide (k < hx_L u) && if h : k < 4 then hx_dec u i (.istore_n ⟨k, h⟩) 1 else hx_dec u i (.istore k) 2) = true
    replace h : (decide (k < hx_L u) && (if k < 4 then hq_1 (59 + k) pc n bs else hq_2 54 k pc n bs)) = true := h
    rw [Bool.and_eq_true] at h ⊢
    refine ⟨h.1, ?_⟩
    replace h := h.2
    by_cases hk : k < 4
    · rw [if_pos hk] at h; rw [dif_pos hk]; exact hq_s1 hA (hq_h_istore_n k hk) h
    · rw [if_neg hk] at h; rw [dif_neg hk]; exact hq_s2 (f := fun x => .istore x) hA hq_h_istore h
  case astore k =>
    show (decide (k < hx_L u) && if h : k < 4 then hx_dec u i (.astore_n ⟨k, h⟩) 1 else hx_dec u i (.astore k) 2) = true
    replace h : (decide (k < hx_L u) && (if k < 4 then hq_1 (75 + k) pc n bs else hq_2 58 k pc n bs)) = true := h
    rw [Bool.and_eq_true] at h ⊢
    refine ⟨h.1, ?_⟩
    replace h := h.2
    by_cases hk : k < 4
    · rw [if_pos hk] at h; rw [dif_pos hk]; exact hq_s1 hA (hq_h_astore_n k hk) h
    · rw [if_neg hk] at h; rw [dif_neg hk]; exact hq_s2 (f := fun x => .astore x) hA hq_h_astore h
  case bipush x =>
    replace h : ((decide (-1 ≤ x) && decide (x ≤ 5) && hq_1 (x + 3).toNat pc n bs) || (hq_2s 16 x pc n bs && decide ((Int8.ofInt x).toInt32 = Int32.ofInt x)) || (hq_3 17 pc n bs && decide (Reader.signed 16 (hq_x bs) = x) && decide ((Int16.ofInt x).toInt32 = Int32.ofInt x)) || hx_okI u i (.bipush x)) = true := h
    rw [Bool.or_eq_true, Bool.or_eq_true, Bool.or_eq_true] at h
    rcases h with ((h | h) | h) | h
    · rw [Bool.and_eq_true, Bool.and_eq_true] at h
      have e := hq_s1 hA (hq_h_iconst x (of_decide_eq_true h.1.1) (of_decide_eq_true h.1.2)) h.2
      simp only [hx_okI, Bool.or_eq_true]
      exact Or.inl (Or.inl (Or.inl (Or.inl e)))
    · rw [Bool.and_eq_true] at h
      have e := hq_s2s (f := fun x => .bipush x) hA hq_h_bipush h.1
      simp only [hx_okI, Bool.or_eq_true]
      refine Or.inl (Or.inl (Or.inl (Or.inr ?_)))
      rw [Bool.and_eq_true]; exact ⟨e, h.2⟩
    · rw [Bool.and_eq_true, Bool.and_eq_true] at h
      have e := hq_s3s (f := fun x => .sipush x) hA hq_h_sipush h.1.1
      rw [of_decide_eq_true h.1.2] at e
      simp only [hx_okI, Bool.or_eq_true]
      refine Or.inl (Or.inl (Or.inr ?_))
      rw [Bool.and_eq_true]; exact ⟨e, h.2⟩
    · exact h
  case iinc k x =>
    show (decide (k < hx_L u) && hx_dec u i (.iinc k x) 3) = true
    replace h : (decide (k < hx_L u) && hq_i k x pc n bs) = true := h
    rw [Bool.and_eq_true] at h ⊢
    exact ⟨h.1, hq_si hA h.2⟩
  case goto t =>
    replace h : (hq_g 167 bs && hq_j pc (hx_pc u t.toNat) (hq_x bs)) = true := h
    rw [Bool.and_eq_true] at h
    exact hq_sg (f := fun x => .goto x) hA hq_h_goto h.1 h.2
  case ifCond c t =>
    replace h : (hq_3 (153 + hq_cn c) pc n bs && hq_j pc (hx_pc u t.toNat) (hq_x bs)) = true := h
    rw [Bool.and_eq_true] at h
    exact hq_sj (f := fun x => .ifCond c x) hA (hq_h_ifCond c) h.1 h.2
  case if_icmp c t =>
    replace h : (hq_3 (159 + hq_cn c) pc n bs && hq_j pc (hx_pc u t.toNat) (hq_x bs)) = true := h
    rw [Bool.and_eq_true] at h
    exact hq_sj (f := fun x => .if_icmp c x) hA (hq_h_if_icmp c) h.1 h.2
  case getfield f =>
    simp only [hq_I] at h
    simp only [hx_okI]
    split at h
    · next q hq =>
      rw [Bool.and_eq_true, Bool.and_eq_true] at h
      have d := hq_s3 (f := fun x => .getfield x) hA hq_h_getfield h.1.2
      have ix : hx_ix u i = hq_x bs := by unfold hx_ix; rw [(hx_dec_s d).1]
      rw [hq, Bool.and_eq_true, Bool.and_eq_true, ix, hw]
      exact ⟨⟨h.1.1, d⟩, h.2⟩
    · cases h
  case putfield f =>
    simp only [hq_I] at h
    simp only [hx_okI]
    split at h
    · next q hq =>
      rw [Bool.and_eq_true, Bool.and_eq_true, Bool.and_eq_true] at h
      have d := hq_s3 (f := fun x => .putfield x) hA hq_h_putfield h.1.1.2
      have ix : hx_ix u i = hq_x bs := by unfold hx_ix; rw [(hx_dec_s d).1]
      rw [hq, Bool.and_eq_true, Bool.and_eq_true, Bool.and_eq_true, ix, hw]
      exact ⟨⟨⟨h.1.1.1, d⟩, h.1.2⟩, h.2⟩
    · cases h
  case invokevirtual j =>
    simp only [hq_I] at h
    simp only [hx_okI]
    split at h
    · next v hv =>
      rw [Bool.and_eq_true, Bool.and_eq_true] at h
      have d := hq_s3 (f := fun x => .invokevirtual x) hA hq_h_invokevirtual h.1.2
      have ix : hx_ix u i = hq_x bs := by unfold hx_ix; rw [(hx_dec_s d).1]
      rw [hv, Bool.and_eq_true, Bool.and_eq_true, ix, hw]
      exact ⟨⟨h.1.1, d⟩, h.2⟩
    · cases h
  case invokestatic j =>
    by_cases hj : 9990 < j
    · simp only [hq_I] at h
      rw [if_pos hj] at h
      exact h
    · simp only [hq_I] at h
      rw [if_neg hj] at h
      simp only [hx_okI]
      rw [if_neg (by omega), if_neg (by omega), if_neg (by omega), if_neg (by omega)]
      split at h
      · next v hv =>
        rw [Bool.and_eq_true, Bool.and_eq_true] at h
        have d := hq_s3 (f := fun x => .invokestatic x) hA hq_h_invokestatic h.1.2
        have ix : hx_ix u i = hq_x bs := by unfold hx_ix; rw [(hx_dec_s d).1]
        rw [hv, Bool.and_eq_true, Bool.and_eq_true, ix, hw]
        exact ⟨⟨h.1.1, d⟩, h.2⟩
      · cases h
  case iadd => exact hq_s1 hA hq_h_iadd h
  case isub => exact hq_s1 hA hq_h_isub h
  case imul => exact hq_s1 hA hq_h_imul h
  case idiv => exact hq_s1 hA hq_h_idiv h
  case irem => exact hq_s1 hA hq_h_irem h
  case iand => exact hq_s1 hA hq_h_iand h
  case ior => exact hq_s1 hA hq_h_ior h
  case ixor => exact hq_s1 hA hq_h_ixor h
  case ishl => exact hq_s1 hA hq_h_ishl h
  case iaload => exact hq_s1 hA hq_h_iaload h
  case baload => exact hq_s1 hA hq_h_baload h
  case iastore => exact hq_s1 hA hq_h_iastore h
  case pop => exact hq_s1 hA hq_h_pop h
  case dup => exact hq_s1 hA hq_h_dup h
  case arraylength => exact hq_s1 hA hq_h_arraylength h
  case ireturn => exact decide_eq_true (hq_s0 hA hq_h_ireturn h)
  case return_ => exact decide_eq_true (hq_s0 hA hq_h_return_ h)
  all_goals exact h
def hq_hd (l : List Nat) : Nat := match l with
  | a :: _ => a
  | [] => 0
/-- one step along the instructions, their places, their words and the bytes -/
def hq_st (u : hx_M) (ins : Instr) (rest : List Instr) (go : Nat → List Nat → List Nat → List UInt8 → Bool) (i : Nat) (pcs wx : List Nat) (bs : List UInt8) : Bool := match pcs, wx, bs with
  | pc :: pcs, w :: wx, b :: r => hq_I u i ins pc (hq_hd pcs) w (b :: r) && (rest.isEmpty || (Nat.ble (pc + 1) (hq_hd pcs) && go (i + 1) pcs wx (r.drop (hq_hd pcs - (pc + 1)))))
  | _, _, _ => false
noncomputable def hq_go (u : hx_M) (ops : List Instr) : Nat → List Nat → List Nat → List UInt8 → Bool :=
  List.rec (motive := fun _ => Nat → List Nat → List Nat → List UInt8 → Bool) (fun _ _ _ _ => true) (fun ins rest go => hq_st u ins rest go) ops
theorem hq_pc_of {u : hx_M} {i : Nat} {l : List Nat} (h : (hx_pcs u).drop i = l) : hx_pc u i = hq_hd l := by
  unfold hx_pc
  rw [List.getD_eq_getElem?_getD]
  cases l with
  | nil =>
    have hl : (hx_pcs u).length ≤ i := by
      have h2 := congrArg List.length h
      simp only [List.length_drop, List.length_nil] at h2
      omega
    rw [List.getElem?_eq_none hl]
    rfl
  | cons a r => rw [(hq_tl h).1]; rfl
theorem hq_go_s (u : hx_M) : ∀ (ops : List Instr) (i : Nat) (pcs wx : List Nat) (bs : List UInt8), hq_go u ops i pcs wx bs = true → (hx_pcs u).drop i = pcs → (hx_wx u).drop i = wx → (hx_b u).data.toList.drop (hx_pc u i) = bs →
    ∀ (k : Nat) (ins : Instr), ops[k]? = some ins → hx_okI u (i + k) ins = true := by
  intro ops
  induction ops with
  | nil => intro i pcs wx bs _ _ _ _ k ins hk; cases hk
  | cons a rest ih =>
    intro i pcs wx bs h hp hw hb k ins hk
    replace h : hq_st u a rest (hq_go u rest) i pcs wx bs = true := h
    cases pcs with
    | nil => cases h
    | cons pc pcs =>
      cases wx with
      | nil => cases h
      | cons w wx =>
        cases bs with
        | nil => cases h
        | cons b r =>
          simp only [hq_st, Bool.and_eq_true, Bool.or_eq_true] at h
          have e1 : hx_pc u i = pc := hq_pc_of hp
          have e2 := (hq_tl hp).2
          have e3 : hx_pc u (i + 1) = hq_hd pcs := hq_pc_of e2
          have e4 : hx_wk u i = w := by
            unfold hx_wk
            rw [List.getD_eq_getElem?_getD, (hq_tl hw).1]
            rfl
          rw [e1] at hb
          cases k with
          | zero =>
            cases hk
            exact hq_I_s ⟨e1, e3, hb⟩ e4 h.1
          | succ k =>
            replace hk : rest[k]? = some ins := hk
            rcases h.2 with h2 | h2
            · cases rest with
              | nil => cases hk
              | cons _ _ => cases h2
            · have hlt := Nat.le_of_ble_eq_true h2.1
              have e5 : (hx_b u).data.toList.drop (hx_pc u (i + 1)) = r.drop (hq_hd pcs - (pc + 1)) := by
                rw [← (hq_tl hb).2, List.drop_drop, e3]
                congr 1
                omega
              have e6 := ih (i + 1) pcs wx _ h2.2 e2 (hq_tl hw).2 e5 k ins hk
              rw [show i + (k + 1) = i + 1 + k by omega]
              exact e6
noncomputable def hq_O (u : hx_M) : Bool := hq_go u (hx_ops u) 0 (hx_pcs u) (hx_wx u) (hx_b u).data.toList && decide (hx_pc u 0 = 0)
theorem hq_okO {u : hx_M} (h : hq_O u = true) : hx_okO u = true := by
  unfold hq_O at h
  rw [Bool.and_eq_true] at h
  have h0 := of_decide_eq_true h.2
  unfold hx_okO
  rw [Bool.and_eq_true]
  refine ⟨List.all_eq_true.mpr fun i _ => ?_, h.2⟩
  split
  · next ins hi =>
    have e := hq_go_s u _ 0 _ _ _ h.1 rfl rfl (by rw [h0]; rfl) i ins hi
    rwa [Nat.zero_add] at e
  · rfl
noncomputable def hq_R (u : hx_M) (a n : Nat) : Bool := hq_go u (((hx_ops u).drop a).take n) a ((hx_pcs u).drop a) ((hx_wx u).drop a) ((hx_b u).data.toList.drop (hx_pc u a))
theorem hq_okR {u : hx_M} {a n : Nat} (h : hq_R u a n = true) : hx_okR u a n = true := by
  unfold hx_okR
  refine List.all_eq_true.mpr fun i hi => ?_
  split
  · next ins hins =>
    refine hq_go_s u _ a _ _ _ h rfl rfl rfl i ins ?_
    rw [List.getElem?_take_of_lt (List.mem_range.mp hi), List.getElem?_drop]
    exact hins
  · rfl
