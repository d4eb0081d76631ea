/-! the check that the data are the bytecode and its links -/
def hx_pc (u : hx_M) (i : Nat) : Nat := (hx_pcs u).getD i 0
def hx_dec (u : hx_M) (i : Nat) (j : Instr) (n : Nat) : Bool := decide (decode (hx_b u) (hx_pc u i) = .ok (j, n)) && decide (hx_pc u (i + 1) = hx_pc u i + n)
def hx_decl (u : hx_M) (i : Nat) (j : Instr) : Bool := decide (decode (hx_b u) (hx_pc u i) = .ok (j, 3))
def hx_off (u : hx_M) (i : Nat) (t : Int) : Int := (hx_pc u t.toNat : Int) - (hx_pc u i : Int)
def hx_ch : List (List Cond) := [k2_sels lw_privs, tables_1_1, tables_1_2, tables_1_3, tables_1_4, tables_1_5, tables_1_6, tables_1_7, tables_1_8]
theorem hx_ch_in : ∀ l ∈ hx_ch, ∀ w ∈ l, w ∈ lw_tbl := by
  intro l hl w hw
  simp only [hx_ch, List.mem_cons, List.not_mem_nil, or_false] at hl
  unfold lw_tbl tables_1
  simp only [List.mem_append]
  rcases hl with rfl | rfl | rfl | rfl | rfl | rfl | rfl | rfl | rfl <;> simp [hw]
/-- the words that hold at a callee's start too -/
def hx_T : List Cond := lw_tbl.filter goodWord
theorem hx_T_in {w : Cond} (h : w ∈ lw_tbl) (hg : goodWord w = true) : w ∈ hx_T := List.mem_filter.mpr ⟨h, hg⟩
theorem hx_good : GoodIn hx_T hx_T := fun w hw => ⟨hw, good_of_word (List.mem_filter.mp hw).2⟩
def hx_wd (k : Nat) (w : Cond) : Bool := match hx_ch[k / 1000]? with
  | some l => decide (l[k % 1000]? = some w) && goodWord w
  | none => false
theorem hx_wd_in {k : Nat} {w : Cond} (h : hx_wd k w = true) : w ∈ hx_T := by
  unfold hx_wd at h
  split at h
  · next l hl =>
    rw [Bool.and_eq_true] at h
    exact hx_T_in (hx_ch_in l (List.mem_of_getElem? hl) w (List.mem_of_getElem? (of_decide_eq_true h.1))) h.2
  · cases h
def hx_wk (u : hx_M) (i : Nat) : Nat := (hx_wx u).getD i 0
/-- the number that an instruction bears -/
def hx_ix (u : hx_M) (i : Nat) : Nat := match decode (hx_b u) (hx_pc u i) with
  | .ok (.getfield x, _) => x
  | .ok (.putfield x, _) => x
  | .ok (.getstatic x, _) => x
  | .ok (.new x, _) => x
  | .ok (.invokevirtual x, _) => x
  | .ok (.invokespecial x, _) => x
  | .ok (.invokestatic x, _) => x
  | .ok (.ldc x, _) => x
  | .ok (.ldc_w x, _) => x
  | _ => 0
/-- a switch's offsets as they stand in the bytes -/
def hx_tb (u : hx_M) (i : Nat) (d lo hi : Int) (offs : Array Int) : Bool := match decode (hx_b u) (hx_pc u i) with
  | .ok (.tableswitch d' lo' hi' offs', _) => decide (d' = hx_off u i d) && decide (lo' = lo) && decide (hi' = hi) && decide (offs'.toList = offs.toList.map (hx_off u i)) && decide (offs.toList.length = (hi - lo + 1).toNat) && decide (lo ≤ hi)
  | _ => false
def hx_lk (u : hx_M) (i : Nat) (d : Int) (ps : Array (Int × Int)) : Bool := match decode (hx_b u) (hx_pc u i) with
  | .ok (.lookupswitch d' ps', _) => decide (d' = hx_off u i d) && decide (ps'.toList = ps.toList.map (fun q => (q.1, hx_off u i q.2))) && (ps'.toList.zip (ps'.toList.drop 1)).all (fun (a, next) => a.1 < next.1)
  | _ => false
def hx_okI (u : hx_M) (i : Nat) (ins : Instr) : Bool := match ins with
  | .iload k => if h : k < 4 then hx_dec u i (.iload_n ⟨k, h⟩) 1 else hx_dec u i (.iload k) 2
  | .aload k => if h : k < 4 then hx_dec u i (.aload_n ⟨k, h⟩) 1 else hx_dec u i (.aload k) 2
  | .istore k => decide (k < hx_L u) && if h : k < 4 then hx_dec u i (.istore_n ⟨k, h⟩) 1 else hx_dec u i (.istore k) 2
  | .astore k => decide (k < hx_L u) && if h : k < 4 then hx_dec u i (.astore_n ⟨k, h⟩) 1 else hx_dec u i (.astore k) 2
  | .bipush n => hx_dec u i (.iconst n) 1 || (hx_dec u i (.bipush n) 2 && decide ((Int8.ofInt n).toInt32 = Int32.ofInt n)) || (hx_dec u i (.sipush n) 3 && decide ((Int16.ofInt n).toInt32 = Int32.ofInt n)) ||
      (hx_dec u i (.ldc (hx_ix u i)) 2 && hx_wd (hx_wk u i) (.constant (hx_y u).cls (hx_ix u i) (Int32.ofInt n))) || (hx_dec u i (.ldc_w (hx_ix u i)) 3 && hx_wd (hx_wk u i) (.constant (hx_y u).cls (hx_ix u i) (Int32.ofInt n)))
  | .iinc k n => decide (k < hx_L u) && hx_dec u i (.iinc k n) 3
  | .goto t => hx_decl u i (.goto (hx_off u i t))
  | .ifCond c t => hx_dec u i (.ifCond c (hx_off u i t)) 3
  | .if_icmp c t => hx_dec u i (.if_icmp c (hx_off u i t)) 3
  | .tableswitch d lo hi offs => hx_tb u i d lo hi offs
  | .lookupswitch d ps => hx_lk u i d ps
  | .getfield f => match hx_cl[f / 100]? with
      | some q => decide (f % 100 < q.2.2) && hx_dec u i (.getfield (hx_ix u i)) 3 && hx_wd (hx_wk u i) (.fieldLink (hx_y u).cls (hx_ix u i) (q.2.1 (f % 100)).1 (q.2.1 (f % 100)).2.1 (q.2.1 (f % 100)).2.2.1)
      | none => false
  | .putfield f => match hx_cl[f / 100]? with
      | some q => decide (f % 100 < q.2.2) && hx_dec u i (.putfield (hx_ix u i)) 3 && hx_wd (hx_wk u i) (.fieldLink (hx_y u).cls (hx_ix u i) (q.2.1 (f % 100)).1 (q.2.1 (f % 100)).2.1 (q.2.1 (f % 100)).2.2.1) &&
          (!(q.2.1 (f % 100)).2.2.2 || (decide ((hx_y u).name = "<init>") && decide ((q.2.1 (f % 100)).1 = (hx_y u).cls)))
      | none => false
  | .getstatic _ => hx_dec u i (.getstatic (hx_ix u i)) 3 && hx_wd (hx_wk u i) (.fieldLink (hx_y u).cls (hx_ix u i) "HueWar$Purse" "ORDERS" "[I")
  | .new ci => match hx_cl[ci]? with
      | some q => hx_dec u i (.new (hx_ix u i)) 3 && hx_wd (hx_wk u i) (.classLink (hx_y u).cls (hx_ix u i) q.1) && hx_wd (hx_cw.getD ci (0, 0)).1 (.instantiable q.1 q.2.2) && hx_wd (hx_cw.getD ci (0, 0)).2 (.initialized q.1)
      | none => false
  | .newarray t => hx_dec u i (.newarray t) 2 && hx_wd (hx_wk u i) (.arrayClass (Op.newarray.typeOf t))
  | .invokevirtual j => match hx_ms[j]? with
      | some v => decide (hx_kind v = 1) && hx_dec u i (.invokevirtual (hx_ix u i)) 3 && hx_wd (hx_wk u i) (.methodLink (hx_y u).cls (hx_ix u i) (hx_y v))
      | none => false
  | .invokestatic j => if j = 9991 then hx_dec u i (.invokestatic (hx_ix u i)) 3 && hx_wd (hx_wk u i) (.methodLink (hx_y u).cls (hx_ix u i) Lib.Math.min.name)
      else if j = 9992 then hx_dec u i (.invokestatic (hx_ix u i)) 3 && hx_wd (hx_wk u i) (.methodLink (hx_y u).cls (hx_ix u i) Lib.Math.max.name)
      else if j = 9993 then hx_dec u i (.invokestatic (hx_ix u i)) 3 && hx_wd (hx_wk u i) (.methodLink (hx_y u).cls (hx_ix u i) Lib.Math.abs.name)
      else if j = 9999 then hx_dec u i (.invokestatic (hx_ix u i)) 3 && hx_wd (hx_wk u i) (.methodLink (hx_y u).cls (hx_ix u i) arraycopyName) else match hx_ms[j]? with
      | some v => decide (hx_kind v = 0) && hx_dec u i (.invokestatic (hx_ix u i)) 3 && (hx_wd (hx_wk u i) (.methodLink (hx_y u).cls (hx_ix u i) (hx_y v)) || decide (hx_N[hx_wk u i]? = some ((hx_y u).cls, hx_ix u i, hx_y v, "HueWar")))
      | none => false
  | .invokespecial j => if j = 9999 then hx_dec u i (.invokespecial (hx_ix u i)) 3 && hx_wd (hx_wk u i) (.methodLink (hx_y u).cls (hx_ix u i) Lib.objectInit) else match hx_ms[j]? with
      | some v => decide (hx_kind v = 2) && hx_dec u i (.invokespecial (hx_ix u i)) 3 && (hx_wd (hx_wk u i) (.methodLink (hx_y u).cls (hx_ix u i) (hx_y v)) || decide (hx_N[hx_wk u i]? = some ((hx_y u).cls, hx_ix u i, hx_y v, "HueWar")))
      | none => false
  | .iadd => hx_dec u i .iadd 1
  | .isub => hx_dec u i .isub 1
  | .imul => hx_dec u i .imul 1
  | .idiv => hx_dec u i .idiv 1
  | .irem => hx_dec u i .irem 1
  | .ineg => hx_dec u i .ineg 1
  | .iand => hx_dec u i .iand 1
  | .ior => hx_dec u i .ior 1
  | .ixor => hx_dec u i .ixor 1
  | .ishl => hx_dec u i .ishl 1
  | .ishr => hx_dec u i .ishr 1
  | .iushr => hx_dec u i .iushr 1
  | .i2b => hx_dec u i .i2b 1
  | .iaload => hx_dec u i .iaload 1
  | .baload => hx_dec u i .baload 1
  | .iastore => hx_dec u i .iastore 1
  | .bastore => hx_dec u i .bastore 1
  | .arraylength => hx_dec u i .arraylength 1
  | .dup => hx_dec u i .dup 1
  | .dup2 => hx_dec u i .dup2 1
  | .pop => hx_dec u i .pop 1
  | .ireturn => decide (decode (hx_b u) (hx_pc u i) = .ok (.ireturn, 1))
  | .return_ => decide (decode (hx_b u) (hx_pc u i) = .ok (.return_, 1))
  | _ => false
/-- every instruction is what the bytes say -/
def hx_okO (u : hx_M) : Bool := (List.range (hx_ops u).length).all (fun i => match (hx_ops u)[i]? with
  | some ins => hx_okI u i ins
  | none => true) && decide (hx_pc u 0 = 0)
/-- it can be called: what is read off, and its code's word -/
def hx_okC (u : hx_M) : Bool := plainName (hx_y u).cls && decide ((hx_y u).cls ≠ "java/lang/invoke/MethodHandle" ∧ (hx_y u).cls ≠ "java/lang/invoke/VarHandle") && decide ((parseMethodDescriptor (hx_y u).desc).map (fun d => d.parameters.length) = some (hx_na u)) && decide (hx_L u ≤ 21) &&
  match hx_kind u with
  | 0 => hx_wd ((hx_mw u).getD 1 0) (.static (hx_y u)) && hx_wd ((hx_mw u).getD 2 0) (.initialized (hx_y u).cls)
  | 1 => hx_wd ((hx_mw u).getD 1 0) (.instanceMethod (hx_y u)) && hx_wd ((hx_mw u).getD 2 0) (.selects (hx_y u).cls (hx_y u) (hx_y u)) && hx_wd ((hx_mw u).getD 3 0) (.initialized (hx_y u).cls)
  | 2 => hx_wd ((hx_mw u).getD 1 0) (.instanceMethod (hx_y u)) && hx_wd ((hx_mw u).getD 2 0) (.initialized (hx_y u).cls) && decide ((hx_y u).name = "<init>") && decide (hx_ret u = none)
  | _ => false
def hx_cal (u : hx_M) : Prop := hx_okC u = true ∧ Cond.code (hx_y u) (hx_b u) (hx_L u) (hx_ret u) ∈ hx_T
def hx_okR (u : hx_M) (a n : Nat) : Bool := (List.range n).all (fun i => match (hx_ops u)[a + i]? with
  | some ins => hx_okI u (a + i) ins
  | none => true)
theorem hx_okO_of {u : hx_M} (h0 : hx_pc u 0 = 0) (as : List Nat) (hl : (List.range (hx_ops u).length).all (fun i => as.any (fun a => decide (a ≤ i) && decide (i < a + 50))) = true) (h : ∀ a ∈ as, hx_okR u a 50 = true) : hx_okO u = true := by
  unfold hx_okO
  rw [Bool.and_eq_true]
  refine ⟨List.all_eq_true.mpr fun i hi => ?_, decide_eq_true h0⟩
  have h1 := List.all_eq_true.mp hl i hi
  obtain ⟨a, ha, hb⟩ := List.any_eq_true.mp h1
  simp only [Bool.and_eq_true, decide_eq_true_eq] at hb
  have h2 := List.all_eq_true.mp (h a ha) (i - a) (List.mem_range.mpr (by omega))
  rw [show a + (i - a) = i by omega] at h2
  exact h2
theorem hx_at {u : hx_M} {i : Nat} {ins : Instr} (h : hx_okO u = true) (hi : (hx_ops u)[i]? = some ins) : hx_okI u i ins = true := by
  unfold hx_okO at h
  rw [Bool.and_eq_true] at h
  have hl : i < (hx_ops u).length := (List.getElem?_eq_some_iff.mp hi).1
  have h2 := List.all_eq_true.mp h.1 i (List.mem_range.mpr hl)
  rw [hi] at h2
  exact h2
theorem hx_at0 {u : hx_M} (h : hx_okO u = true) : hx_pc u 0 = 0 := by
  unfold hx_okO at h
  rw [Bool.and_eq_true] at h
  exact of_decide_eq_true h.2
theorem hx_dec_s {u : hx_M} {i : Nat} {j : Instr} {n : Nat} (h : hx_dec u i j n = true) : decode (hx_b u) (hx_pc u i) = .ok (j, n) ∧ hx_pc u (i + 1) = hx_pc u i + n := by
  unfold hx_dec at h
  rw [Bool.and_eq_true] at h
  exact ⟨of_decide_eq_true h.1, of_decide_eq_true h.2⟩
