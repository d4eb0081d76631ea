/-! the class's seas of a land all ash -/
def fl_sideN (f : Nat) (D : Nat) (S : List Nat) : Nat → Nat × List Nat
  | 0 => (D, S)
  | n + 1 => match fl_sideN f D S n with
    | (D', S') => if 0 ≤ pa_beside f n ∧ D'.testBit (pa_beside f n).toNat = false ∧ S'.length < 64 then (D' ||| 2 ^ (pa_beside f n).toNat, (pa_beside f n).toNat :: S') else (D', S')
def fl_fillN : Nat → Nat → List Nat → Nat → Nat × Nat
  | 0, D, _, z => (D, z)
  | _ + 1, D, [], z => (D, z)
  | n + 1, D, f :: S, z => match fl_sideN f D S 4 with
    | (D', S') => fl_fillN n D' S' (z + 1)
theorem fl_all : fl_fillN 64 1 [0] 0 = (2 ^ 64 - 1, 64) := by decide +kernel
abbrev fl_R (t : hy_T) (w : Int) (D : Nat) (S : List Nat) : Prop :=
  (∀ j : Nat, j < 64 → t 53 j = 1) ∧ (∀ j : Nat, j < 64 → t 54 j = if D.testBit j = true then 1 else 0) ∧ w = S.length ∧ S.length ≤ 64 ∧ ∀ (i : Nat) (h : i < S.length), S[i] < 64 ∧ t 56 (S.length - 1 - i) = (S[i] : Nat)
theorem fl_push {t : hy_T} {w : Int} {D : Nat} {S : List Nat} (h : fl_R t w D S) {b : Nat} (hb : b < 64) (hl : S.length < 64) : fl_R (pa_push t b w).1 (pa_push t b w).2 (D ||| 2 ^ b) (b :: S) := by
  obtain ⟨h1, h2, h3, h4, h5⟩ := h
  have e : pa_push t b w = (hy_up (hy_up t 54 b 1) 56 S.length b, w + 1) := by
    unfold pa_push
    rw [if_pos ⟨⟨by omega, by omega⟩, by omega, by omega⟩, show (b : Int).toNat = b from rfl, show w.toNat = S.length by omega]
  rw [e]
  refine ⟨fun j hj => h1 j hj, fun j hj => ?_, by simp; omega, by simp; omega, fun i hi => ?_⟩
  · show hy_up (hy_up t 54 b 1) 56 S.length (b : Int) 54 j = _
    rw [Nat.testBit_or, Nat.testBit_two_pow]
    by_cases hjb : j = b
    · subst hjb; simp [hy_up]
    · rw [show hy_up (hy_up t 54 b 1) 56 S.length (b : Int) 54 j = t 54 j by simp [hy_up, hjb], h2 j hj, decide_eq_false (show ¬ b = j by omega), Bool.or_false]
  · cases i with
    | zero =>
      refine ⟨hb, ?_⟩
      show hy_up (hy_up t 54 b 1) 56 S.length (b : Int) 56 ((b :: S).length - 1 - 0) = _
      rw [show (b :: S).length - 1 - 0 = S.length by simp]
      simp [hy_up]
    | succ i =>
      have hi2 : i < S.length := by simp at hi; omega
      obtain ⟨a1, a2⟩ := h5 i hi2
      refine ⟨a1, ?_⟩
      show hy_up (hy_up t 54 b 1) 56 S.length (b : Int) 56 ((b :: S).length - 1 - (i + 1)) = _
      rw [show (b :: S).length - 1 - (i + 1) = S.length - 1 - i by simp; omega]
      rw [show hy_up (hy_up t 54 b 1) 56 S.length (b : Int) 56 (S.length - 1 - i) = t 56 (S.length - 1 - i) by
        simp only [hy_up]
        rw [if_neg (by omega), if_neg (by omega)]]
      exact a2
theorem fl_side {t : hy_T} {w : Int} {D : Nat} {S : List Nat} (h : fl_R t w D S) {f : Nat} (hf : f < 64) : ∀ n : Nat, fl_R (pa_side t f w n).1 (pa_side t f w n).2 (fl_sideN f D S n).1 (fl_sideN f D S n).2
  | 0 => h
  | n + 1 => by
    have ih := fl_side h hf n
    have hb := pa_beside_in (f := (f : Int)) (by omega) n
    have e : fl_sideN f D S (n + 1) = if 0 ≤ pa_beside f n ∧ (fl_sideN f D S n).1.testBit (pa_beside f n).toNat = false ∧ (fl_sideN f D S n).2.length < 64 then ((fl_sideN f D S n).1 ||| 2 ^ (pa_beside f n).toNat, (pa_beside f n).toNat :: (fl_sideN f D S n).2) else ((fl_sideN f D S n).1, (fl_sideN f D S n).2) := by
      conv => lhs; unfold fl_sideN
    rw [e]
    generalize fl_sideN f D S n = P at ih
    obtain ⟨D', S'⟩ := P
    dsimp only at ih ⊢
    simp only [pa_side]
    obtain ⟨i1, i2, i3, i4, i5⟩ := ih
    by_cases hp : 0 ≤ pa_beside f n
    · have v1 := i1 (pa_beside f n).toNat (by omega)
      have v2 := i2 (pa_beside f n).toNat (by omega)
      by_cases hd : D'.testBit (pa_beside f n).toNat = true
      · rw [if_pos hd] at v2
        rw [if_neg (fun q => by rw [v2] at q; exact absurd q.2.2 (by decide)), if_neg (fun q => by rw [hd] at q; exact absurd q.2.1 (by decide))]
        exact ⟨i1, i2, i3, i4, i5⟩
      · rw [if_neg hd] at v2
        rw [if_pos ⟨hp, by rw [v1]; decide, v2⟩]
        rw [Bool.not_eq_true] at hd
        by_cases hl : S'.length < 64
        · rw [if_pos ⟨hp, hd, hl⟩]
          have := fl_push ⟨i1, i2, i3, i4, i5⟩ (b := (pa_beside f n).toNat) (by omega) hl
          rw [show (((pa_beside f n).toNat : Nat) : Int) = pa_beside f n by omega] at this
          exact this
        · rw [if_neg (fun q => hl q.2.2)]
          have e2 : pa_push (pa_side t f w n).1 (pa_beside f n) (pa_side t f w n).2 = ((pa_side t f w n).1, (pa_side t f w n).2) := by
            unfold pa_push
            rw [if_neg (by omega)]
          rw [e2]
          exact ⟨i1, i2, i3, i4, i5⟩
    · rw [if_neg (fun q => hp q.1), if_neg (fun q => hp q.1)]
      exact ⟨i1, i2, i3, i4, i5⟩
theorem fl_fill : ∀ (n : Nat) {t : hy_T} {w : Int} {D : Nat} {S : List Nat} (z : Nat), fl_R t w D S → (pa_fillN n t w z).2 = ((fl_fillN n D S z).2 : Nat) ∧ ∀ j : Nat, j < 64 → (pa_fillN n t w z).1 54 j = if (fl_fillN n D S z).1.testBit j = true then 1 else 0
  | 0, t, w, D, S, z, h => ⟨rfl, h.2.1⟩
  | n + 1, t, w, D, [], z, h => by
    have h3 := h.2.2.1
    simp only [pa_fillN]
    rw [if_neg (by simp at h3; omega)]
    exact ⟨rfl, h.2.1⟩
  | n + 1, t, w, D, f :: S, z, h => by
    obtain ⟨h1, h2, h3, h4, h5⟩ := h
    simp only [List.length_cons] at h3 h4
    have hw : 0 < w := by omega
    obtain ⟨hf, hv⟩ := h5 0 (by simp)
    simp only [List.length_cons, List.getElem_cons_zero] at hf hv
    have hv2 : t 56 (w - 1).toNat = (f : Int) := by
      rw [show (w - 1).toNat = S.length + 1 - 1 - 0 by omega]
      exact hv
    have hr : fl_R t (w - 1) D S := by
      refine ⟨h1, h2, by omega, by omega, fun i hi => ?_⟩
      obtain ⟨a1, a2⟩ := h5 (i + 1) (by simp; omega)
      simp only [List.length_cons, List.getElem_cons_succ] at a1 a2
      exact ⟨a1, by rw [← a2]; congr 1; omega⟩
    have hs := fl_side hr hf 4
    have e : fl_fillN (n + 1) D (f :: S) z = fl_fillN n (fl_sideN f D S 4).1 (fl_sideN f D S 4).2 (z + 1) := by
      conv => lhs; unfold fl_fillN
    have e2 : pa_fillN (n + 1) t w z = pa_fillN n (pa_side t f (w - 1) 4).1 (pa_side t f (w - 1) 4).2 ((z + 1 : Nat) : Int) := by
      simp only [pa_fillN]
      rw [if_pos hw, hv2]
      rfl
    rw [e, e2]
    exact fl_fill n (z + 1) hs
theorem pa_forgetN_0 (t : hy_T) : ∀ (n j : Nat), j < n → pa_forgetN t n 54 j = 0
  | 0, j, h => by omega
  | n + 1, j, h => by
    simp only [pa_forgetN]
    by_cases e : j = n
    · subst e; simp [hy_up]
    · rw [show ∀ v, hy_up (hy_up (pa_forgetN t n) 54 n 0) 55 n v 54 j = pa_forgetN t n 54 j from fun v => by simp [hy_up, e]]
      exact pa_forgetN_0 t n j (by omega)
theorem fl_seas {t : hy_T} (h : ∀ j : Nat, j < 64 → t 53 j = 1) : ∀ n : Nat, n ≤ 64 → 0 < n → (∀ j : Nat, j < 64 → pa_seaN t n 54 j = 1 ∧ pa_seaN t n 53 j = 1) ∧ pa_seaN t n 52 4 = 1 ∧ pa_seaN t n 52 5 = 64
  | 0, _, h0 => by omega
  | 1, _, _ => by
    have z53 : ∀ j : Nat, j < 64 → pa_seaN t 0 53 j = 1 := fun j hj => by
      show hy_up (hy_up (pa_forgetN t 64) 52 4 0) 52 5 0 53 j = 1
      rw [show hy_up (hy_up (pa_forgetN t 64) 52 4 0) 52 5 0 53 j = pa_forgetN t 64 53 j from rfl, pa_forgetN_G t 64 53 j rfl, h j hj]
    have z54 : ∀ j : Nat, j < 64 → pa_seaN t 0 54 j = 0 := fun j hj => pa_forgetN_0 t 64 j hj
    have z4 : pa_seaN t 0 52 4 = 0 := rfl
    have z5 : pa_seaN t 0 52 5 = 0 := rfl
    have e : pa_seaN t 1 = hy_up (pa_fill (hy_up (pa_seaN t 0) 52 4 (pa_seaN t 0 52 4 + 1)) 0).1 52 5 (if pa_seaN t 0 52 5 < (pa_fill (hy_up (pa_seaN t 0) 52 4 (pa_seaN t 0 52 4 + 1)) 0).2 then (pa_fill (hy_up (pa_seaN t 0) 52 4 (pa_seaN t 0 52 4 + 1)) 0).2 else pa_seaN t 0 52 5) := by
      conv => lhs; unfold pa_seaN
      rw [if_pos ⟨by rw [z53 0 (by decide)]; decide, z54 0 (by decide)⟩]
      rfl
    rw [z4, z5] at e
    generalize hT : hy_up (pa_seaN t 0) 52 4 (0 + 1) = T at e
    have T53 : ∀ j : Nat, j < 64 → T 53 j = 1 := fun j hj => by rw [← hT, show ∀ (u : hy_T) (v : Int), hy_up u 52 4 v 53 j = u 53 j from fun _ _ => rfl]; exact z53 j hj
    have T54 : ∀ j : Nat, j < 64 → T 54 j = 0 := fun j hj => by rw [← hT, show ∀ (u : hy_T) (v : Int), hy_up u 52 4 v 54 j = u 54 j from fun _ _ => rfl]; exact z54 j hj
    have T4 : T 52 4 = 1 := by rw [← hT, show ∀ (u : hy_T) (v : Int), hy_up u 52 4 v 52 4 = v from fun _ _ => rfl]; rfl
    have r0 : fl_R T 0 0 [] := ⟨T53, fun j hj => by rw [T54 j hj]; simp, rfl, by simp, fun i hi => by simp at hi⟩
    have r1 := fl_push r0 (b := 0) (by decide) (by simp)
    have r2 := fl_fill 64 0 r1
    rw [show (0 : Nat) ||| 2 ^ 0 = 1 from rfl, fl_all] at r2
    obtain ⟨s1, s2⟩ := r2
    have f1 : (pa_fill T 0).2 = 64 := s1
    have f2 : ∀ j : Nat, j < 64 → (pa_fill T 0).1 54 j = 1 := fun j hj => by
      refine (s2 j hj).trans (if_pos ?_)
      show (2 ^ 64 - 1).testBit j = true
      rw [Nat.testBit_two_pow_sub_one]
      exact decide_eq_true hj
    have fF : hy_F pfX T (pa_fill T 0).1 := by
      unfold pa_fill
      have g1 : ∀ (n : Nat) (u : hy_T) (w z : Int), hy_F pfX u (pa_fillN n u w z).1 := by
        intro n
        induction n with
        | zero => intro u w z; exact hy_F.rf
        | succ n ih =>
          intro u w z
          have g2 : ∀ (f w : Int) (s : Nat), hy_F pfX u (pa_side u f w s).1 := by
            intro f w s
            induction s with
            | zero => exact hy_F.rf
            | succ s ihs =>
              simp only [pa_side]
              split
              · unfold pa_push
                split
                · exact (ihs.up rfl).up rfl
                · exact ihs
              · exact ihs
          simp only [pa_fillN]
          split
          · exact (g2 _ _ 4).tr' (ih _ _ _)
          · exact hy_F.rf
      refine hy_F.tr' ?_ (g1 64 _ _ _)
      unfold pa_push
      split
      · exact (hy_F.rf.up rfl).up rfl
      · exact hy_F.rf
    rw [f1] at e
    refine ⟨fun j hj => ⟨?_, ?_⟩, ?_, ?_⟩
    · rw [e]; exact f2 j hj
    · rw [e]; exact (fF 53 j rfl).trans (T53 j hj)
    · rw [e]; exact (fF 52 4 rfl).trans T4
    · rw [e]; rfl
  | n + 2, hn, _ => by
    obtain ⟨i1, i2, i3⟩ := fl_seas h (n + 1) (by omega) (by omega)
    have e : pa_seaN t (n + 2) = pa_seaN t (n + 1) := by
      conv => lhs; unfold pa_seaN
      rw [if_neg (fun q => by rw [(i1 (n + 1) (by omega)).1] at q; exact absurd q.2 (by decide))]
    rw [e]
    exact ⟨i1, i2, i3⟩
