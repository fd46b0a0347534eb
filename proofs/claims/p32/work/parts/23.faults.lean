/-! faults -/
theorem Pc.of {q : Nat} {s t s' t' : Sg} (hs : ∀ k j, k < 23 ∨ (q + 3 ≤ k ∧ k ≤ q + 21) → s' k j = s k j) (ht : ∀ k j, k < 23 ∨ (q + 3 ≤ k ∧ k ≤ q + 21) → t' k j = t k j) (h : Pc q s t) : Pc q s' t' := by
  have a := fun k (j : Nat) (hk : k ≤ 21) (h3 : 3 ≤ k) => hs (q + k) j (by omega)
  have b := fun k (j : Nat) (hk : k ≤ 21) (h3 : 3 ≤ k) => ht (q + k) j (by omega)
  have hk := h.pl
  refine ⟨⟨hk.od.of (fun k j hk => hs k j (by omega)) (fun k j hk => ht k j (by omega)), ?_, ?_, ?_, ?_⟩, h.cv.of (fun k j hk => hs k j (by omega)), ?_⟩
  · rw [a 15 11 (by omega) (by omega), b 15 11 (by omega) (by omega)]; exact hk.e11
  · rw [a 15 12 (by omega) (by omega), b 15 12 (by omega) (by omega)]; exact hk.e12
  · rw [a 15 5 (by omega) (by omega)]; intro j hj; rw [a 16 j (by omega) (by omega), a 17 _ (by omega) (by omega), b 17 _ (by omega) (by omega)]; exact hk.a17 j hj
  · rw [a 15 5 (by omega) (by omega)]; intro j hj; rw [a 16 j (by omega) (by omega), a 18 _ (by omega) (by omega), b 18 _ (by omega) (by omega)]; exact hk.a18 j hj
  · intro j hj; rw [a 21 j (by omega) (by omega), b 21 j (by omega) (by omega)]; exact h.nm j hj
def Fl (q : Nat) (s t : Sg) : Prop :=
  (Pc q s t) ∧
  (t (q + 1) 1 = s (q + 1) 1) ∧
  (0 ≤ (s (q + 1) 1).toInt) ∧
  ((s (q + 1) 1).toInt ≤ 405) ∧
  (∀ j : Nat, (j : Int) < 4 * (s (q + 1) 1).toInt → t (q + 2) j = s (q + 2) j)
theorem Fl.pc {q : Nat} {s t : Sg} (h : Fl q s t) : Pc q s t := h.1
theorem Fl.n {q : Nat} {s t : Sg} (h : Fl q s t) : t (q + 1) 1 = s (q + 1) 1 := h.2.1
theorem Fl.n0 {q : Nat} {s t : Sg} (h : Fl q s t) : 0 ≤ (s (q + 1) 1).toInt := h.2.2.1
theorem Fl.n1 {q : Nat} {s t : Sg} (h : Fl q s t) : (s (q + 1) 1).toInt ≤ 405 := h.2.2.2.1
theorem Fl.fa {q : Nat} {s t : Sg} (h : Fl q s t) : ∀ j : Nat, (j : Int) < 4 * (s (q + 1) 1).toInt → t (q + 2) j = s (q + 2) j := h.2.2.2.2
theorem fl_add {q : Nat} (hq : q = 38 ∨ q = 60) {s t : Sg} (h : Fl q s t) {a b c d : Int32} : Fl q (D_X0_add q s a b c d) (D_X0_add q t a b c d) := by
  unfold D_X0_add
  rw [h.n]
  by_cases c0 : s (q + 1) 1 < 405
  · rw [if_pos c0, if_pos c0]
    have hn0 := h.n0
    have hc := i_lt2 (n := 405) c0 rfl
    have hi : (s (q + 1) 1 + 1).toInt = (s (q + 1) 1).toInt + 1 := i_add1 (by omega)
    have r : rg (s (q + 1) 1) 405 := ⟨hn0, hc⟩
    have i0 : (s (q + 1) 1 * 4).toNatClampNeg = (s (q + 1) 1).toNatClampNeg * 4 := by
      have := i_ma (x := s (q + 1) 1) (y := 0) (m := 1) 4 4 rfl r ⟨by decide, by decide⟩ (by decide) (by decide)
      rw [Int32.add_zero] at this
      exact this
    have i1 : (s (q + 1) 1 * 4 + 1).toNatClampNeg = (s (q + 1) 1).toNatClampNeg * 4 + 1 := i_ma (x := s (q + 1) 1) (y := 1) (m := 2) 4 4 rfl r ⟨by decide, by decide⟩ (by decide) (by decide)
    have i2 : (s (q + 1) 1 * 4 + 2).toNatClampNeg = (s (q + 1) 1).toNatClampNeg * 4 + 2 := i_ma (x := s (q + 1) 1) (y := 2) (m := 3) 4 4 rfl r ⟨by decide, by decide⟩ (by decide) (by decide)
    have i3 : (s (q + 1) 1 * 4 + 3).toNatClampNeg = (s (q + 1) 1).toNatClampNeg * 4 + 3 := i_ma (x := s (q + 1) 1) (y := 3) (m := 4) 4 4 rfl r ⟨by decide, by decide⟩ (by decide) (by decide)
    rw [i0, i1, i2, i3]
    generalize hN : (s (q + 1) 1).toNatClampNeg = N
    have hN2 : (N : Int) = (s (q + 1) 1).toInt := by rw [← hN, tn]; omega
    have f : ∀ (z : Sg) (w : Int32) (k j : Nat), k ≠ q + 1 → k ≠ q + 2 → (up (up (up (up (up z (q + 2) (N * 4) a) (q + 2) (N * 4 + 1) b) (q + 2) (N * 4 + 2) c) (q + 2) (N * 4 + 3) d) (q + 1) 1 w) k j = z k j := fun z w k j e1 e2 => by
      rw [up_ne e1, up_ne e2, up_ne e2, up_ne e2, up_ne e2]
    have v1 : ∀ (z : Sg) (w : Int32), (up (up (up (up (up z (q + 2) (N * 4) a) (q + 2) (N * 4 + 1) b) (q + 2) (N * 4 + 2) c) (q + 2) (N * 4 + 3) d) (q + 1) 1 w) (q + 1) 1 = w := fun z w => by simp [up_at]
    have v2 : ∀ (z : Sg) (w : Int32) (j : Nat), (up (up (up (up (up z (q + 2) (N * 4) a) (q + 2) (N * 4 + 1) b) (q + 2) (N * 4 + 2) c) (q + 2) (N * 4 + 3) d) (q + 1) 1 w) (q + 2) j = if j = N * 4 + 3 then d else if j = N * 4 + 2 then c else if j = N * 4 + 1 then b else if j = N * 4 then a else z (q + 2) j := fun z w j => by simp [up_at]
    refine ⟨h.pc.of (fun k j hk => f _ _ _ _ (by omega) (by omega)) (fun k j hk => f _ _ _ _ (by omega) (by omega)), by rw [v1, v1], by rw [v1]; omega, by rw [v1]; omega, ?_⟩
    rw [v1, hi]
    intro j hj
    rw [v2, v2]
    by_cases c3 : j = N * 4 + 3
    · rw [if_pos c3, if_pos c3]
    · by_cases c2 : j = N * 4 + 2
      · rw [if_neg c3, if_neg c3, if_pos c2, if_pos c2]
      · by_cases c1 : j = N * 4 + 1
        · rw [if_neg c3, if_neg c3, if_neg c2, if_neg c2, if_pos c1, if_pos c1]
        · by_cases c00 : j = N * 4
          · rw [if_neg c3, if_neg c3, if_neg c2, if_neg c2, if_neg c1, if_neg c1, if_pos c00, if_pos c00]
          · rw [if_neg c3, if_neg c3, if_neg c2, if_neg c2, if_neg c1, if_neg c1, if_neg c00, if_neg c00]
            exact h.fa j (by omega)
  · rw [if_neg c0, if_neg c0]; exact h
