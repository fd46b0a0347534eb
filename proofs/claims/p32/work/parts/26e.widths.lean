/-! the widths as the order finds them: the words of the pieces, nothing long -/
def Ow (q : Nat) (s0 z : Sg) : Prop := (∀ k j, k < q + 15 → z k j = s0 k j) ∧ 0 ≤ (z (q + 15) 5).toInt ∧ (z (q + 15) 5).toInt ≤ 24 ∧ ∀ j : Nat, (j : Int) < (z (q + 15) 5).toInt → rg (z (q + 16) j) 24 ∧ z (q + 19) (z (q + 16) j).toNatClampNeg = 0 ∧ ∀ p : Nat, p < 8 → z (q + 20) ((z (q + 16) j).toNatClampNeg * 8 + p) = D_X8_words s0 (z (q + 16) j) (Int32.ofInt (p : Int))
theorem ow_append {q : Nat} (hq : q = 38 ∨ q = 60) {s0 z : Sg} (h : Ow q s0 z) {a : Int32} : Ow q s0 (D_X3_append q z a) := by
  by_cases c0 : 24 ≤ z (q + 15) 5
  · unfold D_X3_append; rw [if_pos c0]; exact h
  · by_cases c1 : D_X11_isIn a 24 = 0
    · unfold D_X3_append; rw [if_neg c0, if_pos c1]; exact h
    · have ra := rg_isIn c1 (n := 24) rfl
      have hlt : (z (q + 15) 5).toInt < 24 := i_lt c0 rfl
      obtain ⟨h1, h2, h3, h4⟩ := h
      obtain ⟨a1, a2, a3, a4, a5⟩ := ap_at hq ra hlt
      have hi : (z (q + 15) 5 + 1).toInt = (z (q + 15) 5).toInt + 1 := i_add1 (by omega)
      have hw : ∀ p, D_X8_words z a p = D_X8_words s0 a p := fun p => by
        unfold D_X8_words D_X8_hasPiece
        rw [h1 15 _ (by omega), h1 16 _ (by omega), h1 17 _ (by omega)]
      refine ⟨fun k j hk => (fr_append hk).trans (h1 k j hk), by rw [a1, hi]; omega, by rw [a1, hi]; omega, ?_⟩
      rw [a1, hi]
      intro j hj
      rw [a2]
      have new : rg a 24 ∧ (D_X3_append q z a) (q + 19) a.toNatClampNeg = 0 ∧ ∀ p : Nat, p < 8 → (D_X3_append q z a) (q + 20) (a.toNatClampNeg * 8 + p) = D_X8_words s0 a (Int32.ofInt (p : Int)) := ⟨ra, by rw [a3, if_pos rfl], fun p hp => by rw [a4 p hp, hw]⟩
      by_cases e : j = (z (q + 15) 5).toNatClampNeg
      · rw [if_pos e]; exact new
      · rw [if_neg e]
        obtain ⟨w1, w2, w3⟩ := h4 j (by rw [tn] at e; omega)
        by_cases e2 : (z (q + 16) j).toNatClampNeg = a.toNatClampNeg
        · rw [n_inj w1.1 ra.1 e2]; exact new
        · exact ⟨w1, by rw [a3, if_neg e2]; exact w2, fun p hp => by rw [a5 _ (by omega)]; exact w3 p hp⟩
theorem ow_order {q : Nat} (hq : q = 38 ∨ q = 60) {s : Sg} : Ow q s (D_X3_orderSections q s) := by
  have z0 : (0 : Int32).toInt = 0 := rfl
  have start : Ow q s (up s (q + 15) 5 0) := by
    have e : (up s (q + 15) 5 0) (q + 15) 5 = 0 := by simp [up_at]
    refine ⟨fun k j hk => by rw [up_ne (by omega)], by rw [e, z0]; omega, by rw [e, z0]; omega, ?_⟩
    rw [e, z0]; intro j hj; omega
  unfold D_X3_orderSections R_X3_orderSections_80
  refine itr_inv (B := uc2 (B_X3_orderSections_7 q)) (I := fun z => Ow q s z.2) (fun z hz => ?_) BIG (0, up s (q + 15) 5 0) start
  obtain ⟨x, z⟩ := z
  have hz : Ow q s z := hz
  show Ow q s (B_X3_orderSections_7 q x z).2.2
  unfold B_X3_orderSections_7
  by_cases c : D_X10_count q z ≤ x
  · rw [if_pos c]; exact hz
  · rw [if_neg c]
    show Ow q s (itr (uc2 (B_X3_orderSections_29 q x (D_X10_objectAt q z x))) BIG (0, z)).2
    refine itr_inv (B := uc2 (B_X3_orderSections_29 q x (D_X10_objectAt q z x))) (I := fun y => Ow q s y.2) (fun y hy => ?_) BIG (0, z) hz
    obtain ⟨y1, y⟩ := y
    have hy : Ow q s y := hy
    show Ow q s (B_X3_orderSections_29 q x (D_X10_objectAt q z x) y1 y).2.2
    unfold B_X3_orderSections_29
    by_cases d0 : D_X8_count y ≤ y1
    · rw [if_pos d0]; exact hy
    · rw [if_neg d0]
      by_cases d1 : D_X7_hasSection q y y1 = 0
      · rw [if_pos d1]; exact hy
      · rw [if_neg d1]
        by_cases d2 : D_X8_objectOf y y1 = D_X10_objectAt q z x
        · rw [if_pos d2]; exact ow_append hq hy
        · rw [if_neg d2]; exact hy
theorem ofi_d : ∀ p : Nat, p < 8 → (Int32.ofInt (p : Int)).toInt = p ∧ (Int32.ofInt (p : Int)).toNatClampNeg = p := by decide
theorem ofi {p : Nat} (hp : p < 8) : (Int32.ofInt (p : Int)).toInt = p ∧ (Int32.ofInt (p : Int)).toNatClampNeg = p := ofi_d p hp
theorem words_at {s : Sg} (hS : Sz s) {a : Int32} (ha : rg a 24) {p : Nat} (hp : p < 8) : 0 ≤ (D_X8_words s a (Int32.ofInt (p : Int))).toInt ∧ (D_X8_words s a (Int32.ofInt (p : Int))).toInt ≤ 12 ∧ ((s 15 a.toNatClampNeg).toInt ≤ p → (D_X8_words s a (Int32.ofInt (p : Int))).toInt = 0) := by
  obtain ⟨e1, e2⟩ := ofi hp
  have rp : rg (Int32.ofInt (p : Int)) 8 := ⟨by omega, by omega⟩
  unfold D_X8_words D_X8_hasPiece
  rw [if_neg (n_lt ha.1), if_neg (n_le (m := 24) (n := 24) ha.2 rfl), if_neg (n_lt rp.1), if_neg (n_le (m := 8) (n := 8) rp.2 rfl)]
  by_cases c : s 15 a.toNatClampNeg ≤ Int32.ofInt (p : Int)
  · rw [if_pos c, if_pos rfl]; exact ⟨by decide, by decide, fun _ => rfl⟩
  · have hc := i_nle c
    rw [e1] at hc
    rw [if_neg c, if_neg (by decide), i_ma 8 8 rfl ha rp (by decide) (by decide), e2]
    by_cases d : s 16 (a.toNatClampNeg * 8 + p) = 0
    · rw [if_pos d]
      have := hS.2.1 a.toNatClampNeg p (rg_nat ha).1 hp hc d
      exact ⟨this.1, this.2, fun q => by omega⟩
    · rw [if_neg d]
      by_cases d2 : s 16 (a.toNatClampNeg * 8 + p) = 1
      · rw [if_pos d2]; exact ⟨by decide, by decide, fun q => by omega⟩
      · rw [if_neg d2]; exact ⟨by decide, by decide, fun q => by omega⟩
theorem isum_pad {f : Nat → Int} {m : Int} (hm : 0 ≤ m) : ∀ n : Nat, (∀ i, i < n → f i ≤ 12) → (∀ i : Nat, i < n → m ≤ i → f i = 0) → isum f n ≤ 12 * m := by
  intro n
  induction n with
  | zero => intro _ _; show (0 : Int) ≤ _; omega
  | succ n ih =>
    intro h1 h2
    show isum f n + f n ≤ 12 * m
    by_cases c : m ≤ n
    · rw [h2 n (by omega) c]
      have := ih (fun i hi => h1 i (by omega)) (fun i hi => h2 i (by omega))
      omega
    · have := isum_12 (f := f) n (fun i hi => h1 i (by omega))
      have := h1 n (by omega)
      omega
theorem ow_wk {q : Nat} {s z : Sg} (hS : Sz s) (h : Ow q s z) {j : Nat} (hj : (j : Int) < (z (q + 15) 5).toInt) (h0 : 0 ≤ (s 15 (z (q + 16) j).toNatClampNeg).toInt) : Wk q z (z (q + 16) j) ∧ isum (wz q z (z (q + 16) j)) 8 ≤ 12 * (s 15 (z (q + 16) j).toNatClampNeg).toInt := by
  obtain ⟨w1, w2, w3⟩ := h.2.2.2 j hj
  have e : ∀ p, p < 8 → wz q z (z (q + 16) j) p = (D_X8_words s (z (q + 16) j) (Int32.ofInt (p : Int))).toInt := fun p hp => by unfold wz; rw [w3 p hp]
  have hw : Wk q z (z (q + 16) j) := fun p hp => by rw [e p hp]; have := words_at hS w1 hp; exact ⟨this.1, this.2.1⟩
  exact ⟨hw, isum_pad h0 8 (fun p hp => (hw p hp).2) (fun p hp hm => by rw [e p hp]; exact (words_at hS w1 hp).2.2 hm)⟩
