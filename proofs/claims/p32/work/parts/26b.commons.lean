/-! what sizes rest on; the sizes of common names -/
def Sz (s : Sg) : Prop :=
  (∀ j : Nat, (j : Int) < (s 11 8).toInt → pw (s 13 j)) ∧
  (∀ j p : Nat, j < 24 → p < 8 → (p : Int) < (s 15 j).toInt → s 16 (j * 8 + p) = 0 → 0 ≤ (s 17 (j * 8 + p)).toInt ∧ (s 17 (j * 8 + p)).toInt ≤ 12) ∧
  (∀ o n : Nat, (o : Int) < (s 1 9).toInt → o < 10 → n < 20 → bt_ (s 2 o) n = true → s 5 (o * 20 + n) = 1 → n < 8 ∧ 0 ≤ (s 8 (o * 20 + n)).toInt ∧ (s 8 (o * 20 + n)).toInt ≤ 9 ∧ al8 (s 9 (o * 20 + n)))
theorem Sz.of {s s' : Sg} (hs : ∀ k j, k < 23 → s' k j = s k j) (h : Sz s) : Sz s' := by
  refine ⟨?_, ?_, ?_⟩
  · rw [hs 11 8 (by decide)]; intro j hj; rw [hs _ _ (by decide)]; exact h.1 j hj
  · intro j p hj hp; rw [hs _ _ (by decide), hs _ _ (by decide), hs _ _ (by decide)]; exact h.2.1 j p hj hp
  · rw [hs 1 9 (by decide)]; intro o n ho ho2 hn; rw [hs _ _ (by decide), hs _ _ (by decide), hs _ _ (by decide), hs _ _ (by decide)]; exact h.2.2 o n ho ho2 hn
def Sv (q : Nat) (s : Sg) : Prop := ∀ n : Nat, n < 20 → s (q + 6) n = 1 → n < 8 ∧ 0 ≤ (s (q + 10) n).toInt ∧ (s (q + 10) n).toInt ≤ 9 ∧ al8 (s (q + 11) n)
theorem Sv.of {q : Nat} {s s' : Sg} (hs : ∀ k j, q + 6 ≤ k → k ≤ q + 11 → s' k j = s k j) (h : Sv q s) : Sv q s' := by
  intro n hn
  rw [hs _ _ (by omega) (by omega), hs _ _ (by omega) (by omega), hs _ _ (by omega) (by omega)]
  exact h n hn
theorem k_at {s : Sg} {o n : Int32} (hk : ¬ D_X6_kind s o n = -1) : rg o 10 ∧ o.toInt < (s 1 9).toInt ∧ rg n 20 ∧ bt_ (s 2 o.toNatClampNeg) n.toNatClampNeg = true ∧ D_X6_kind s o n = s 5 (o.toNatClampNeg * 20 + n.toNatClampNeg) ∧ D_X6_size s o n = s 8 (o.toNatClampNeg * 20 + n.toNatClampNeg) ∧ D_X6_align s o n = s 9 (o.toNatClampNeg * 20 + n.toNatClampNeg) := by
  by_cases c0 : D_X6_has s o = 0
  · exact absurd (by unfold D_X6_kind; rw [if_pos c0]) hk
  · have ho := rg_X6_has c0
    by_cases c1 : D_X11_isName n = 0
    · exact absurd (by unfold D_X6_kind; rw [if_neg c0, if_pos c1]) hk
    · have hn := rg_isName c1
      have h1 : o.toInt < (s 1 9).toInt := by
        unfold D_X6_has at c0
        rw [if_neg (n_lt ho.1)] at c0
        by_cases c2 : s 1 9 ≤ o
        · rw [if_pos c2] at c0; exact absurd rfl c0
        · exact i_nle c2
      have h2 := kind_at ho h1 hn hk
      refine ⟨ho, h1, hn, h2.1, h2.2.1, ?_, ?_⟩
      · unfold D_X6_size; rw [if_neg c0, if_neg c1, on_at ho hn]
      · unfold D_X6_align; rw [if_neg c0, if_neg c1, on_at ho hn]
theorem max_at {a b : Int32} : D_J9_max_7cf53 a b = a ∨ D_J9_max_7cf53 a b = b := by
  unfold D_J9_max_7cf53
  by_cases c : a < b
  · rw [if_pos c]; exact Or.inr rfl
  · rw [if_neg c]; exact Or.inl rfl
theorem sv_ad {q : Nat} {s : Sg} {n o : Int32} (hS : Sz s) (h : Sv q s) (hk : ¬ D_X6_kind s o n = -1) : Sv q (ad q s n o (D_X6_kind s o n)) := by
  obtain ⟨ho, h1, hn, hb, e5, e8, e9⟩ := k_at hk
  obtain ⟨a6, _, _, _, a10, a11, _⟩ := ad_at (q := q) (s := s) (n := n) (o := o) (k := D_X6_kind s o n)
  intro j hj
  rw [a6, a10, a11]
  by_cases c : j = n.toNatClampNeg
  · rw [if_pos c, if_pos c, if_pos c, e5, e8, e9, c]
    intro h5
    exact hS.2.2 _ _ (by rw [tn]; have := ho.1; omega) (rg_nat ho).1 (rg_nat hn).1 hb h5
  · rw [if_neg c, if_neg c, if_neg c]; exact h j hj
theorem sv_weigh {q : Nat} (hq : q = 38 ∨ q = 60) {s : Sg} (hS : Sz s) (h : Sv q s) {n o : Int32} : Sv q (D_X9_weigh q s n o) := by
  have h23 : 23 ≤ q := by omega
  by_cases c0 : D_X6_kind s o n = -1
  · unfold D_X9_weigh; rw [if_pos c0]; exact h
  · have hA := sv_ad hS h c0
    obtain ⟨ho, h1, hn, hb, e5, e8, e9⟩ := k_at c0
    have hN := isName_rg hn
    have had : ∀ z : Sg, D_X9_adopt q z n o (D_X6_kind s o n) = ad q z n o (D_X6_kind s o n) := fun z => adopt_n h23 hN
    unfold D_X9_weigh
    rw [had, if_neg c0, if_neg hN]
    have hB : Sv q (if s (q + 6) n.toNatClampNeg = -1 then ad q s n o (D_X6_kind s o n) else if s (q + 6) n.toNatClampNeg ≤ D_X6_kind s o n then s else ad q s n o (D_X6_kind s o n)) := by
      by_cases c5 : s (q + 6) n.toNatClampNeg = -1
      · rw [if_pos c5]; exact hA
      · rw [if_neg c5]
        by_cases c6 : s (q + 6) n.toNatClampNeg ≤ D_X6_kind s o n
        · rw [if_pos c6]; exact h
        · rw [if_neg c6]; exact hA
    by_cases c1 : D_X6_kind s o n = 0
    · rw [if_pos c1]
      by_cases c2 : s (q + 6) n.toNatClampNeg = 0
      · rw [if_pos c2]
        exact h.of (fun k j h1 h2 => by rw [up_ne (by omega)])
      · rw [if_neg c2]
        by_cases c3 : D_X6_kind s o n = 1
        · rw [c3] at c1; exact absurd c1 (by decide)
        · rw [if_neg c3]; exact hB
    · rw [if_neg c1]
      by_cases c3 : D_X6_kind s o n = 1
      · rw [if_pos c3]
        by_cases c4 : s (q + 6) n.toNatClampNeg = 1
        · rw [if_pos c4]
          rw [e5] at c3
          obtain ⟨w1, w2, w3, w4⟩ := hS.2.2 _ _ (by rw [tn]; have := ho.1; omega) (rg_nat ho).1 (rg_nat hn).1 hb c3
          obtain ⟨v1, v2, v3, v4⟩ := h _ (rg_nat hn).1 c4
          rw [u6_align (by omega), e8, e9]
          intro j hj
          simp only [up_at]
          by_cases c : j = n.toNatClampNeg
          · subst c
            intro _
            refine ⟨w1, ?_⟩
            have z1 : ∀ m : Int32, (m = s (q + 10) n.toNatClampNeg ∨ m = s 8 (o.toNatClampNeg * 20 + n.toNatClampNeg)) → 0 ≤ m.toInt ∧ m.toInt ≤ 9 := fun m hm => by
              rcases hm with e | e
              · rw [e]; exact ⟨v2, v3⟩
              · rw [e]; exact ⟨w2, w3⟩
            have z2 : ∀ m : Int32, (m = s (q + 11) n.toNatClampNeg ∨ m = s 9 (o.toNatClampNeg * 20 + n.toNatClampNeg)) → al8 m := fun m hm => by
              rcases hm with e | e
              · rw [e]; exact v4
              · rw [e]; exact w4
            have y1 := z1 _ max_at
            have y2 := z2 _ max_at
            simp
            exact ⟨y1.1, y1.2, y2⟩
          · have := h j hj
            simpa [c] using this
        · rw [if_neg c4]; exact hB
      · rw [if_neg c3]; exact hB
theorem sv_settle {q : Nat} (hq : q = 38 ∨ q = 60) {s : Sg} (hS : Sz s) : Sv q (D_X9_settle q s) := by
  have f0 : Sv q (D_X9_forget q s) ∧ ∀ k j, k < 23 → (D_X9_forget q s) k j = s k j := by
    unfold D_X9_forget R_X9_forget_52
    refine lq (I := fun x z => (∀ j : Nat, (j : Int) < x.toInt → z (q + 6) j = -1) ∧ ∀ k j, k < 23 → z k j = s k j) (J := fun z => Sv q z ∧ ∀ k j, k < 23 → z k j = s k j) 20 (by decide) (fun x z hx0 hI => ?_) (by decide) (by decide) ⟨fun j hj => by have : (0 : Int32).toInt = 0 := rfl; omega, fun k j hk => by rw [up_ne (by omega), up_ne (by omega)]⟩
    obtain ⟨h1, h2⟩ := hI
    by_cases c0 : 20 ≤ x
    · have hx := i_le (n := 20) c0 rfl
      refine Or.inl ⟨x, z, if_pos c0, fun n hn e => ?_, h2⟩
      rw [h1 n (by omega)] at e; exact absurd e (by decide)
    · have hx := i_lt (n := 20) c0 rfl
      have hx1 : (x + 1).toInt = x.toInt + 1 := i_add1 (by omega)
      refine Or.inr ⟨hx, _, if_neg c0, fun j hj => ?_, fun k j hk => by rw [up_ne (by omega), up_ne (by omega), up_ne (by omega), up_ne (by omega)]; exact h2 k j hk⟩
      rw [up_ne (by omega), up_ne (by omega), up_ne (by omega), up_at]
      by_cases c : j = x.toNatClampNeg
      · rw [if_pos ⟨rfl, c⟩]
      · rw [if_neg (fun e => c e.2)]; exact h1 j (by rw [tn] at c; omega)
  have main : Sv q (D_X9_settle q s) ∧ ∀ k j, k < 23 → (D_X9_settle q s) k j = s k j := by
    unfold D_X9_settle R_X9_settle_50
    refine itr_inv (B := uc2 (B_X9_settle_6 q)) (I := fun z => Sv q z.2 ∧ ∀ k j, k < 23 → z.2 k j = s k j) (fun z hz => ?_) BIG (0, D_X9_forget q s) f0
    obtain ⟨x, z⟩ := z
    have hz : Sv q z ∧ ∀ k j, k < 23 → z k j = s k j := hz
    show Sv q (B_X9_settle_6 q x z).2.2 ∧ ∀ k j, k < 23 → (B_X9_settle_6 q x z).2.2 k j = s k j
    unfold B_X9_settle_6
    by_cases c : 20 ≤ x
    · rw [if_pos c]; exact hz
    · rw [if_neg c]
      show Sv q (itr (uc2 (B_X9_settle_14 q x)) BIG (0, z)).2 ∧ ∀ k j, k < 23 → (itr (uc2 (B_X9_settle_14 q x)) BIG (0, z)).2 k j = s k j
      refine itr_inv (B := uc2 (B_X9_settle_14 q x)) (I := fun y => Sv q y.2 ∧ ∀ k j, k < 23 → y.2 k j = s k j) (fun y hy => ?_) BIG (0, z) hz
      obtain ⟨y1, y⟩ := y
      have hy : Sv q y ∧ ∀ k j, k < 23 → y k j = s k j := hy
      show Sv q (B_X9_settle_14 q x y1 y).2.2 ∧ ∀ k j, k < 23 → (B_X9_settle_14 q x y1 y).2.2 k j = s k j
      unfold B_X9_settle_14
      by_cases d : D_X10_count q y ≤ y1
      · rw [if_pos d]; exact hy
      · rw [if_neg d]
        exact ⟨sv_weigh hq (hS.of hy.2) hy.1, fun k j hk => (fr_weigh hq (by omega)).trans (hy.2 k j hk)⟩
  exact main.1
