/-! addresses -/
theorem Od.of {q : Nat} {s t s' t' : Sg} (hs : ∀ k j, k < 23 ∨ (q + 3 ≤ k ∧ k ≤ q + 14) ∨ (k = q + 15 ∧ j = 5) ∨ k = q + 16 ∨ k = q + 19 ∨ k = q + 20 → s' k j = s k j) (ht : ∀ k j, k < 23 ∨ (q + 3 ≤ k ∧ k ≤ q + 14) ∨ (k = q + 15 ∧ j = 5) ∨ k = q + 16 ∨ k = q + 19 ∨ k = q + 20 → t' k j = t k j) (h : Od q s t) : Od q s' t' := by
  have a := hs (q + 15) 5 (by omega); have b := ht (q + 15) 5 (by omega)
  have c := fun j => hs (q + 16) j (by omega); have d := fun j => ht (q + 16) j (by omega)
  have e := fun j => hs (q + 19) j (by omega); have f := fun j => ht (q + 19) j (by omega)
  have g := fun j => hs (q + 20) j (by omega); have i := fun j => ht (q + 20) j (by omega)
  refine ⟨h.rt.of (fun k j hk => hs k j (by omega)) (fun k j hk => ht k j (by omega)), ?_, ?_, ?_, ?_, ?_, ?_, ?_, ?_⟩
  · rw [a, b]; exact h.n
  · rw [a]; exact h.n0
  · rw [a]; exact h.n1
  · rw [a, hs 11 8 (by omega), hs (q + 12) 5 (by omega)]; intro j hj; rw [c, d]; exact h.od j hj
  · rw [a]; intro j hj; rw [c, e, f]; exact h.ln j hj
  · rw [a]; intro j p hj hp; rw [c, g, i]; exact h.wi j p hj hp
  · rw [a]; intro j1 j2 h1 h2; rw [c, c]; exact h.di j1 j2 h1 h2
  · rw [a]; obtain ⟨z, z1, z2⟩ := h.cc
    exact ⟨z, fun k hk => by rw [z1 k hk]; exact ⟨fun ⟨j, j1, j2⟩ => ⟨j, j1, by rw [c]; exact j2⟩, fun ⟨j, j1, j2⟩ => ⟨j, j1, by rw [c] at j2; exact j2⟩⟩, z2⟩
theorem width_eq {q : Nat} {s t : Sg} {k : Int32} (hw : ∀ p : Nat, p < 8 → t (q + 20) (k.toNatClampNeg * 8 + p) = s (q + 20) (k.toNatClampNeg * 8 + p)) (p : Int32) : D_X3_width q t k p = D_X3_width q s k p := by
  unfold D_X3_width
  by_cases c0 : D_X11_isIn k 24 = 0
  · rw [if_pos c0, if_pos c0]
  · rw [if_neg c0, if_neg c0]
    by_cases c1 : D_X11_isIn p 8 = 0
    · rw [if_pos c1, if_pos c1]
    · rw [if_neg c1, if_neg c1]
      have r0 := rg_isIn c0 (n := 24) rfl
      have r1 := rg_isIn c1 (n := 8) rfl
      rw [i_ma 8 8 rfl r0 r1 (by decide) (by decide)]
      exact hw _ (rg_nat r1).1
theorem wa_eq {q : Nat} {s t : Sg} {k : Int32} (hw : ∀ p : Nat, p < 8 → t (q + 20) (k.toNatClampNeg * 8 + p) = s (q + 20) (k.toNatClampNeg * 8 + p)) (n : Int32) : D_X3_wordsAhead q t k n = D_X3_wordsAhead q s k n := by
  have e : B_X3_wordsAhead_5 q t k n = B_X3_wordsAhead_5 q s k n := by
    funext x y
    unfold B_X3_wordsAhead_5
    rw [width_eq hw]
  unfold D_X3_wordsAhead R_X3_wordsAhead_34
  rw [e]
def Pl (q : Nat) (s t : Sg) : Prop :=
  (Od q s t) ∧
  (t (q + 15) 11 = s (q + 15) 11) ∧
  (t (q + 15) 12 = s (q + 15) 12) ∧
  (∀ j : Nat, (j : Int) < (s (q + 15) 5).toInt → t (q + 17) (s (q + 16) j).toNatClampNeg = s (q + 17) (s (q + 16) j).toNatClampNeg) ∧
  (∀ j : Nat, (j : Int) < (s (q + 15) 5).toInt → t (q + 18) (s (q + 16) j).toNatClampNeg = s (q + 18) (s (q + 16) j).toNatClampNeg)
theorem Pl.od {q : Nat} {s t : Sg} (h : Pl q s t) : Od q s t := h.1
theorem Pl.e11 {q : Nat} {s t : Sg} (h : Pl q s t) : t (q + 15) 11 = s (q + 15) 11 := h.2.1
theorem Pl.e12 {q : Nat} {s t : Sg} (h : Pl q s t) : t (q + 15) 12 = s (q + 15) 12 := h.2.2.1
theorem Pl.a17 {q : Nat} {s t : Sg} (h : Pl q s t) : ∀ j : Nat, (j : Int) < (s (q + 15) 5).toInt → t (q + 17) (s (q + 16) j).toNatClampNeg = s (q + 17) (s (q + 16) j).toNatClampNeg := h.2.2.2.1
theorem Pl.a18 {q : Nat} {s t : Sg} (h : Pl q s t) : ∀ j : Nat, (j : Int) < (s (q + 15) 5).toInt → t (q + 18) (s (q + 16) j).toNatClampNeg = s (q + 18) (s (q + 16) j).toNatClampNeg := h.2.2.2.2
theorem pl_sections {q : Nat} (hq : q = 38 ∨ q = 60) {s t : Sg} (h : Od q s t) : Pl q (D_X3_placeSections q s) (D_X3_placeSections q t) := by
  unfold D_X3_placeSections R_X3_placeSections_114
  refine lpB (I := fun x s1 t1 => Od q s1 t1 ∧ (t1 (q + 15) 11 = s1 (q + 15) 11 ∧ t1 (q + 15) 12 = s1 (q + 15) 12) ∧ ∀ j : Nat, (j : Int) < x.toInt → (j : Int) < (s1 (q + 15) 5).toInt → t1 (q + 17) (s1 (q + 16) j).toNatClampNeg = s1 (q + 17) (s1 (q + 16) j).toNatClampNeg ∧ t1 (q + 18) (s1 (q + 16) j).toNatClampNeg = s1 (q + 18) (s1 (q + 16) j).toNatClampNeg) (J := fun s1 t1 => Pl q s1 t1) 24 (by decide) (fun x s1 t1 hx0 hI => ?_) (by decide) (by decide) ⟨h.of (fun k j hk => by rw [up_at, up_at, if_neg (by omega), if_neg (by omega)]) (fun k j hk => by rw [up_at, up_at, if_neg (by omega), if_neg (by omega)]), by simp [up_at], fun j hj => by have : (0 : Int32).toInt = 0 := rfl; omega⟩
  obtain ⟨hk, ⟨g1, g2⟩, hall⟩ := hI
  have hn1 := hk.n1
  have fin : (s1 (q + 15) 5).toInt ≤ x.toInt → Pl q s1 t1 := fun hx => ⟨hk, g1, g2, fun j hj => (hall j (by omega) hj).1, fun j hj => (hall j (by omega) hj).2⟩
  by_cases c0 : s1 (q + 15) 5 ≤ x
  · exact Or.inl ⟨x, x, s1, t1, if_pos c0, if_pos (by rw [hk.n]; exact c0), fin (Int32.le_iff_toInt_le.mp c0)⟩
  · have c0' : ¬ t1 (q + 15) 5 ≤ x := by rw [hk.n]; exact c0
    have hx := i_nle c0
    have c1 : ¬ 24 ≤ x := n_le (m := 24) (n := 24) (by omega) rfl
    have hx1 : (x + 1).toInt = x.toInt + 1 := i_add1 (by omega)
    obtain ⟨o1, o2, o3, o4⟩ := hk.od x.toNatClampNeg (by rw [tn]; omega)
    have hwi := fun p hp => hk.wi x.toNatClampNeg p (by rw [tn]; omega) hp
    have tb := hk.rt.st.tk.tb
    have hal := x8_align tb o2 o3
    have hn2 := tb.ns1
    have hn3 := tb.ns2
    have c2 : ¬ D_X11_isIn (s1 (q + 16) x.toNatClampNeg) 24 = 0 := by
      unfold D_X11_isIn
      rw [if_neg (n_lt o2), if_neg (n_le (m := 24) (n := 24) (by omega) rfl)]; decide
    have hB := fun (z : Sg) (a1 : ¬ z (q + 15) 5 ≤ x) (a2 : ¬ D_X11_isIn (z (q + 16) x.toNatClampNeg) 24 = 0) => (show B_X3_placeSections_12 q x z = _ from (if_neg a1).trans ((if_neg c1).trans (if_neg a2)))
    refine Or.inr (Or.inl ⟨by omega, _, _, hB s1 c0 c2, hB t1 c0' (by rw [o1]; exact c2), ?_⟩)
    have hwa : D_X3_wordsAhead q (up t1 (q + 17) (s1 (q + 16) x.toNatClampNeg).toNatClampNeg (D_X11_roundUp (s1 (q + 15) 11) (D_X8_align s1 (s1 (q + 16) x.toNatClampNeg)))) (s1 (q + 16) x.toNatClampNeg) 8 = D_X3_wordsAhead q (up s1 (q + 17) (s1 (q + 16) x.toNatClampNeg).toNatClampNeg (D_X11_roundUp (s1 (q + 15) 11) (D_X8_align s1 (s1 (q + 16) x.toNatClampNeg)))) (s1 (q + 16) x.toNatClampNeg) 8 :=
      wa_eq (fun p hp => by rw [up_ne (by omega), up_ne (by omega)]; exact hwi p hp) 8
    rw [o1, g1, g2, hal]
    generalize D_X11_roundUp (s1 (q + 15) 11) (D_X8_align s1 (s1 (q + 16) x.toNatClampNeg)) = A at hwa ⊢
    rw [hwa]
    generalize D_X3_wordsAhead q (up s1 (q + 17) (s1 (q + 16) x.toNatClampNeg).toNatClampNeg A) (s1 (q + 16) x.toNatClampNeg) 8 = W
    generalize hK : (s1 (q + 16) x.toNatClampNeg).toNatClampNeg = K
    have v : ∀ (z : Sg) (V C : Int32) (i j : Nat), i ≠ q + 17 → i ≠ q + 18 → (i ≠ q + 15 ∨ (j ≠ 12 ∧ j ≠ 11)) → (up (up (up (up z (q + 17) K A) (q + 18) K W) (q + 15) 12 V) (q + 15) 11 C) i j = z i j := fun z V C i j e1 e2 e3 => by
      rw [up_f (by omega), up_f (by omega), up_ne e2, up_ne e1]
    have v17 : ∀ (z : Sg) (V C : Int32) (i : Nat), (up (up (up (up z (q + 17) K A) (q + 18) K W) (q + 15) 12 V) (q + 15) 11 C) (q + 17) i = if i = K then A else z (q + 17) i := fun z V C i => by simp [up_at]
    have v18 : ∀ (z : Sg) (V C : Int32) (i : Nat), (up (up (up (up z (q + 17) K A) (q + 18) K W) (q + 15) 12 V) (q + 15) 11 C) (q + 18) i = if i = K then W else z (q + 18) i := fun z V C i => by simp [up_at]
    refine ⟨hk.of (fun k j hk => v _ _ _ _ _ (by omega) (by omega) (by omega)) (fun k j hk => v _ _ _ _ _ (by omega) (by omega) (by omega)), ⟨by simp [up_at], by simp [up_at]⟩, fun j hj hjn => ?_⟩
    rw [v _ _ _ (q + 15) 5 (by omega) (by omega) (by omega)] at hjn
    rw [v _ _ _ (q + 16) j (by omega) (by omega) (by omega), v17, v17, v18, v18]
    by_cases e : (s1 (q + 16) j).toNatClampNeg = K
    · rw [if_pos e, if_pos e, if_pos e, if_pos e]; exact ⟨rfl, rfl⟩
    · rw [if_neg e, if_neg e, if_neg e, if_neg e]
      refine hall j ?_ hjn
      by_cases e2 : (j : Int) < x.toInt
      · exact e2
      · exact absurd (by rw [show j = x.toNatClampNeg by rw [tn]; omega]; exact hK) e
