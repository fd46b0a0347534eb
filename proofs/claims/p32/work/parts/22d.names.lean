/-! the places of names -/
def Pc (q : Nat) (s t : Sg) : Prop :=
  (Pl q s t) ∧
  (Cov q s) ∧
  (∀ j : Nat, j < 20 → t (q + 21) j = s (q + 21) j)
theorem Pc.pl {q : Nat} {s t : Sg} (h : Pc q s t) : Pl q s t := h.1
theorem Pc.cv {q : Nat} {s t : Sg} (h : Pc q s t) : Cov q s := h.2.1
theorem Pc.nm {q : Nat} {s t : Sg} (h : Pc q s t) : ∀ j : Nat, j < 20 → t (q + 21) j = s (q + 21) j := h.2.2
theorem Cov.of {q : Nat} {s s' : Sg} (hs : ∀ k j, k = q + 12 ∨ (k = q + 15 ∧ j = 5) ∨ k = q + 16 → s' k j = s k j) (h : Cov q s) : Cov q s' := by
  intro k hk hb
  rw [hs (q + 12) 5 (by omega)] at hb
  obtain ⟨j, h1, h2⟩ := h k hk hb
  exact ⟨j, by rw [hs (q + 15) 5 (by omega)]; exact h1, by rw [hs (q + 16) j (by omega)]; exact h2⟩
theorem hc_z {q : Nat} {s : Sg} {a : Int32} (h : ¬ D_X7_hasCommon q s a = 0) : rg a 20 ∧ bt_ (s (q + 12) 6) a.toNatClampNeg = true := by
  unfold D_X7_hasCommon at h
  by_cases c : D_X11_isName a = 0
  · rw [if_pos c] at h; exact absurd rfl h
  · have hr := rg_isName c
    rw [if_neg c] at h
    by_cases d : D_X11_hasBit (s (q + 12) 6) a = 0
    · rw [if_pos d] at h; exact absurd rfl h
    · exact ⟨hr, (hb_n ⟨hr.1, by have := hr.2; omega⟩).mp d⟩
theorem size_up {q : Nat} {z : Sg} {k j : Nat} {v x : Int32} (h : k ≠ q + 10) : D_X9_size q (up z k j v) x = D_X9_size q z x := by
  unfold D_X9_size; rw [rd_nk (Ne.symm h)]
theorem pc_commons {q : Nat} (hq : q = 38 ∨ q = 60) {s t : Sg} (h : Pl q s t) (hcv : Cov q s) : Pc q (D_X3_placeCommons q s) (D_X3_placeCommons q t) := by
  unfold D_X3_placeCommons R_X3_placeCommons_92
  refine lpB (I := fun x s1 t1 => Pl q s1 t1 ∧ Cov q s1 ∧ ∀ j : Nat, (j : Int) < x.toInt → t1 (q + 21) j = s1 (q + 21) j) (J := fun s1 t1 => Pc q s1 t1) 20 (by decide) (fun x s1 t1 hx0 hI => ?_) (by decide) (by decide) ⟨h, hcv, fun j hj => by have : (0 : Int32).toInt = 0 := rfl; omega⟩
  obtain ⟨hk, hcv1, hall⟩ := hI
  by_cases c0 : 20 ≤ x
  · have hx := i_le (n := 20) c0 rfl
    exact Or.inl ⟨x, x, s1, t1, if_pos c0, if_pos c0, hk, hcv1, fun j hj => hall j (by omega)⟩
  · have hx := i_lt (n := 20) c0 rfl
    have hx1 : (x + 1).toInt = x.toInt + 1 := i_add1 (by omega)
    have hrt := hk.od.rt
    have ehc : D_X7_hasCommon q t1 x = D_X7_hasCommon q s1 x := by unfold D_X7_hasCommon; rw [hrt.b6]
    refine Or.inr (Or.inl ⟨hx, ?_⟩)
    by_cases c1 : D_X7_hasCommon q s1 x = 0
    · refine ⟨_, _, (if_neg c0).trans (if_pos c1), (if_neg c0).trans (if_pos (by rw [ehc]; exact c1)), ?_, ?_, ?_⟩
      · have f : ∀ (z : Sg) (i j : Nat), i ≠ q + 21 → (up z (q + 21) x.toNatClampNeg (-1)) i j = z i j := fun z i j e => by rw [up_ne e]
        refine ⟨hk.od.of (fun i j hi => f _ _ _ (by omega)) (fun i j hi => f _ _ _ (by omega)), ?_, ?_, ?_, ?_⟩
        · rw [f _ _ _ (by omega), f _ _ _ (by omega)]; exact hk.e11
        · rw [f _ _ _ (by omega), f _ _ _ (by omega)]; exact hk.e12
        · rw [f _ _ 5 (by omega)]; intro j hj; rw [f _ (q + 16) _ (by omega), f _ _ _ (by omega), f _ _ _ (by omega)]; exact hk.a17 j hj
        · rw [f _ _ 5 (by omega)]; intro j hj; rw [f _ (q + 16) _ (by omega), f _ _ _ (by omega), f _ _ _ (by omega)]; exact hk.a18 j hj
      · exact hcv1.of (fun k j hk => by rw [up_ne (by omega)])
      · intro j hj
        rw [up_at, up_at]
        by_cases c : j = x.toNatClampNeg
        · rw [if_pos ⟨rfl, c⟩, if_pos ⟨rfl, c⟩]
        · rw [if_neg (fun z => c z.2), if_neg (fun z => c z.2)]
          exact hall j (by rw [tn] at c; omega)
    · obtain ⟨hr, hb⟩ := hc_z c1
      have hxN := (rg_nat hr).1
      have k1 := hrt.bc _ hxN hb
      have kn : ¬ s1 (q + 6) x.toNatClampNeg = -1 := by rw [k1]; decide
      have ea : D_X9_align q t1 x = D_X9_align q s1 x := by unfold D_X9_align; rw [hrt.st.k11 _ hxN kn]
      have es : D_X9_size q t1 x = D_X9_size q s1 x := by unfold D_X9_size; rw [hrt.st.k10 _ hxN kn]
      have hB := fun (z : Sg) (a1 : ¬ D_X7_hasCommon q z x = 0) => (show B_X3_placeCommons_2 q x z = _ from (if_neg c0).trans (if_neg a1))
      refine ⟨_, _, hB s1 c1, hB t1 (by rw [ehc]; exact c1), ?_⟩
      rw [size_up (show q + 21 ≠ q + 10 by omega), size_up (show q + 15 ≠ q + 10 by omega), size_up (show q + 21 ≠ q + 10 by omega), size_up (show q + 21 ≠ q + 10 by omega), size_up (show q + 15 ≠ q + 10 by omega), size_up (show q + 21 ≠ q + 10 by omega)]
      rw [ea, es, hk.e11, hk.e12]
      generalize D_X11_roundUp (s1 (q + 15) 11) (D_X9_align q s1 x) = A
      generalize D_X9_size q s1 x = W
      have f : ∀ (z : Sg) (V C : Int32) (i j : Nat), i ≠ q + 21 → (i ≠ q + 15 ∨ (j ≠ 12 ∧ j ≠ 11)) → (up (up (up z (q + 21) x.toNatClampNeg A) (q + 15) 12 V) (q + 15) 11 C) i j = z i j := fun z V C i j e1 e2 => by
        rw [up_f (by omega), up_f (by omega), up_ne e1]
      refine ⟨⟨hk.od.of (fun i j hi => f _ _ _ _ _ (by omega) (by omega)) (fun i j hi => f _ _ _ _ _ (by omega) (by omega)), by simp [up_at], by simp [up_at], ?_, ?_⟩, hcv1.of (fun k j hk => f _ _ _ _ _ (by omega) (by omega)), ?_⟩
      · rw [f _ _ _ _ 5 (by omega) (by omega)]; intro j hj; rw [f _ _ _ (q + 16) _ (by omega) (by omega), f _ _ _ _ _ (by omega) (by omega), f _ _ _ _ _ (by omega) (by omega)]; exact hk.a17 j hj
      · rw [f _ _ _ _ 5 (by omega) (by omega)]; intro j hj; rw [f _ _ _ (q + 16) _ (by omega) (by omega), f _ _ _ _ _ (by omega) (by omega), f _ _ _ _ _ (by omega) (by omega)]; exact hk.a18 j hj
      · intro j hj
        have v : ∀ (z : Sg) (V C : Int32), (up (up (up z (q + 21) x.toNatClampNeg A) (q + 15) 12 V) (q + 15) 11 C) (q + 21) j = if j = x.toNatClampNeg then A else z (q + 21) j := fun z V C => by simp [up_at]
        rw [v, v]
        by_cases c : j = x.toNatClampNeg
        · rw [if_pos c, if_pos c]
        · rw [if_neg c, if_neg c]
          exact hall j (by rw [tn] at c; omega)
