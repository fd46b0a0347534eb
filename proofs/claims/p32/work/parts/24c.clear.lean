theorem clr {wl : Nat} {s : Sg} {a : Int32} (hc : a ≤ (Int32.ofNat wl)) (h0 : 0 ≤ a.toInt) (h1 : a.toInt < 2147483647) : (∀ j : Nat, (j : Int) < a.toInt → (D_X1_clearUpTo wl s a) 37 j = 0) ∧ ∀ k j, k ≠ 37 → (D_X1_clearUpTo wl s a) k j = s k j := by
  refine ⟨?_, fun k j hk => fw_X1_clearUpTo hk⟩
  unfold D_X1_clearUpTo R_X1_clearUpTo_47
  rw [if_pos hc]
  refine lq (σ := Sg) (B := B_X1_clearUpTo_29 wl a) (x := 0) (s := s) (I := fun x z => ∀ j : Nat, (j : Int) < x.toInt → z 37 j = 0) (J := fun z => ∀ j : Nat, (j : Int) < a.toInt → z 37 j = 0) a.toInt h1 (fun x z hx0 hI => ?_) (by decide) h0 (fun j hj => by have : (0 : Int32).toInt = 0 := rfl; omega)
  by_cases c0 : a ≤ x
  · have hx := Int32.le_iff_toInt_le.mp c0
    exact Or.inl ⟨x, z, if_pos c0, fun j hj => hI j (by omega)⟩
  · have hx := i_nle c0
    have hx1 : (x + 1).toInt = x.toInt + 1 := i_add1 (by omega)
    refine Or.inr ⟨hx, _, if_neg c0, fun j hj => ?_⟩
    rw [up_at]
    by_cases c : j = x.toNatClampNeg
    · rw [if_pos ⟨rfl, c⟩]
    · rw [if_neg (fun q => c q.2)]
      exact hI j (by rw [tn] at c; omega)
