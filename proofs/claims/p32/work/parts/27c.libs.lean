/-! publishing -/
theorem pub_at {s : Sg} (h : L0 s) (hc : 0 ≤ (s 23 13).toInt) (h6 : ¬ s 23 13 = 6) (hd : ¬ zb (s 38 6) = 0) (hsh : ¬ zb (s 38 7) = 0) (hf : D_X0_count 38 s ≤ 0) : T_X11_publish s 0 = true ∧ (D_X11_publish s 0).1 = s 23 13 ∧ L0 (D_X11_publish s 0).2 ∧ (D_X11_publish s 0).2 23 13 = s 23 13 + 1 ∧ (s 23 13).toInt < 6 ∧ (D_X11_publish s 0).2 24 (s 23 13).toNatClampNeg = D_X3_size 38 s ∧ (∀ k j, k < 23 ∨ 29 ≤ k → (D_X11_publish s 0).2 k j = s k j) := by
  obtain ⟨c6, c14, c15, c25, c29, c30, c31⟩ := h
  have c5 : (s 23 13).toInt < 6 := by
    have : (s 23 13).toInt ≠ 6 := fun q => h6 (Int32.toInt_inj.mp (q.trans (by decide)))
    omega
  have e1 : (s 23 13 + 1).toInt = (s 23 13).toInt + 1 := i_add1 (by omega)
  have hfull : D_X4_isFull s = 0 := by
    unfold D_X4_isFull
    rw [if_pos (Int32.lt_iff_toInt_lt.mpr (by rw [show (6 : Int32).toInt = 6 from rfl]; exact c5))]
  have hT : T_X11_publish s 0 = true := by
    unfold T_X11_publish
    rw [if_neg (by decide), if_neg (by decide), if_pos hb_0, if_pos hfull, if_neg (show ¬ D_X5_isDone 38 s = 0 from hd), if_neg (show ¬ D_X5_isShared 38 s = 0 from hsh), if_pos hf]
  have hD : D_X11_publish s 0 = ((D_X4_add s 0).1, (D_X4_add s 0).2) := by
    unfold D_X11_publish
    rw [if_neg (by decide), if_neg (by decide), if_pos hb_0, if_pos hfull, if_neg (show ¬ D_X5_isDone 38 s = 0 from hd), if_neg (show ¬ D_X5_isShared 38 s = 0 from hsh), if_pos hf]
  have main : (D_X4_add s 0).1 = s 23 13 ∧ ∀ k j, k ≠ 26 → k ≠ 28 → (D_X4_add s 0).2 k j = (up (up (up (up (up s 23 13 ((s 23 13) + 1)) 24 (s 23 13).toNatClampNeg (D_X3_size 38 (up s 23 13 ((s 23 13) + 1)))) 25 (s 23 13).toNatClampNeg 0) 27 (s 23 13).toNatClampNeg (D_X7_imports 38 (up (up (up s 23 13 ((s 23 13) + 1)) 24 (s 23 13).toNatClampNeg (D_X3_size 38 (up s 23 13 ((s 23 13) + 1)))) 25 (s 23 13).toNatClampNeg 0))) 26 (s 23 13).toNatClampNeg 0) k j := by
    unfold D_X4_add R_X4_add_136
    rw [if_pos hfull]
    refine ⟨rfl, fun k j h26 h28 => ?_⟩
    refine itr_inv (B := uc2 (B_X4_add_67 (s 23 13))) (I := fun z => z.2 k j = (up (up (up (up (up s 23 13 ((s 23 13) + 1)) 24 (s 23 13).toNatClampNeg (D_X3_size 38 (up s 23 13 ((s 23 13) + 1)))) 25 (s 23 13).toNatClampNeg 0) 27 (s 23 13).toNatClampNeg (D_X7_imports 38 (up (up (up s 23 13 ((s 23 13) + 1)) 24 (s 23 13).toNatClampNeg (D_X3_size 38 (up s 23 13 ((s 23 13) + 1)))) 25 (s 23 13).toNatClampNeg 0))) 26 (s 23 13).toNatClampNeg 0) k j) (fun z hz => ?_) BIG _ rfl
    obtain ⟨x, z⟩ := z
    generalize (up (up (up (up (up s 23 13 ((s 23 13) + 1)) 24 (s 23 13).toNatClampNeg (D_X3_size 38 (up s 23 13 ((s 23 13) + 1)))) 25 (s 23 13).toNatClampNeg 0) 27 (s 23 13).toNatClampNeg (D_X7_imports 38 (up (up (up s 23 13 ((s 23 13) + 1)) 24 (s 23 13).toNatClampNeg (D_X3_size 38 (up s 23 13 ((s 23 13) + 1)))) 25 (s 23 13).toNatClampNeg 0))) 26 (s 23 13).toNatClampNeg 0) k j = v at *
    have hz : z k j = v := hz
    show (B_X4_add_67 (s 23 13) x z).2.2 k j = v
    unfold B_X4_add_67
    by_cases c0 : 20 ≤ x
    · rw [if_pos c0]; exact hz
    · rw [if_neg c0]
      by_cases c1 : D_X3_addressOfName 38 z x = -1
      · rw [if_pos c1]; exact hz
      · rw [if_neg c1]
        by_cases c2 : D_X9_isHidden 38 z x = 0
        · rw [if_pos c2]
          show (up (up z 26 _ _) 28 _ _) k j = v
          rw [up_ne h28, up_ne h26]; exact hz
        · rw [if_neg c2]; exact hz
  rw [hD]
  obtain ⟨m1, m2⟩ := main
  show T_X11_publish s 0 = true ∧ (D_X4_add s 0).1 = s 23 13 ∧ L0 (D_X4_add s 0).2 ∧ (D_X4_add s 0).2 23 13 = s 23 13 + 1 ∧ (s 23 13).toInt < 6 ∧ (D_X4_add s 0).2 24 (s 23 13).toNatClampNeg = D_X3_size 38 s ∧ (∀ k j, k < 23 ∨ 29 ≤ k → (D_X4_add s 0).2 k j = s k j)
  have e13 : (D_X4_add s 0).2 23 13 = s 23 13 + 1 := by
    rw [m2 _ _ (by decide) (by decide), up_ne (by decide), up_ne (by decide), up_ne (by decide), up_ne (by decide), rd_eq]
  have es : D_X3_size 38 (up s 23 13 ((s 23 13) + 1)) = D_X3_size 38 s := by unfold D_X3_size; rw [up_ne (by decide)]
  refine ⟨hT, m1, ⟨by rw [e13, e1]; omega, ?_, ?_, fun j => ?_, fun j => ?_, fun j => ?_, fun j => ?_⟩, e13, c5, ?_, fun k j hk => ?_⟩
  · rw [m2 _ _ (by decide) (by decide), up_ne (by decide), up_ne (by decide), up_ne (by decide), up_ne (by decide), up_f (by decide)]; exact c14
  · rw [m2 _ _ (by decide) (by decide), up_ne (by decide), up_ne (by decide), up_ne (by decide), up_ne (by decide), up_f (by decide)]; exact c15
  · rw [m2 _ _ (by decide) (by decide), up_ne (by decide), up_ne (by decide), up_at]
    by_cases c : j = (s 23 13).toNatClampNeg
    · rw [if_pos ⟨rfl, c⟩]
    · rw [if_neg (fun e => c e.2), up_ne (by decide), up_ne (by decide)]; exact c25 j
  · rw [m2 _ _ (by decide) (by decide), up_ne (by decide), up_ne (by decide), up_ne (by decide), up_ne (by decide), up_ne (by decide)]; exact c29 j
  · rw [m2 _ _ (by decide) (by decide), up_ne (by decide), up_ne (by decide), up_ne (by decide), up_ne (by decide), up_ne (by decide)]; exact c30 j
  · rw [m2 _ _ (by decide) (by decide), up_ne (by decide), up_ne (by decide), up_ne (by decide), up_ne (by decide), up_ne (by decide)]; exact c31 j
  · rw [m2 _ _ (by decide) (by decide), up_ne (by decide), up_ne (by decide), up_ne (by decide), rd_eq, es]
  · rw [m2 _ _ (by omega) (by omega), up_ne (by omega), up_ne (by omega), up_ne (by omega), up_ne (by omega), up_ne (by omega)]
