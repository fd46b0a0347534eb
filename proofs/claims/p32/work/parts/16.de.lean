section DD
variable {sc : Nat × (Nat → Int32)} {b w wl : Nat} {H0 : List EC} {kn : Nat × Nat}
-- LinkHarbour$LibraryTable.lowestOf
def fr_X4_lowestOf_2 (b w : Nat) (a0 : Int32) (x : Int32) : EF := (2, [(0, .int a0), (1, .int x)], [])
def fe_X4_lowestOf_2 (b w : Nat) (a0 : Int32) (x : Int32) : EF := (24, [], [])
noncomputable def B_X4_lowestOf_2 (s : Sg) (a0 : Int32) (x : Int32) : Option (Option Int32) × (Int32) := (if 6 ≤ x then ((some none), x) else (if (D_X11_hasBit a0 x) = 0 then (none, (x + 1)) else (some (some x), x)))
theorem b_X4_lowestOf_2 (hP : WOK b w H0) {s : Sg} {a0 : Int32} (x : Int32) (o : Option Value) (h' : EH) (hN : NN s) (hv : 0 ≤ (x).toInt) (hc : (B_X4_lowestOf_2 s a0 x).1 = none → (x).toInt < 2147483647 → (B_X4_lowestOf_2 s a0 x).2 = x + 1 → Rx sc g_X4_lowestOf 1 (fr_X4_lowestOf_2 b w a0 (B_X4_lowestOf_2 s a0 x).2) (wd b w wl H0 s, kn) o h') (he : (B_X4_lowestOf_2 s a0 x).1 = some none → Rx sc g_X4_lowestOf 1 (fe_X4_lowestOf_2 b w a0 (B_X4_lowestOf_2 s a0 x).2) (wd b w wl H0 s, kn) o h') (hr : ∀ v, (B_X4_lowestOf_2 s a0 x).1 = some (some v) → o = some (.int v) ∧ h' = (wd b w wl H0 s, kn)) : Rx sc g_X4_lowestOf 1 (fr_X4_lowestOf_2 b w a0 x) (wd b w wl H0 s, kn) o h' := by
  show Rx sc g_X4_lowestOf 1 (2, [(0, .int a0), (1, .int x)], []) (wd b w wl H0 s, kn) o h'
  refine rx_k 2 (5, [(0, .int a0), (1, .int x)], [.int 6, .int x]) (fun _ _ => rfl) ?_
  by_cases c0 : 6 ≤ x
  · refine rx_icT rfl (bt c0) ?_
    rw [(show (B_X4_lowestOf_2 s a0 x) = ((some none), x) from ((if_pos c0).trans rfl))] at he
    dsimp only at he
    exact rx_lo am_X4_lowestOf (lo := []) (fun _ h => absurd h List.not_mem_nil) rfl (he rfl)
  · refine rx_icF rfl (bf c0) rfl ?_
    refine rx_k 2 (10, [(0, .int a0), (1, .int x)], [.int x, .int a0]) (fun _ _ => rfl) ?_
    refine rx_inv rfl rfl (rc_X11_hasBit) rfl rfl rfl rfl rfl rfl ?_
    by_cases c1 : (D_X11_hasBit a0 x) = 0
    · refine rx_ifT rfl (bt c1) ?_
      refine rx_k 2 (2, [(1, .int (x + 1)), (0, .int a0)], []) (fun _ _ => rfl) ?_
      rw [(show (B_X4_lowestOf_2 s a0 x) = (none, (x + 1)) from ((if_neg c0).trans ((if_pos c1).trans rfl)))] at hc
      dsimp only at hc
      refine rx_lo am_X4_lowestOf (lo := [(0, .int a0), (1, .int (x + 1))]) (List.forall_mem_cons.mpr ⟨List.mem_of_getElem? (i := 1) rfl, (List.forall_mem_cons.mpr ⟨List.mem_of_getElem? (i := 0) rfl, (fun _ h => absurd h List.not_mem_nil)⟩)⟩) rfl (hc rfl (lt_nle c0) rfl)
    · refine rx_ifF rfl (bf c1) rfl ?_
      refine rx_k 1 (17, [(0, .int a0), (1, .int x)], [.int x]) (fun _ _ => rfl) ?_
      obtain ⟨hr1, hr2⟩ := hr x (by rw [(show (B_X4_lowestOf_2 s a0 x) = (some (some x), x) from ((if_neg c0).trans ((if_neg c1).trans rfl)))])
      rw [hr1, hr2]
      exact rx_ri rfl
noncomputable def R_X4_lowestOf_24 (s : Sg) : Int32 := (-1)
theorem r_X4_lowestOf_24 (hP : WOK b w H0) {s : Sg} (hN : NN s) : Rx sc g_X4_lowestOf 1 ((24, [], [])) (wd b w wl H0 s, kn) (some (.int (R_X4_lowestOf_24 s))) (wd b w wl H0 s, kn) := by
  show Rx sc g_X4_lowestOf 1 (24, [], []) (wd b w wl H0 s, kn) (some (.int (R_X4_lowestOf_24 s))) (wd b w wl H0 s, kn)
  refine rx_k 1 (25, [], [.int (-1)]) (fun _ _ => rfl) ?_
  rw [(show (R_X4_lowestOf_24 s) = (-1) from rfl)]
  try dsimp only
  exact rx_ri rfl
noncomputable def D_X4_lowestOf (s : Sg) (a0 : Int32) : Int32 := (match (itf (B_X4_lowestOf_2 s a0) BIG 0) with | some v => v | none => (R_X4_lowestOf_24 s))
theorem m_X4_lowestOf (hP : WOK b w H0) {s : Sg} {a0 : Int32} (hN : NN s) : Rx sc g_X4_lowestOf 1 ((0, [(0, .int a0)], [])) (wd b w wl H0 s, kn) (some (.int (D_X4_lowestOf s a0))) (wd b w wl H0 s, kn) := by
  show Rx sc g_X4_lowestOf 1 (0, [(0, .int a0)], []) (wd b w wl H0 s, kn) (some (.int (D_X4_lowestOf s a0))) (wd b w wl H0 s, kn)
  refine rx_k 2 (2, [(1, .int 0), (0, .int a0)], []) (fun _ _ => rfl) ?_
  refine rx_lo am_X4_lowestOf (lo := [(0, .int a0), (1, .int 0)]) (List.forall_mem_cons.mpr ⟨List.mem_of_getElem? (i := 1) rfl, (List.forall_mem_cons.mpr ⟨List.mem_of_getElem? (i := 0) rfl, (fun _ h => absurd h List.not_mem_nil)⟩)⟩) rfl ?_
  have e9 := (show (D_X4_lowestOf s a0) = (match (itf (B_X4_lowestOf_2 s a0) BIG 0) with | some v => v | none => (R_X4_lowestOf_24 s)) from rfl)
  refine rx_loopF (B := B_X4_lowestOf_2 s a0) (fr := (fr_X4_lowestOf_2 b w a0)) (E := (fe_X4_lowestOf_2 b w a0)) (hp := (wd b w wl H0 s, kn)) (vr := fun z => z) (fun z hv1 hc1 he1 hr1 => b_X4_lowestOf_2 hP z _ _ hN hv1 hc1 he1 hr1) BIG 0 (by decide : (0 : Int) ≤ (0 : Int32).toInt) (le_enough (by decide : (0 : Int) ≤ (0 : Int32).toInt)) (fun e1 y => ?_) (fun v e1 => ?_)
  · rw [e9, e1]
    exact r_X4_lowestOf_24 hP hN
  · exact ⟨by rw [e9, e1], rfl⟩
theorem rc_X4_lowestOf (hP : WOK b w H0) {s : Sg} {a0 : Int32} (hN : NN s) : Rc sc 2 70 [.int a0] (wd b w wl H0 s, kn) (some (.int (D_X4_lowestOf s a0))) (wd b w wl H0 s, kn) := rx_mc (m_X4_lowestOf hP hN) rfl rfl (Nat.ble_eq_true_of_le (Nat.le_refl _)) (Nat.ble_eq_true_of_le (Nat.le_refl _))
-- LinkHarbour$LibraryTable.initialise
def fr_X4_initialise_17 (b w : Nat) (a2 : Int32) (x : Int32 × Int32 × Int32 × Sg) : EF := (17, [(0, .ref (b + 23)), (2, .int a2), (3, .int x.2.1), (4, .int x.2.2.1), (5, .int x.1)], [])
def fe_X4_initialise_17 (b w : Nat) (a2 : Int32) (x : Int32 × Int32 × Int32 × Sg) : EF := (143, [], [])
noncomputable def B_X4_initialise_17 (a2 : Int32) (x : Int32 × Int32 × Int32 × Sg) : Bool × (Int32 × Int32 × Int32 × Sg) := (if 12 ≤ x.1 then (false, (x.1, x.2.1, x.2.2.1, x.2.2.2)) else (if x.2.1 ≤ 0 then (false, (x.1, x.2.1, x.2.2.1, x.2.2.2)) else (if 6 < x.2.1 then (false, (x.1, x.2.1, x.2.2.1, x.2.2.2)) else (if (D_X4_lowestOf x.2.2.2 ((D_X4_neededNow x.2.2.2 (x.2.2.2 35 (x.2.1 - 1).toNatClampNeg)) &&& (x.2.2.1 ^^^ (-1)))) = (-1) then (if (D_X11_hasBit a2 (x.2.2.2 35 (x.2.1 - 1).toNatClampNeg)) = 0 then (true, ((x.1 + 1), (x.2.1 + (-1)), x.2.2.1, x.2.2.2)) else (if 6 ≤ (x.2.2.2 23 15) then (true, ((x.1 + 1), (x.2.1 + (-1)), x.2.2.1, x.2.2.2)) else (true, ((x.1 + 1), (x.2.1 + (-1)), x.2.2.1, (up (up x.2.2.2 33 (x.2.2.2 23 15).toNatClampNeg (x.2.2.2 35 (x.2.1 - 1).toNatClampNeg)) 23 15 ((x.2.2.2 23 15) + 1)))))) else (if 6 ≤ x.2.1 then (if (D_X11_hasBit a2 (x.2.2.2 35 (x.2.1 - 1).toNatClampNeg)) = 0 then (true, ((x.1 + 1), (x.2.1 + (-1)), x.2.2.1, x.2.2.2)) else (if 6 ≤ (x.2.2.2 23 15) then (true, ((x.1 + 1), (x.2.1 + (-1)), x.2.2.1, x.2.2.2)) else (true, ((x.1 + 1), (x.2.1 + (-1)), x.2.2.1, (up (up x.2.2.2 33 (x.2.2.2 23 15).toNatClampNeg (x.2.2.2 35 (x.2.1 - 1).toNatClampNeg)) 23 15 ((x.2.2.2 23 15) + 1)))))) else (true, ((x.1 + 1), (x.2.1 + 1), (x.2.2.1 ||| (1 <<< ((D_X4_lowestOf x.2.2.2 ((D_X4_neededNow x.2.2.2 (x.2.2.2 35 (x.2.1 - 1).toNatClampNeg)) &&& (x.2.2.1 ^^^ (-1)))) &&& 31))), (up x.2.2.2 35 x.2.1.toNatClampNeg (D_X4_lowestOf x.2.2.2 ((D_X4_neededNow x.2.2.2 (x.2.2.2 35 (x.2.1 - 1).toNatClampNeg)) &&& (x.2.2.1 ^^^ (-1))))))))))))
theorem tt0 {a2 : Int32} (x : Int32 × Int32 × Int32 × Sg) (c0 : (12 ≤ x.1)) : (B_X4_initialise_17 a2 x) = (false, (x.1, x.2.1, x.2.2.1, x.2.2.2)) := ((if_pos c0).trans rfl)
theorem tn0 {a2 : Int32} (x : Int32 × Int32 × Int32 × Sg) (hN : NN x.2.2.2) (c0 : (12 ≤ x.1)) : NN ((false, (x.1, x.2.1, x.2.2.1, x.2.2.2)).2.2.2.2) := by
  dsimp only
  exact hN
theorem tt1 {a2 : Int32} (x : Int32 × Int32 × Int32 × Sg) (c0 : ¬ (12 ≤ x.1)) (c1 : (x.2.1 ≤ 0)) : (B_X4_initialise_17 a2 x) = (false, (x.1, x.2.1, x.2.2.1, x.2.2.2)) := ((if_neg c0).trans ((if_pos c1).trans rfl))
theorem tn1 {a2 : Int32} (x : Int32 × Int32 × Int32 × Sg) (hN : NN x.2.2.2) (c0 : ¬ (12 ≤ x.1)) (c1 : (x.2.1 ≤ 0)) : NN ((false, (x.1, x.2.1, x.2.2.1, x.2.2.2)).2.2.2.2) := by
  dsimp only
  exact hN
theorem tt2 {a2 : Int32} (x : Int32 × Int32 × Int32 × Sg) (c0 : ¬ (12 ≤ x.1)) (c1 : ¬ (x.2.1 ≤ 0)) (c2 : (6 < x.2.1)) : (B_X4_initialise_17 a2 x) = (false, (x.1, x.2.1, x.2.2.1, x.2.2.2)) := ((if_neg c0).trans ((if_neg c1).trans ((if_pos c2).trans rfl)))
theorem tn2 {a2 : Int32} (x : Int32 × Int32 × Int32 × Sg) (hN : NN x.2.2.2) (c0 : ¬ (12 ≤ x.1)) (c1 : ¬ (x.2.1 ≤ 0)) (c2 : (6 < x.2.1)) : NN ((false, (x.1, x.2.1, x.2.2.1, x.2.2.2)).2.2.2.2) := by
  dsimp only
  exact hN
theorem tt3 {a2 : Int32} (x : Int32 × Int32 × Int32 × Sg) (c0 : ¬ (12 ≤ x.1)) (c1 : ¬ (x.2.1 ≤ 0)) (c2 : ¬ (6 < x.2.1)) (c3 : ((D_X4_lowestOf x.2.2.2 ((D_X4_neededNow x.2.2.2 (x.2.2.2 35 (x.2.1 - 1).toNatClampNeg)) &&& (x.2.2.1 ^^^ (-1)))) = (-1))) (c4 : ((D_X11_hasBit a2 (x.2.2.2 35 (x.2.1 - 1).toNatClampNeg)) = 0)) : (B_X4_initialise_17 a2 x) = (true, ((x.1 + 1), (x.2.1 + (-1)), x.2.2.1, x.2.2.2)) := ((if_neg c0).trans ((if_neg c1).trans ((if_neg c2).trans ((if_pos c3).trans ((if_pos c4).trans rfl)))))
theorem tn3 {a2 : Int32} (x : Int32 × Int32 × Int32 × Sg) (hN : NN x.2.2.2) (c0 : ¬ (12 ≤ x.1)) (c1 : ¬ (x.2.1 ≤ 0)) (c2 : ¬ (6 < x.2.1)) (c3 : ((D_X4_lowestOf x.2.2.2 ((D_X4_neededNow x.2.2.2 (x.2.2.2 35 (x.2.1 - 1).toNatClampNeg)) &&& (x.2.2.1 ^^^ (-1)))) = (-1))) (c4 : ((D_X11_hasBit a2 (x.2.2.2 35 (x.2.1 - 1).toNatClampNeg)) = 0)) : NN ((true, ((x.1 + 1), (x.2.1 + (-1)), x.2.2.1, x.2.2.2)).2.2.2.2) := by
  dsimp only
  exact hN
theorem tt4 {a2 : Int32} (x : Int32 × Int32 × Int32 × Sg) (c0 : ¬ (12 ≤ x.1)) (c1 : ¬ (x.2.1 ≤ 0)) (c2 : ¬ (6 < x.2.1)) (c3 : ((D_X4_lowestOf x.2.2.2 ((D_X4_neededNow x.2.2.2 (x.2.2.2 35 (x.2.1 - 1).toNatClampNeg)) &&& (x.2.2.1 ^^^ (-1)))) = (-1))) (c4 : ¬ ((D_X11_hasBit a2 (x.2.2.2 35 (x.2.1 - 1).toNatClampNeg)) = 0)) (c5 : (6 ≤ (x.2.2.2 23 15))) : (B_X4_initialise_17 a2 x) = (true, ((x.1 + 1), (x.2.1 + (-1)), x.2.2.1, x.2.2.2)) := ((if_neg c0).trans ((if_neg c1).trans ((if_neg c2).trans ((if_pos c3).trans ((if_neg c4).trans ((if_pos c5).trans rfl))))))
theorem tn4 {a2 : Int32} (x : Int32 × Int32 × Int32 × Sg) (hN : NN x.2.2.2) (c0 : ¬ (12 ≤ x.1)) (c1 : ¬ (x.2.1 ≤ 0)) (c2 : ¬ (6 < x.2.1)) (c3 : ((D_X4_lowestOf x.2.2.2 ((D_X4_neededNow x.2.2.2 (x.2.2.2 35 (x.2.1 - 1).toNatClampNeg)) &&& (x.2.2.1 ^^^ (-1)))) = (-1))) (c4 : ¬ ((D_X11_hasBit a2 (x.2.2.2 35 (x.2.1 - 1).toNatClampNeg)) = 0)) (c5 : (6 ≤ (x.2.2.2 23 15))) : NN ((true, ((x.1 + 1), (x.2.1 + (-1)), x.2.2.1, x.2.2.2)).2.2.2.2) := by
  dsimp only
  exact hN
theorem tt5 {a2 : Int32} (x : Int32 × Int32 × Int32 × Sg) (c0 : ¬ (12 ≤ x.1)) (c1 : ¬ (x.2.1 ≤ 0)) (c2 : ¬ (6 < x.2.1)) (c3 : ((D_X4_lowestOf x.2.2.2 ((D_X4_neededNow x.2.2.2 (x.2.2.2 35 (x.2.1 - 1).toNatClampNeg)) &&& (x.2.2.1 ^^^ (-1)))) = (-1))) (c4 : ¬ ((D_X11_hasBit a2 (x.2.2.2 35 (x.2.1 - 1).toNatClampNeg)) = 0)) (c5 : ¬ (6 ≤ (x.2.2.2 23 15))) : (B_X4_initialise_17 a2 x) = (true, ((x.1 + 1), (x.2.1 + (-1)), x.2.2.1, (up (up x.2.2.2 33 (x.2.2.2 23 15).toNatClampNeg (x.2.2.2 35 (x.2.1 - 1).toNatClampNeg)) 23 15 ((x.2.2.2 23 15) + 1)))) := ((if_neg c0).trans ((if_neg c1).trans ((if_neg c2).trans ((if_pos c3).trans ((if_neg c4).trans ((if_neg c5).trans rfl))))))
theorem tn5 {a2 : Int32} (x : Int32 × Int32 × Int32 × Sg) (hN : NN x.2.2.2) (c0 : ¬ (12 ≤ x.1)) (c1 : ¬ (x.2.1 ≤ 0)) (c2 : ¬ (6 < x.2.1)) (c3 : ((D_X4_lowestOf x.2.2.2 ((D_X4_neededNow x.2.2.2 (x.2.2.2 35 (x.2.1 - 1).toNatClampNeg)) &&& (x.2.2.1 ^^^ (-1)))) = (-1))) (c4 : ¬ ((D_X11_hasBit a2 (x.2.2.2 35 (x.2.1 - 1).toNatClampNeg)) = 0)) (c5 : ¬ (6 ≤ (x.2.2.2 23 15))) : NN ((true, ((x.1 + 1), (x.2.1 + (-1)), x.2.2.1, (up (up x.2.2.2 33 (x.2.2.2 23 15).toNatClampNeg (x.2.2.2 35 (x.2.1 - 1).toNatClampNeg)) 23 15 ((x.2.2.2 23 15) + 1)))).2.2.2.2) := by
  dsimp only
  exact (nn_c (nn_inc (rg_c (hN 23 15 rfl) c5 (m := 6) (n := 6) rfl).1 (lt_nle c5) (by decide)) (nn_0 rfl hN))
theorem tt6 {a2 : Int32} (x : Int32 × Int32 × Int32 × Sg) (c0 : ¬ (12 ≤ x.1)) (c1 : ¬ (x.2.1 ≤ 0)) (c2 : ¬ (6 < x.2.1)) (c3 : ¬ ((D_X4_lowestOf x.2.2.2 ((D_X4_neededNow x.2.2.2 (x.2.2.2 35 (x.2.1 - 1).toNatClampNeg)) &&& (x.2.2.1 ^^^ (-1)))) = (-1))) (c6 : (6 ≤ x.2.1)) (c7 : ((D_X11_hasBit a2 (x.2.2.2 35 (x.2.1 - 1).toNatClampNeg)) = 0)) : (B_X4_initialise_17 a2 x) = (true, ((x.1 + 1), (x.2.1 + (-1)), x.2.2.1, x.2.2.2)) := ((if_neg c0).trans ((if_neg c1).trans ((if_neg c2).trans ((if_neg c3).trans ((if_pos c6).trans ((if_pos c7).trans rfl))))))
theorem tn6 {a2 : Int32} (x : Int32 × Int32 × Int32 × Sg) (hN : NN x.2.2.2) (c0 : ¬ (12 ≤ x.1)) (c1 : ¬ (x.2.1 ≤ 0)) (c2 : ¬ (6 < x.2.1)) (c3 : ¬ ((D_X4_lowestOf x.2.2.2 ((D_X4_neededNow x.2.2.2 (x.2.2.2 35 (x.2.1 - 1).toNatClampNeg)) &&& (x.2.2.1 ^^^ (-1)))) = (-1))) (c6 : (6 ≤ x.2.1)) (c7 : ((D_X11_hasBit a2 (x.2.2.2 35 (x.2.1 - 1).toNatClampNeg)) = 0)) : NN ((true, ((x.1 + 1), (x.2.1 + (-1)), x.2.2.1, x.2.2.2)).2.2.2.2) := by
  dsimp only
  exact hN
theorem tt7 {a2 : Int32} (x : Int32 × Int32 × Int32 × Sg) (c0 : ¬ (12 ≤ x.1)) (c1 : ¬ (x.2.1 ≤ 0)) (c2 : ¬ (6 < x.2.1)) (c3 : ¬ ((D_X4_lowestOf x.2.2.2 ((D_X4_neededNow x.2.2.2 (x.2.2.2 35 (x.2.1 - 1).toNatClampNeg)) &&& (x.2.2.1 ^^^ (-1)))) = (-1))) (c6 : (6 ≤ x.2.1)) (c7 : ¬ ((D_X11_hasBit a2 (x.2.2.2 35 (x.2.1 - 1).toNatClampNeg)) = 0)) (c8 : (6 ≤ (x.2.2.2 23 15))) : (B_X4_initialise_17 a2 x) = (true, ((x.1 + 1), (x.2.1 + (-1)), x.2.2.1, x.2.2.2)) := ((if_neg c0).trans ((if_neg c1).trans ((if_neg c2).trans ((if_neg c3).trans ((if_pos c6).trans ((if_neg c7).trans ((if_pos c8).trans rfl)))))))
theorem tn7 {a2 : Int32} (x : Int32 × Int32 × Int32 × Sg) (hN : NN x.2.2.2) (c0 : ¬ (12 ≤ x.1)) (c1 : ¬ (x.2.1 ≤ 0)) (c2 : ¬ (6 < x.2.1)) (c3 : ¬ ((D_X4_lowestOf x.2.2.2 ((D_X4_neededNow x.2.2.2 (x.2.2.2 35 (x.2.1 - 1).toNatClampNeg)) &&& (x.2.2.1 ^^^ (-1)))) = (-1))) (c6 : (6 ≤ x.2.1)) (c7 : ¬ ((D_X11_hasBit a2 (x.2.2.2 35 (x.2.1 - 1).toNatClampNeg)) = 0)) (c8 : (6 ≤ (x.2.2.2 23 15))) : NN ((true, ((x.1 + 1), (x.2.1 + (-1)), x.2.2.1, x.2.2.2)).2.2.2.2) := by
  dsimp only
  exact hN
theorem tt8 {a2 : Int32} (x : Int32 × Int32 × Int32 × Sg) (c0 : ¬ (12 ≤ x.1)) (c1 : ¬ (x.2.1 ≤ 0)) (c2 : ¬ (6 < x.2.1)) (c3 : ¬ ((D_X4_lowestOf x.2.2.2 ((D_X4_neededNow x.2.2.2 (x.2.2.2 35 (x.2.1 - 1).toNatClampNeg)) &&& (x.2.2.1 ^^^ (-1)))) = (-1))) (c6 : (6 ≤ x.2.1)) (c7 : ¬ ((D_X11_hasBit a2 (x.2.2.2 35 (x.2.1 - 1).toNatClampNeg)) = 0)) (c8 : ¬ (6 ≤ (x.2.2.2 23 15))) : (B_X4_initialise_17 a2 x) = (true, ((x.1 + 1), (x.2.1 + (-1)), x.2.2.1, (up (up x.2.2.2 33 (x.2.2.2 23 15).toNatClampNeg (x.2.2.2 35 (x.2.1 - 1).toNatClampNeg)) 23 15 ((x.2.2.2 23 15) + 1)))) := ((if_neg c0).trans ((if_neg c1).trans ((if_neg c2).trans ((if_neg c3).trans ((if_pos c6).trans ((if_neg c7).trans ((if_neg c8).trans rfl)))))))
theorem tn8 {a2 : Int32} (x : Int32 × Int32 × Int32 × Sg) (hN : NN x.2.2.2) (c0 : ¬ (12 ≤ x.1)) (c1 : ¬ (x.2.1 ≤ 0)) (c2 : ¬ (6 < x.2.1)) (c3 : ¬ ((D_X4_lowestOf x.2.2.2 ((D_X4_neededNow x.2.2.2 (x.2.2.2 35 (x.2.1 - 1).toNatClampNeg)) &&& (x.2.2.1 ^^^ (-1)))) = (-1))) (c6 : (6 ≤ x.2.1)) (c7 : ¬ ((D_X11_hasBit a2 (x.2.2.2 35 (x.2.1 - 1).toNatClampNeg)) = 0)) (c8 : ¬ (6 ≤ (x.2.2.2 23 15))) : NN ((true, ((x.1 + 1), (x.2.1 + (-1)), x.2.2.1, (up (up x.2.2.2 33 (x.2.2.2 23 15).toNatClampNeg (x.2.2.2 35 (x.2.1 - 1).toNatClampNeg)) 23 15 ((x.2.2.2 23 15) + 1)))).2.2.2.2) := by
  dsimp only
  exact (nn_c (nn_inc (rg_c (hN 23 15 rfl) c8 (m := 6) (n := 6) rfl).1 (lt_nle c8) (by decide)) (nn_0 rfl hN))
theorem tt9 {a2 : Int32} (x : Int32 × Int32 × Int32 × Sg) (c0 : ¬ (12 ≤ x.1)) (c1 : ¬ (x.2.1 ≤ 0)) (c2 : ¬ (6 < x.2.1)) (c3 : ¬ ((D_X4_lowestOf x.2.2.2 ((D_X4_neededNow x.2.2.2 (x.2.2.2 35 (x.2.1 - 1).toNatClampNeg)) &&& (x.2.2.1 ^^^ (-1)))) = (-1))) (c6 : ¬ (6 ≤ x.2.1)) : (B_X4_initialise_17 a2 x) = (true, ((x.1 + 1), (x.2.1 + 1), (x.2.2.1 ||| (1 <<< ((D_X4_lowestOf x.2.2.2 ((D_X4_neededNow x.2.2.2 (x.2.2.2 35 (x.2.1 - 1).toNatClampNeg)) &&& (x.2.2.1 ^^^ (-1)))) &&& 31))), (up x.2.2.2 35 x.2.1.toNatClampNeg (D_X4_lowestOf x.2.2.2 ((D_X4_neededNow x.2.2.2 (x.2.2.2 35 (x.2.1 - 1).toNatClampNeg)) &&& (x.2.2.1 ^^^ (-1))))))) := ((if_neg c0).trans ((if_neg c1).trans ((if_neg c2).trans ((if_neg c3).trans ((if_neg c6).trans rfl)))))
theorem tn9 {a2 : Int32} (x : Int32 × Int32 × Int32 × Sg) (hN : NN x.2.2.2) (c0 : ¬ (12 ≤ x.1)) (c1 : ¬ (x.2.1 ≤ 0)) (c2 : ¬ (6 < x.2.1)) (c3 : ¬ ((D_X4_lowestOf x.2.2.2 ((D_X4_neededNow x.2.2.2 (x.2.2.2 35 (x.2.1 - 1).toNatClampNeg)) &&& (x.2.2.1 ^^^ (-1)))) = (-1))) (c6 : ¬ (6 ≤ x.2.1)) : NN ((true, ((x.1 + 1), (x.2.1 + 1), (x.2.2.1 ||| (1 <<< ((D_X4_lowestOf x.2.2.2 ((D_X4_neededNow x.2.2.2 (x.2.2.2 35 (x.2.1 - 1).toNatClampNeg)) &&& (x.2.2.1 ^^^ (-1)))) &&& 31))), (up x.2.2.2 35 x.2.1.toNatClampNeg (D_X4_lowestOf x.2.2.2 ((D_X4_neededNow x.2.2.2 (x.2.2.2 35 (x.2.1 - 1).toNatClampNeg)) &&& (x.2.2.1 ^^^ (-1))))))).2.2.2.2) := by
  dsimp only
  exact (nn_0 rfl hN)
end DD
