/-! which definition it is; a definition more -/
section Y5
variable {sc : Nat × (Nat → Int32)} {b w wl y : Nat} {H : List EC} {s : Sg} {k1 k2 m e : Nat} {c : Int}
def B_dof (nd : Nat) (dO dN : Nat → Int32) (o n : Int32) (x : Int32) : Option (Option Int32) × Int32 := (if Int32.ofNat nd ≤ x then ((some none), x) else (if dO x.toNatClampNeg = o then (if dN x.toNatClampNeg = n then (some (some x), x) else (none, (x + 1))) else (none, (x + 1))))
theorem dof_spec {nd : Nat} {dO dN : Nat → Int32} {o n : Int32} (hn : nd ≤ 1000) : ∀ (m : Nat) (x : Int32), 0 ≤ x.toInt → (nd : Int) < x.toInt + m →
    (itf (B_dof nd dO dN o n) m x = none → ∀ i : Nat, x.toInt ≤ i → i < nd → ¬ (dO i = o ∧ dN i = n)) ∧ (∀ v, itf (B_dof nd dO dN o n) m x = some v → 0 ≤ v.toInt ∧ ∃ i : Nat, i < nd ∧ dO i = o ∧ dN i = n) := by
  intro m
  induction m with
  | zero => exact fun x hx hm => ⟨fun _ i h1 h2 => by omega, fun v hv => by cases hv⟩
  | succ m ih =>
    intro x hx hm
    have hz : (Int32.ofNat nd).toInt = nd := i_wl (by omega)
    by_cases c0 : Int32.ofNat nd ≤ x
    · have hc := i_le c0 hz
      rw [itf_h (B := B_dof nd dO dN o n) (x := x) (z := none) (y := x) (if_pos c0)]
      exact ⟨fun _ i h1 h2 => by omega, fun v hv => by cases hv⟩
    · have hc := i_nle c0
      rw [hz] at hc
      have hx1 : (x + 1).toInt = x.toInt + 1 := i_add1 (by omega)
      have step : ¬ (dO x.toNatClampNeg = o ∧ dN x.toNatClampNeg = n) → B_dof nd dO dN o n x = (none, x + 1) := fun q => by
        unfold B_dof
        rw [if_neg c0]
        by_cases c1 : dO x.toNatClampNeg = o
        · rw [if_pos c1, if_neg (fun z => q ⟨c1, z⟩)]
        · rw [if_neg c1]
      by_cases c1 : dO x.toNatClampNeg = o ∧ dN x.toNatClampNeg = n
      · rw [itf_h (B := B_dof nd dO dN o n) (x := x) (z := some x) (y := x) ((if_neg c0).trans ((if_pos c1.1).trans (if_pos c1.2)))]
        exact ⟨fun q => by (cases q), fun v hv => by (cases hv; exact ⟨hx, x.toNatClampNeg, by rw [tn]; omega, c1⟩)⟩
      · rw [itf_n (B := B_dof nd dO dN o n) (x := x) (y := x + 1) (step c1)]
        obtain ⟨i1, i2⟩ := ih (x + 1) (by omega) (by omega)
        refine ⟨fun q i h1 h2 => ?_, i2⟩
        by_cases e : i = x.toNatClampNeg
        · rw [e]; exact c1
        · exact i1 q i (by rw [tn] at e; omega) h2
theorem rc_dof (hP : WOK b w H) {dr ob : Int32} {aS aP aD aI : Nat} {rest : List Value} (hy : Oc b w H y (yc b dr ob aS aP aD aI rest)) {nd : Nat} {dO dN : Nat → Int32} (hn : nd ≤ 1000) (hD : Aa b w H aD 3 nd (fun i r => Row2 b w H r (dO i) (dN i))) {o n : Int32} :
    ∃ v : Int32, Rc sc 1 205 [.ref y, .int o, .int n] (wd b w wl H s, k1, k2) (some (.int v)) (wd b w wl H s, k1, k2) ∧ (v < 0 → ∀ i : Nat, i < nd → ¬ (dO i = o ∧ dN i = n)) ∧ (¬ v < 0 → ∃ i : Nat, i < nd ∧ dO i = o ∧ dN i = n) := by
  obtain ⟨vD, hDv, lD, eD⟩ := hD
  have hz : (Int32.ofNat nd).toInt = nd := i_wl (by omega)
  obtain ⟨sp1, sp2⟩ := dof_spec (dO := dO) (dN := dN) (o := o) (n := n) hn BIG 0 (by decide) (by rw [BIG_eq]; have : (0 : Int32).toInt = 0 := rfl; omega)
  have body : ∀ (x : Int32) (ov : Option Value) (h' : EH), 0 ≤ x.toInt → (∀ t, B_dof nd dO dN o n x = (none, t) → x.toInt < 2147483647 → t = x + 1 → Rx sc g_X12_definitionOf 0 (2, [(3, .int t), (0, .ref y), (1, .int o), (2, .int n)], []) (wd b w wl H s, k1, k2) ov h') → (∀ t, B_dof nd dO dN o n x = (some none, t) → Rx sc g_X12_definitionOf 0 (43, [(3, .int t), (0, .ref y), (1, .int o), (2, .int n)], []) (wd b w wl H s, k1, k2) ov h') → (∀ (v t : Int32), B_dof nd dO dN o n x = (some (some v), t) → ov = some (.int v) ∧ h' = (wd b w wl H s, k1, k2)) → Rx sc g_X12_definitionOf 0 (2, [(3, .int x), (0, .ref y), (1, .int o), (2, .int n)], []) (wd b w wl H s, k1, k2) ov h' := fun x ov h' hv hc he hr => by
    refine rx_k 2 (4, [(3, .int x), (0, .ref y), (1, .int o), (2, .int n)], [.ref y, .int x]) (fun _ _ => rfl) ?_
    refine rx_getf rfl rfl (oc_wd hy) rfl ?_
    refine rx_alen rfl rfl (oc_wd hDv) rfl (by rw [lD]) ?_
    by_cases c0 : Int32.ofNat nd ≤ x
    · skip
      refine rx_icT rfl (bt c0) ?_
      exact he x (if_pos c0)
    · have hxl := i_nle c0
      rw [hz] at hxl
      obtain ⟨r, r1, u, hu⟩ := eD x.toNatClampNeg (by rw [tn]; omega)
      refine rx_icF rfl (bf c0) rfl ?_
      refine rx_k 1 (12, [(3, .int x), (0, .ref y), (1, .int o), (2, .int n)], [.ref y]) (fun _ _ => rfl) ?_
      refine rx_getf rfl rfl (oc_wd hy) rfl ?_
      refine rx_k 1 (16, [(3, .int x), (0, .ref y), (1, .int o), (2, .int n)], [.int x, .ref aD]) (fun _ _ => rfl) ?_
      refine rx_ald rfl rfl (oc_wd hDv) rfl (ev_at_of (n_lt hv) rfl r1) ?_
      refine rx_k 1 (18, [(3, .int x), (0, .ref y), (1, .int o), (2, .int n)], [.int 0, .ref r]) (fun _ _ => rfl) ?_
      refine rx_ild rfl rfl (oc_wd hu) rfl ?_
      refine rx_k 1 (20, [(3, .int x), (0, .ref y), (1, .int o), (2, .int n)], [.int o, .int (dO x.toNatClampNeg)]) (fun _ _ => rfl) ?_
      by_cases c1 : dO x.toNatClampNeg = o
      · skip
        refine rx_icF rfl (nf c1) rfl ?_
        refine rx_k 1 (24, [(3, .int x), (0, .ref y), (1, .int o), (2, .int n)], [.ref y]) (fun _ _ => rfl) ?_
        refine rx_getf rfl rfl (oc_wd hy) rfl ?_
        refine rx_k 1 (28, [(3, .int x), (0, .ref y), (1, .int o), (2, .int n)], [.int x, .ref aD]) (fun _ _ => rfl) ?_
        refine rx_ald rfl rfl (oc_wd hDv) rfl (ev_at_of (n_lt hv) rfl r1) ?_
        refine rx_k 1 (30, [(3, .int x), (0, .ref y), (1, .int o), (2, .int n)], [.int 1, .ref r]) (fun _ _ => rfl) ?_
        refine rx_ild rfl rfl (oc_wd hu) rfl ?_
        refine rx_k 1 (32, [(3, .int x), (0, .ref y), (1, .int o), (2, .int n)], [.int n, .int (dN x.toNatClampNeg)]) (fun _ _ => rfl) ?_
        by_cases c2 : dN x.toNatClampNeg = n
        · skip
          refine rx_icF rfl (nf c2) rfl ?_
          refine rx_k 1 (36, [(3, .int x), (0, .ref y), (1, .int o), (2, .int n)], [.int x]) (fun _ _ => rfl) ?_
          obtain ⟨rfl, rfl⟩ := hr x x ((if_neg c0).trans ((if_pos c1).trans (if_pos c2)))
          exact rx_ri rfl
        · skip
          refine rx_icT rfl (nt c2) ?_
          refine rx_k 2 (2, [(3, .int (x + 1)), (0, .ref y), (1, .int o), (2, .int n)], []) (fun _ _ => rfl) ?_
          exact hc _ ((if_neg c0).trans ((if_pos c1).trans (if_neg c2))) (by omega) rfl
      · skip
        refine rx_icT rfl (nt c1) ?_
        refine rx_k 2 (2, [(3, .int (x + 1)), (0, .ref y), (1, .int o), (2, .int n)], []) (fun _ _ => rfl) ?_
        exact hc _ ((if_neg c0).trans (if_neg c1)) (by omega) rfl
  have main : ∀ (ov : Option Value) (v : Int32), ov = some (.int v) → (itf (B_dof nd dO dN o n) BIG 0 = none → v = -1) → (∀ z, itf (B_dof nd dO dN o n) BIG 0 = some z → v = z) → Rx sc g_X12_definitionOf 0 (0, [(0, .ref y), (1, .int o), (2, .int n)], []) (wd b w wl H s, k1, k2) ov (wd b w wl H s, k1, k2) := fun ov v hov e1 e2 => by
    refine rx_k 2 (2, [(3, .int 0), (0, .ref y), (1, .int o), (2, .int n)], []) (fun _ _ => rfl) ?_
    refine rx_loopF1 (B := B_dof nd dO dN o n) (fr := fun x => (2, [(3, .int x), (0, .ref y), (1, .int o), (2, .int n)], [])) (E := fun x => (43, [(3, .int x), (0, .ref y), (1, .int o), (2, .int n)], [])) (fun x hv hc he hr => body x _ _ hv hc he hr) BIG 0 (by decide) (le_enough (by decide)) (fun q z => ?_) (fun z hz2 => ⟨by rw [hov, e2 z hz2], rfl⟩)
    show Rx sc g_X12_definitionOf 0 (43, [(3, .int z), (0, .ref y), (1, .int o), (2, .int n)], []) (wd b w wl H s, k1, k2) ov (wd b w wl H s, k1, k2)
    refine rx_k 1 (44, [(3, .int z), (0, .ref y), (1, .int o), (2, .int n)], [.int (-1)]) (fun _ _ => rfl) ?_
    rw [hov, e1 q]
    exact rx_ri rfl
  cases hq : itf (B_dof nd dO dN o n) BIG 0 with
  | none =>
    refine ⟨-1, rx_mc (main _ (-1) rfl (fun _ => rfl) (fun z hz2 => by rw [hq] at hz2; cases hz2)) rfl rfl (Nat.ble_eq_true_of_le (Nat.le_refl _)) (Nat.ble_eq_true_of_le (Nat.le_refl _)), fun _ i hi => sp1 hq i (by have : (0 : Int32).toInt = 0 := rfl; omega) hi, fun q => absurd (by decide) q⟩
  | some v =>
    obtain ⟨v0, v1⟩ := sp2 v hq
    refine ⟨v, rx_mc (main _ v rfl (fun q => by rw [hq] at q; cases q) (fun z hz2 => by rw [hq] at hz2; exact Option.some.inj hz2)) rfl rfl (Nat.ble_eq_true_of_le (Nat.le_refl _)) (Nat.ble_eq_true_of_le (Nat.le_refl _)), fun q => absurd q (n_lt v0), fun _ => v1⟩
def B_all (L : Nat) (dO : Nat → Int32) (o : Int32) (x v : Int32) : Bool × (Int32 × Int32) := (if Int32.ofNat L ≤ x then (false, (x, v)) else (if dO x.toNatClampNeg = o then (true, (x + 1, v + 1)) else (true, (x + 1, v + 0))))
theorem all_spec {L : Nat} {dO : Nat → Int32} {o : Int32} (hL : L ≤ 1000) : (itr (uc2 (B_all L dO o)) BIG (0, 0)).2.toInt = (cn L (fun i => decide ((dO i).toInt = o.toInt)) : Nat) := by
  have hz : (Int32.ofNat L).toInt = L := i_wl (by omega)
  refine lq (B := B_all L dO o) (I := fun x v => x.toInt ≤ L ∧ v.toInt = (cn x.toInt.toNat (fun i => decide ((dO i).toInt = o.toInt)) : Nat)) (J := fun v => v.toInt = (cn L (fun i => decide ((dO i).toInt = o.toInt)) : Nat)) L (by omega) (fun x v hx0 hI => ?_) (by decide) (by have : (0 : Int32).toInt = 0 := rfl; omega) ⟨by have : (0 : Int32).toInt = 0 := rfl; omega, rfl⟩
  obtain ⟨h1, h2⟩ := hI
  by_cases c0 : Int32.ofNat L ≤ x
  · have hc := i_le c0 hz
    refine Or.inl ⟨x, v, if_pos c0, ?_⟩
    rw [h2, show x.toInt.toNat = L by omega]
  · have hc := i_nle c0
    rw [hz] at hc
    have hx1 : (x + 1).toInt = x.toInt + 1 := i_add1 (by omega)
    have hle := cn_le x.toInt.toNat (fun i => decide ((dO i).toInt = o.toInt))
    have hst : cn (x + 1).toInt.toNat (fun i => decide ((dO i).toInt = o.toInt)) = cn x.toInt.toNat (fun i => decide ((dO i).toInt = o.toInt)) + (if decide ((dO x.toNatClampNeg).toInt = o.toInt) = true then 1 else 0) := by
      rw [show (x + 1).toInt.toNat = x.toInt.toNat + 1 by omega]; rfl
    by_cases c1 : dO x.toNatClampNeg = o
    · have e1 : (v + 1).toInt = v.toInt + 1 := i_add1 (by omega)
      refine Or.inr ⟨hc, _, (if_neg c0).trans (if_pos c1), by omega, ?_⟩
      rw [hst, if_pos (decide_eq_true (congrArg Int32.toInt c1)), e1, h2]; omega
    · refine Or.inr ⟨hc, _, (if_neg c0).trans (if_neg c1), by omega, ?_⟩
      rw [hst, if_neg (by rw [decide_eq_false (fun q => c1 (Int32.toInt_inj.mp q))]; decide), Int32.add_zero, h2]; omega
/-- what a definition more leaves of the yard -/
theorem yb_def {t : Sg} {dr : Int32} {aS aP aD aI : Nat} {rest : List Value} {nd : Nat} {dO dN : Nat → Int32} {H' : List EC} {j1 j2 : Nat} (h : Yb b y w wl H s k1 k2 m c e 5 5)
    (hT : Ti c t) (hf : ∀ i j, i ≠ 2 → i ≠ 3 → i ≠ 5 → i ≠ 6 → i ≠ 7 → i ≠ 8 → i ≠ 9 → i ≠ 10 → t i j = s i j) (hN : NN t)
    (hP : WOK b w H') (hy : Oc b w H' y (yc b dr 5 aS aP aD aI rest)) (h0 : 0 ≤ dr.toInt) (h1 : dr.toInt ≤ m + 12) (hnd : nd ≤ e + 1) (hDC : DC t nd dO dN) (hb1 : j1 ≤ m + 12) (hb2 : j2 ≤ 100 * (m + 12)) (hA : Ya b w H' s nd dO dN aS aP aD aI) :
    Yb b y w wl H' t j1 j2 (m + 12) c (e + 1) 5 5 := by
  have g : ∀ i j, 11 ≤ i → t i j = s i j := fun i j hi => hf i j (by omega) (by omega) (by omega) (by omega) (by omega) (by omega) (by omega) (by omega)
  have g0 : ∀ i j, i < 2 → t i j = s i j := fun i j hi => hf i j (by omega) (by omega) (by omega) (by omega) (by omega) (by omega) (by omega) (by omega)
  refine ⟨hP, h.w1, hN, hb1, hb2, hT, lib_of h.lib (fun i j hi => g i j (by omega)), by rw [g _ _ (by decide)]; exact h.lc, by rw [g0 _ _ (by decide), g0 _ _ (by decide)]; exact h.rl, by rw [g0 _ _ (by decide)]; exact h.o5, dr, aS, aP, aD, aI, rest, nd, dO, dN, hy, h0, by omega, hnd, hDC, ya_cg hA (g _ _ (by decide)) (fun i => g _ _ (by decide)) (fun i => g _ _ (by decide)) (g _ _ (by decide))⟩
end Y5
