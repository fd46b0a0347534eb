/-! the row of items -/
section Y7
variable {sc : Nat × (Nat → Int32)} {b w wl y : Nat} {c : Int} {e : Nat}
theorem set_a : ∀ lo : Nat, lo < 5 → (∀ v : Nat, v < 2 ^ lo → (Int32.ofInt (v : Int)) &&& ((1 : Int32) <<< (Int32.ofInt (lo : Int) &&& 31)) = 0) ∧ 1 ≤ ((1 : Int32) <<< (Int32.ofInt (lo : Int) &&& 31)).toInt ∧ ((1 : Int32) <<< (Int32.ofInt (lo : Int) &&& 31)).toInt < ((2 ^ (lo + 1) : Nat) : Int) ∧ (Int32.ofInt (lo : Int)).toInt = lo ∧ Int32.ofInt (lo : Int) + 1 = Int32.ofInt ((lo + 1 : Nat) : Int) := by decide +kernel
theorem set_b : ∀ lo : Nat, lo < 4 → (∀ v : Nat, v < 2 ^ lo → (Int32.ofInt (v : Int)) &&& (((1 : Int32) <<< (Int32.ofInt (lo : Int) &&& 31)) ||| ((1 : Int32) <<< ((Int32.ofInt (lo : Int) + 1) &&& 31))) = 0) ∧ 1 ≤ (((1 : Int32) <<< (Int32.ofInt (lo : Int) &&& 31)) ||| ((1 : Int32) <<< ((Int32.ofInt (lo : Int) + 1) &&& 31))).toInt ∧ (((1 : Int32) <<< (Int32.ofInt (lo : Int) &&& 31)) ||| ((1 : Int32) <<< ((Int32.ofInt (lo : Int) + 1) &&& 31))).toInt < ((2 ^ (lo + 2) : Nat) : Int) := by decide +kernel
def Ri (b y w wl : Nat) (H : List EC) (s : Sg) (k1 k2 m : Nat) (c : Int) (e k : Nat) : Prop := Yb b y w wl H s k1 k2 m c e 5 5 ∧ (s 20 2).toInt ≤ k ∧ ∀ i : Nat, (i : Int) < (s 20 2).toInt → 0 ≤ (s 21 i).toInt ∧ (s 21 i).toInt < ((2 ^ k : Nat) : Int)
/-- what the row's method leaves -/
def Rp (b y w wl : Nat) (s0 : Sg) (K1 K2 M : Nat) (c : Int) (e : Nat) (o : Option Value) (h' : EH) : Prop := o = some (.int 1) ∧ ∃ (H' : List EC) (s' : Sg) (j1 j2 : Nat), h' = (wd b w wl H' s', j1, j2) ∧ Yb b y w wl H' s' j1 j2 M c e 5 5 ∧ K1 ≤ j1 ∧ K2 ≤ j2 ∧ (∀ i j, 23 ≤ i → s' i j = s0 i j)
def Hd (sc : Nat × (Nat → Int32)) (b y w wl : Nat) (s0 : Sg) (K1 K2 M : Nat) (c : Int) (e k : Nat) : Prop := ∀ (H : List EC) (s : Sg) (k1 k2 m : Nat), Ri b y w wl H s k1 k2 m c e k → m + 20 * (5 - k) ≤ M → K1 ≤ k1 → K2 ≤ k2 → (∀ i j, 23 ≤ i → s i j = s0 i j) → Ex sc g_X12_row 4 (18, [(1, .int (Int32.ofInt (k : Int))), (0, .ref y)], []) (wd b w wl H s, k1, k2) (Rp b y w wl s0 K1 K2 M c e)
theorem row_tail (hL : sc.1 ≤ 260) {s0 : Sg} {K1 K2 M k : Nat} (hM : M ≤ 100000) (hk : k < 5) (hd : Hd sc b y w wl s0 K1 K2 M c e (k + 1)) {H : List EC} {s : Sg} {k1 k2 m : Nat} (h : Yb b y w wl H s k1 k2 m c e 5 5) (hn : (s 20 2).toInt ≤ k) (hs : ∀ i : Nat, (i : Int) < (s 20 2).toInt → 0 ≤ (s 21 i).toInt ∧ (s 21 i).toInt < ((2 ^ (k + 1) : Nat) : Int)) (hm : m + 19 + 20 * (5 - (k + 1)) ≤ M) (hK1 : K1 ≤ k1) (hK2 : K2 ≤ k2) (hf : ∀ i j, 23 ≤ i → s i j = s0 i j)
    {a : Int32} (ha0 : 1 ≤ a.toInt) (ha1 : a.toInt < ((2 ^ (k + 1) : Nat) : Int)) (hno : ∀ i : Nat, (i : Int) < (s 20 2).toInt → (s 21 i) &&& a = 0) :
    Ex sc g_X12_row 4 (57, [(1, .int (Int32.ofInt (k : Int))), (2, .int a), (0, .ref y)], []) (wd b w wl H s, k1, k2) (Rp b y w wl s0 K1 K2 M c e) := by
  obtain ⟨dr, aS, aP, aD, aI, rest, nd, dO, dN, hy, h0, h1, hnd, hDC, hA⟩ := h.ya
  have hP := h.ok
  have ti := h.ti
  have b1 := h.b1; have b2 := h.b2; have ni0 := ti.ni0
  obtain ⟨_, _, _, ekt, ek1⟩ := set_a k hk
  have h32 : 2 ^ (k + 1) ≤ 2 ^ 5 := Nat.pow_le_pow_right (by decide) (by omega)
  refine ex_of (fun _ _ hx => rx_k 2 (59, [(1, .int (Int32.ofInt (k : Int))), (2, .int a), (0, .ref y)], [.int 3, .ref y]) (fun _ _ => rfl) hx) ?_
  obtain ⟨kd, G1, d1, kd0, kd1, hd1, hP1, hy1, ed1, hA1, hx1⟩ := yd (sc := sc) (wl := wl) (s := s) (k1 := k1) (k2 := k2) hL hP hy hA (by omega) (by omega) (n := 3) (by decide)
  have kd1 : kd.toInt < 3 := kd1
  refine ex_of (fun _ _ hx => rx_inv rfl rfl hd1 rfl rfl rfl (q_recv (oc_wd hy)) rfl rfl hx) ?_
  refine ex_of (fun _ _ hx => rx_k 2 (64, [(3, .int kd), (1, .int (Int32.ofInt (k : Int))), (2, .int a), (0, .ref y)], [.ref y]) (fun _ _ => rfl) hx) ?_
  obtain ⟨vI, hI, lI, eI⟩ := id hA1.2.2.2
  refine ex_of (fun _ _ hx => rx_getf rfl rfl (oc_wd hy1) rfl hx) ?_
  refine ex_of (fun _ _ hx => rx_alen rfl rfl (oc_wd hI) rfl (show Int32.ofNat vI.length = s 20 2 by rw [lI]; exact ofn ni0) hx) ?_
  refine ex_of (fun _ _ hx => rx_k 1 (70, [(3, .int kd), (1, .int (Int32.ofInt (k : Int))), (2, .int a), (0, .ref y)], [.int 8, .int (s 20 2)]) (fun _ _ => rfl) hx) ?_
  have c8 : ¬ s 20 2 = 8 := fun q => by rw [q] at hn; have : (8 : Int32).toInt = 8 := rfl; omega
  refine ex_of (fun _ _ hx => rx_icF rfl (bf c8) rfl hx) ?_
  refine ex_of (fun _ _ hx => rx_k 2 (76, [(3, .int kd), (1, .int (Int32.ofInt (k : Int))), (2, .int a), (0, .ref y)], [.int 9, .ref y]) (fun _ _ => rfl) hx) ?_
  obtain ⟨qq, G2, d2, qq0, qq1, hd2, hP2, hy2, ed2, hA2, hx2⟩ := yd (sc := sc) (wl := wl) (s := s) (k1 := k1) (k2 := k2) hL hP1 hy1 hA1 (by omega) (by omega) (n := 9) (by decide)
  have qq1 : qq.toInt < 9 := qq1
  refine ex_of (fun _ _ hx => rx_inv rfl rfl hd2 rfl rfl rfl (q_recv (oc_wd hy1)) rfl rfl hx) ?_
  by_cases cq : qq = 0
  · skip
    refine ex_of (fun _ _ hx => rx_ifF rfl (nf cq) rfl hx) ?_
    refine ex_of (fun _ _ hx => rx_k 3 (18, [(1, .int ((Int32.ofInt (k : Int)) + 1)), (3, .int kd), (2, .int a), (0, .ref y)], []) (fun _ _ => rfl) hx) ?_
    refine ex_of (fun _ _ hx => rx_lo am_X12_row (lo := [(1, .int (Int32.ofInt (k : Int) + 1)), (0, .ref y)]) (List.forall_mem_cons.mpr ⟨List.mem_of_getElem? (i := 0) rfl, (List.forall_mem_cons.mpr ⟨List.mem_of_getElem? (i := 3) rfl, (fun _ h => absurd h List.not_mem_nil)⟩)⟩) rfl hx) ?_
    rw [ek1]
    exact hd G2 s k1 k2 (m + 19) ⟨⟨hP2, h.w1, h.nn, by omega, by omega, h.ti, h.lib, h.lc, h.rl, h.o5, d2, aS, aP, aD, aI, rest, nd, dO, dN, hy2, by omega, by omega, hnd, hDC, hA2⟩, by omega, hs⟩ hm hK1 hK2 hf
  · skip
    refine ex_of (fun _ _ hx => rx_ifT rfl (nt cq) hx) ?_
    refine ex_of (fun _ _ hx => rx_k 2 (87, [(3, .int kd), (1, .int (Int32.ofInt (k : Int))), (2, .int a), (0, .ref y)], [.ref y, .ref y]) (fun _ _ => rfl) hx) ?_
    refine ex_of (fun _ _ hx => rx_getf rfl rfl (oc_wd hy2) rfl hx) ?_
    refine ex_of (fun _ _ hx => rx_k 1 (91, [(3, .int kd), (1, .int (Int32.ofInt (k : Int))), (2, .int a), (0, .ref y)], [.int 2, .ref aI, .ref y]) (fun _ _ => rfl) hx) ?_
    refine ex_of (fun _ _ hx => rx_newa (a := G2.length) (h1 := (wd b w wl (G2 ++ [(.inl 0, [.int 0, .int 0])]) s, (k1 + 1), (k2 + 2))) rfl rfl (by decide) rfl (congrArg (fun z => (z, (k1 + 1), (k2 + 2))) (wd_push hP2)) wd_len hx) ?_
    refine ex_of (fun _ _ hx => rx_k 3 (96, [(3, .int kd), (1, .int (Int32.ofInt (k : Int))), (2, .int a), (0, .ref y)], [.int a, .int 0, .ref G2.length, .ref G2.length, .ref aI, .ref y]) (fun _ _ => rfl) hx) ?_
    refine ex_of (fun _ _ hx => rx_ist (h1 := (wd b w wl (G2 ++ [(.inl 0, [.int a, .int 0])]) s, (k1 + 1), (k2 + 2))) rfl rfl (oc_wd (oc_top hP2)) rfl rfl (congrArg (fun z => (z, (k1 + 1), (k2 + 2))) (wd_top hP2)) hx) ?_
    refine ex_of (fun _ _ hx => rx_k 3 (100, [(3, .int kd), (1, .int (Int32.ofInt (k : Int))), (2, .int a), (0, .ref y)], [.int kd, .int 1, .ref G2.length, .ref G2.length, .ref aI, .ref y]) (fun _ _ => rfl) hx) ?_
    refine ex_of (fun _ _ hx => rx_ist (h1 := (wd b w wl (G2 ++ [(.inl 0, [.int a, .int kd])]) s, (k1 + 1), (k2 + 2))) rfl rfl (oc_wd (oc_top hP2)) rfl rfl (congrArg (fun z => (z, (k1 + 1), (k2 + 2))) (wd_top hP2)) hx) ?_
    have hr3 : Oc b w (G2 ++ [(.inl 0, [.int a, .int kd])]) G2.length (.inl 0, [.int a, .int kd]) := oc_top hP2
    have hP3 := wok_push (c := ((.inl 0, [.int a, .int kd]) : EC)) hP2
    have hy3 := oc_push (d := ((.inl 0, [.int a, .int kd]) : EC)) hy2
    have hA3 := ya_xt (xt_push (x := 9) (d := ((.inl 0, [.int a, .int kd]) : EC))) hA2
    generalize G2 ++ [(.inl 0, [.int a, .int kd])] = G3 at *
    obtain ⟨G4, j4, q4, hw4, ej4, ek4, el4, hP4, hx4, hoc4, hN4⟩ := yw (sc := sc) (wl := wl) (s := s) (k1 := (k1 + 1)) (k2 := (k2 + 2)) (Or.inl ⟨rfl, rfl, rfl⟩) hP3 hA3.2.2.2 (by omega) (fun i z q => q) hr3
    refine ex_of (fun _ _ hx => rx_inv rfl rfl hw4 rfl rfl rfl rfl rfl rfl hx) ?_
    have hy4 := hoc4 _ _ hy3
    have hA4 := ya_xt hx4 hA3
    have hrr4 := hoc4 _ _ hr3
    have hI4 : Aa b w G4 G3.length 3 ((s 20 2).toInt.toNat + 1) (fun a z => Row0 b w G4 z) := aa_cg hN4 rfl (fun a z _ q => by
      rcases q with ⟨q1, q2⟩ | ⟨q1, q2⟩
      · exact row0_xt (by decide) hx4 q2
      · exact ⟨_, q2 ▸ hrr4⟩)
    generalize G3.length = aN at *
    have hset5 : ((wd b w wl G4 s).set y (.inr 12, (.ref b :: .float 0 :: .int d2 :: .int 5 :: .ref aS :: .ref aP :: .ref aD :: .ref aI :: rest).set 7 (.ref aN)), j4, q4) = (wd b w wl (G4.set y (yc b d2 5 aS aP aD aN rest)) s, j4, q4) := congrArg (fun z => (z, j4, q4)) (wd_oset hP4 hy4.1)
    refine ex_of (fun _ _ hx => rx_putf rfl rfl (oc_wd hy4) (by show (true && decide (7 < rest.length + 8)) = true; rw [decide_eq_true (by omega)]; rfl) hset5 hx) ?_
    have hxy5 : Xt 9 b w G4 w (G4.set y (yc b d2 5 aS aP aD aN rest)) := xt_obj (k := 12) hy4
    have hy5 : Oc b w (G4.set y (yc b d2 5 aS aP aD aN rest)) y (yc b d2 5 aS aP aD aN rest) := oc_self hy4
    have hP5 := wok_set (a := y) (c := yc b d2 5 aS aP aD aN rest) hP4
    have hA5 := ya_xt hxy5 hA4
    have hI5 := aa_xt (Q := fun a z => Row0 b w (G4.set y (yc b d2 5 aS aP aD aN rest)) z) (by decide) hxy5 hI4 (fun a z q => row0_xt (by decide) hxy5 q)
    generalize G4.set y (yc b d2 5 aS aP aD aN rest) = G5 at *
    refine ex_of (fun _ _ hx => rx_k 1 (108, [(3, .int kd), (1, .int (Int32.ofInt (k : Int))), (2, .int a), (0, .ref y)], [.ref y]) (fun _ _ => rfl) hx) ?_
    refine ex_of (fun _ _ hx => rx_getf rfl rfl (oc_wd hy5) rfl hx) ?_
    refine ex_of (fun _ _ hx => rx_k 2 (113, [(3, .int kd), (1, .int (Int32.ofInt (k : Int))), (2, .int a), (0, .ref y)], [.int kd, .int a, .ref b]) (fun _ _ => rfl) hx) ?_
    obtain ⟨tT, tD, tI⟩ := t_item ti (a := a) (k := kd) h.o5 ha0 (by omega) kd0 (by omega) (by omega) hno
    have hcall := rc_X11_item (sc := sc) (wl := wl) (kn := (j4, q4)) hP5 h.nn tT
    have hNN := nn_X11_item (a1 := a) (a2 := kd) h.nn
    rw [tD] at hcall hNN
    refine ex_of (fun _ _ hx => rx_inv rfl rfl hcall rfl rfl rfl (q_recv (wg_0 hP5)) rfl rfl hx) ?_
    have hi : (s 20 2 + 1).toInt = (s 20 2).toInt + 1 := i_add1 (by omega)
    have hNe : (s 20 2).toNatClampNeg = (s 20 2).toInt.toNat := rfl
    have v20 : (up (up (up s 21 (s 20 2).toNatClampNeg a) 22 (s 20 2).toNatClampNeg kd) 20 2 (s 20 2 + 1)) 20 2 = s 20 2 + 1 := rd_eq
    have v21 : ∀ j, (up (up (up s 21 (s 20 2).toNatClampNeg a) 22 (s 20 2).toNatClampNeg kd) 20 2 (s 20 2 + 1)) 21 j = if j = (s 20 2).toNatClampNeg then a else s 21 j := fun j => by simp [up_at]
    have vf : ∀ i j, i ≠ 20 → i ≠ 21 → i ≠ 22 → (up (up (up s 21 (s 20 2).toNatClampNeg a) 22 (s 20 2).toNatClampNeg kd) 20 2 (s 20 2 + 1)) i j = s i j := fun i j e1 e2 e3 => by rw [up_ne e1, up_ne e3, up_ne e2]
    generalize (up (up (up s 21 (s 20 2).toNatClampNeg a) 22 (s 20 2).toNatClampNeg kd) 20 2 (s 20 2 + 1)) = t at *
    have hA2 : Ya b w G5 t nd dO dN aS aP aD aN := by
      obtain ⟨z1, z2, z3, _⟩ := hA5
      exact ⟨aa_cg z1 (by rw [vf _ _ (by decide) (by decide) (by decide)]) (fun i r _ q => by rw [vf _ _ (by decide) (by decide) (by decide)]; exact q), aa_cg z2 (by rw [vf _ _ (by decide) (by decide) (by decide)]) (fun i r _ q => by rw [vf _ _ (by decide) (by decide) (by decide)]; exact q), z3, aa_cg hI5 (by rw [v20, hi]; omega) (fun _ _ _ q => q)⟩
    have hYb : Yb b y w wl G5 t j4 q4 (m + 19) c e 5 5 := ⟨hP5, h.w1, hNN, by omega, by omega, tI, lib_of h.lib (fun i j hi => vf i j (by omega) (by omega) (by omega)), by rw [vf _ _ (by decide) (by decide) (by decide)]; exact h.lc, by rw [vf _ _ (by decide) (by decide) (by decide), vf _ _ (by decide) (by decide) (by decide)]; exact h.rl, by rw [vf _ _ (by decide) (by decide) (by decide)]; exact h.o5, d2, aS, aP, aD, aN, rest, nd, dO, dN, hy5, by omega, by omega, hnd, hDC.of (fun o _ => vf _ _ (by decide) (by decide) (by decide)), hA2⟩
    obtain ⟨vI2, hI2, lI2, eI2⟩ := id hA2.2.2.2
    refine ex_of (fun _ _ hx => rx_k 1 (117, [(3, .int kd), (1, .int (Int32.ofInt (k : Int))), (2, .int a), (0, .ref y)], [.ref y, .int (s 20 2)]) (fun _ _ => rfl) hx) ?_
    refine ex_of (fun _ _ hx => rx_getf rfl rfl (oc_wd hy5) rfl hx) ?_
    refine ex_of (fun _ _ hx => rx_alen rfl rfl (oc_wd hI2) rfl (show Int32.ofNat vI2.length = s 20 2 + 1 by rw [lI2, v20]; exact ofn (by omega)) hx) ?_
    refine ex_of (fun _ _ hx => rx_k 2 (123, [(3, .int kd), (1, .int (Int32.ofInt (k : Int))), (2, .int a), (0, .ref y)], [.int ((s 20 2 + 1) - 1), .int (s 20 2)]) (fun _ _ => rfl) hx) ?_
    refine ex_of (fun _ _ hx => rx_icT rfl (bt (Int32.add_sub_cancel _ _).symm) hx) ?_
    refine ex_of (fun _ _ hx => rx_k 2 (18, [(1, .int ((Int32.ofInt (k : Int)) + 1)), (3, .int kd), (2, .int a), (0, .ref y)], []) (fun _ _ => rfl) hx) ?_
    refine ex_of (fun _ _ hx => rx_lo am_X12_row (lo := [(1, .int (Int32.ofInt (k : Int) + 1)), (0, .ref y)]) (List.forall_mem_cons.mpr ⟨List.mem_of_getElem? (i := 0) rfl, (List.forall_mem_cons.mpr ⟨List.mem_of_getElem? (i := 3) rfl, (fun _ h => absurd h List.not_mem_nil)⟩)⟩) rfl hx) ?_
    rw [ek1]
    exact hd G5 t j4 q4 (m + 19) ⟨hYb, (by rw [v20, hi]; omega), (by
      rw [v20, hi]
      intro i hi2
      rw [v21]
      by_cases ce : i = (s 20 2).toNatClampNeg
      · rw [if_pos ce]; exact ⟨by omega, ha1⟩
      · rw [if_neg ce]; exact hs i (by omega))⟩ hm (by omega) (by omega) (fun i j hi => (vf i j (by omega) (by omega) (by omega)).trans (hf i j hi))
theorem row_head (hL : sc.1 ≤ 260) {s0 : Sg} {K1 K2 M : Nat} (hM : M ≤ 100000) : ∀ n k : Nat, 5 ≤ k + n → k ≤ 5 → Hd sc b y w wl s0 K1 K2 M c e k := by
  intro n
  induction n with
  | zero =>
    intro k hk hk5 H s k1 k2 m hR hm hK1 hK2 hf
    have e5 : k = 5 := by omega
    subst e5
    obtain ⟨h, _, _⟩ := hR
    obtain ⟨dr, aS, aP, aD, aI, rest, nd, dO, dN, hy, h0, h1, hnd, hDC, hA⟩ := h.ya
    have hret := h.le (m' := M) (c' := c) (e' := e) (by omega) (Int.le_refl _) (Nat.le_refl _)
    refine ex_of (fun _ _ hx => rx_k 2 (20, [(1, .int (Int32.ofInt ((5 : Nat) : Int))), (0, .ref y)], [.ref y, .int (Int32.ofInt ((5 : Nat) : Int))]) (fun _ _ => rfl) hx) ?_
    refine ex_of (fun _ _ hx => rx_getf rfl rfl (oc_wd hy) rfl hx) ?_
    refine ex_of (fun _ _ hx => rx_icT rfl (bt (by decide)) hx) ?_
    refine ex_of (fun _ _ hx => rx_k 1 (135, [(1, .int (Int32.ofInt ((5 : Nat) : Int))), (0, .ref y)], [.int 1]) (fun _ _ => rfl) hx) ?_
    exact ex_ri rfl ⟨rfl, H, s, k1, k2, rfl, hret, hK1, hK2, hf⟩
  | succ n ih =>
    intro k hk hk5 H s k1 k2 m hR hm hK1 hK2 hf
    by_cases e5 : k = 5
    · exact ih k (by omega) hk5 H s k1 k2 m hR hm hK1 hK2 hf
    · obtain ⟨h, hn, hs⟩ := hR
      obtain ⟨dr, aS, aP, aD, aI, rest, nd, dO, dN, hy, h0, h1, hnd, hDC, hA⟩ := h.ya
      have hP := h.ok
      have b1 := h.b1; have b2 := h.b2
      obtain ⟨sa1, sa2, sa3, ekt, ek1⟩ := set_a k (by omega)
      have p1 : 2 ^ k ≤ 2 ^ (k + 1) := Nat.pow_le_pow_right (by decide) (by omega)
      have hnoa : ∀ i : Nat, (i : Int) < (s 20 2).toInt → (s 21 i) &&& ((1 : Int32) <<< (Int32.ofInt (k : Int) &&& 31)) = 0 := fun i hi => by
        obtain ⟨v, hv, ev⟩ := as_nat (hs i hi).1 (hs i hi).2
        rw [ev]; exact sa1 v (by omega)
      have tailA := fun {H' : List EC} {k1' k2' m' : Nat} (hY : Yb b y w wl H' s k1' k2' m' c e 5 5) hm' hK1' hK2' => row_tail hL hM (show k < 5 by omega) (ih (k + 1) (by omega) (by omega)) hY hn (fun i hi => ⟨(hs i hi).1, by have := (hs i hi).2; omega⟩) hm' hK1' hK2' hf sa2 sa3 hnoa
      refine ex_of (fun _ _ hx => rx_k 2 (20, [(1, .int (Int32.ofInt (k : Int))), (0, .ref y)], [.ref y, .int (Int32.ofInt (k : Int))]) (fun _ _ => rfl) hx) ?_
      refine ex_of (fun _ _ hx => rx_getf rfl rfl (oc_wd hy) rfl hx) ?_
      refine ex_of (fun _ _ hx => rx_icF rfl (bf (fun q => by have := Int32.le_iff_toInt_le.mp q; rw [ekt] at this; have z : (5 : Int32).toInt = 5 := rfl; omega)) rfl hx) ?_
      refine ex_of (fun _ _ hx => rx_k 8 (34, [(2, .int (1 <<< ((Int32.ofInt (k : Int)) &&& 31))), (1, .int (Int32.ofInt (k : Int))), (0, .ref y)], [.ref y, .int ((Int32.ofInt (k : Int)) + 1)]) (fun _ _ => rfl) hx) ?_
      refine ex_of (fun _ _ hx => rx_getf rfl rfl (oc_wd hy) rfl hx) ?_
      by_cases c4 : k = 4
      · skip
        refine ex_of (fun _ _ hx => rx_icT rfl (bt (by rw [c4]; decide)) hx) ?_
        refine ex_of (fun _ _ hx => rx_lo am_X12_row (lo := [(1, .int (Int32.ofInt (k : Int))), (2, .int ((1 : Int32) <<< (Int32.ofInt (k : Int) &&& 31))), (0, .ref y)]) (List.forall_mem_cons.mpr ⟨List.mem_of_getElem? (i := 1) rfl, (List.forall_mem_cons.mpr ⟨List.mem_of_getElem? (i := 0) rfl, (List.forall_mem_cons.mpr ⟨List.mem_of_getElem? (i := 2) rfl, (fun _ h => absurd h List.not_mem_nil)⟩)⟩)⟩) rfl hx) ?_
        exact tailA h (by omega) hK1 hK2
      · obtain ⟨sb1, sb2, sb3⟩ := set_b k (by omega)
        refine ex_of (fun _ _ hx => rx_icF rfl (bf (fun q => by have z1 := Int32.le_iff_toInt_le.mp q; rw [ek1, (set_a (k + 1) (by omega)).2.2.2.1] at z1; have z : (5 : Int32).toInt = 5 := rfl; omega)) rfl hx) ?_
        refine ex_of (fun _ _ hx => rx_k 2 (42, [(2, .int (1 <<< ((Int32.ofInt (k : Int)) &&& 31))), (1, .int (Int32.ofInt (k : Int))), (0, .ref y)], [.int 2, .ref y]) (fun _ _ => rfl) hx) ?_
        obtain ⟨tw, G1, d1, tw0, tw1, hd1, hP1, hy1, ed1, hA1, hx1⟩ := yd (sc := sc) (wl := wl) (s := s) (k1 := k1) (k2 := k2) hL hP hy hA (by omega) (by omega) (n := 2) (by decide)
        have tw1 : tw.toInt < 2 := tw1
        refine ex_of (fun _ _ hx => rx_inv rfl rfl hd1 rfl rfl rfl (q_recv (oc_wd hy)) rfl rfl hx) ?_
        have hY2 : Yb b y w wl G1 s k1 k2 (m + 1) c e 5 5 := ⟨hP1, h.w1, h.nn, by omega, by omega, h.ti, h.lib, h.lc, h.rl, h.o5, d1, aS, aP, aD, aI, rest, nd, dO, dN, hy1, by omega, by omega, hnd, hDC, hA1⟩
        by_cases ct : tw = 0
        · skip
          refine ex_of (fun _ _ hx => rx_ifF rfl (nf ct) rfl hx) ?_
          refine ex_of (fun _ _ hx => rx_k 7 (57, [(2, .int ((1 <<< ((Int32.ofInt (k : Int)) &&& 31)) ||| (1 <<< (((Int32.ofInt (k : Int)) + 1) &&& 31)))), (1, .int ((Int32.ofInt (k : Int)) + 1)), (0, .ref y)], []) (fun _ _ => rfl) hx) ?_
          refine ex_of (fun _ _ hx => rx_lo am_X12_row (lo := [(1, .int (Int32.ofInt (k : Int) + 1)), (2, .int (((1 : Int32) <<< (Int32.ofInt (k : Int) &&& 31)) ||| ((1 : Int32) <<< ((Int32.ofInt (k : Int) + 1) &&& 31)))), (0, .ref y)]) (List.forall_mem_cons.mpr ⟨List.mem_of_getElem? (i := 1) rfl, (List.forall_mem_cons.mpr ⟨List.mem_of_getElem? (i := 0) rfl, (List.forall_mem_cons.mpr ⟨List.mem_of_getElem? (i := 2) rfl, (fun _ h => absurd h List.not_mem_nil)⟩)⟩)⟩) rfl hx) ?_
          have hnob : ∀ i : Nat, (i : Int) < (s 20 2).toInt → (s 21 i) &&& (((1 : Int32) <<< (Int32.ofInt (k : Int) &&& 31)) ||| ((1 : Int32) <<< ((Int32.ofInt (k : Int) + 1) &&& 31))) = 0 := fun i hi => by
            obtain ⟨v, hv, ev⟩ := as_nat (hs i hi).1 (hs i hi).2
            rw [ev]; exact sb1 v (by omega)
          have p2 : 2 ^ k ≤ 2 ^ (k + 2) := Nat.pow_le_pow_right (by decide) (by omega)
          generalize (((1 : Int32) <<< (Int32.ofInt (k : Int) &&& 31)) ||| ((1 : Int32) <<< ((Int32.ofInt (k : Int) + 1) &&& 31))) = bb at *
          rw [ek1]
          exact row_tail hL hM (show k + 1 < 5 by omega) (ih (k + 1 + 1) (by omega) (by omega)) hY2 (by omega) (fun i hi => ⟨(hs i hi).1, by have := (hs i hi).2; omega⟩) (by omega) hK1 hK2 hf sb2 sb3 hnob
        · skip
          refine ex_of (fun _ _ hx => rx_ifT rfl (nt ct) hx) ?_
          refine ex_of (fun _ _ hx => rx_lo am_X12_row (lo := [(1, .int (Int32.ofInt (k : Int))), (2, .int ((1 : Int32) <<< (Int32.ofInt (k : Int) &&& 31))), (0, .ref y)]) (List.forall_mem_cons.mpr ⟨List.mem_of_getElem? (i := 1) rfl, (List.forall_mem_cons.mpr ⟨List.mem_of_getElem? (i := 0) rfl, (List.forall_mem_cons.mpr ⟨List.mem_of_getElem? (i := 2) rfl, (fun _ h => absurd h List.not_mem_nil)⟩)⟩)⟩) rfl hx) ?_
          exact tailA hY2 (by omega) hK1 hK2
/-- the row of items is made anew -/
theorem y_row (hL : sc.1 ≤ 260) {H : List EC} {s : Sg} {k1 k2 m : Nat} (hm : m ≤ 90000) (h : Yb b y w wl H s k1 k2 m c e 5 5) : ∃ (H' : List EC) (s' : Sg) (j1 j2 : Nat), Rc sc 5 207 [.ref y] (wd b w wl H s, k1, k2) (some (.int 1)) (wd b w wl H' s', j1, j2) ∧ Yb b y w wl H' s' j1 j2 (m + 110) c e 5 5 ∧ k1 ≤ j1 ∧ k2 ≤ j2 ∧ (∀ i j, 23 ≤ i → s' i j = s i j) := by
  obtain ⟨dr, aS, aP, aD, aI, rest, nd, dO, dN, hy, h0, h1, hnd, hDC, hA⟩ := h.ya
  have hP := h.ok
  have ti := h.ti
  have b1 := h.b1; have b2 := h.b2
  have main : Ex sc g_X12_row 4 (0, [(0, .ref y)], []) (wd b w wl H s, k1, k2) (Rp b y w wl s k1 k2 (m + 110) c e) := by
    refine ex_of (fun _ _ hx => rx_k 2 (2, [(0, .ref y)], [.int 0, .ref y]) (fun _ _ => rfl) hx) ?_
    refine ex_of (fun _ _ hx => rx_newq (a := H.length) (h1 := (wd b w wl (H ++ [(.inl 3, [])]) s, k1 + 1, k2 + 0)) rfl rfl (by decide) rfl (congrArg (fun z => (z, k1 + 1, k2 + 0)) (wd_push hP)) wd_len hx) ?_
    have hr1 : Oc b w (H ++ [(.inl 3, [])]) H.length (.inl 3, []) := oc_top hP
    have hP1 := wok_push (c := ((.inl 3, []) : EC)) hP
    have hy1 := oc_push (d := ((.inl 3, []) : EC)) hy
    have hA1 := ya_xt (xt_push (x := 9) (d := ((.inl 3, []) : EC))) hA
    generalize H.length = aE at *
    generalize H ++ [(.inl 3, [])] = G1 at *
    have hset2 : ((wd b w wl G1 s).set y (.inr 12, (.ref b :: .float 0 :: .int dr :: .int 5 :: .ref aS :: .ref aP :: .ref aD :: .ref aI :: rest).set 7 (.ref aE)), k1 + 1, k2 + 0) = (wd b w wl (G1.set y (yc b dr 5 aS aP aD aE rest)) s, k1 + 1, k2 + 0) := congrArg (fun z => (z, k1 + 1, k2 + 0)) (wd_oset hP1 hy1.1)
    refine ex_of (fun _ _ hx => rx_putf rfl rfl (oc_wd hy1) (by show (true && decide (7 < rest.length + 8)) = true; rw [decide_eq_true (by omega)]; rfl) hset2 hx) ?_
    have hxy2 : Xt 9 b w G1 w (G1.set y (yc b dr 5 aS aP aD aE rest)) := xt_obj (k := 12) hy1
    have hy2 : Oc b w (G1.set y (yc b dr 5 aS aP aD aE rest)) y (yc b dr 5 aS aP aD aE rest) := oc_self hy1
    have hP2 := wok_set (a := y) (c := yc b dr 5 aS aP aD aE rest) hP1
    have hA2 := ya_xt hxy2 hA1
    have hE2 := hxy2 _ _ _ (by decide) hr1
    generalize G1.set y (yc b dr 5 aS aP aD aE rest) = G2 at *
    refine ex_of (fun _ _ hx => rx_k 1 (9, [(0, .ref y)], [.ref y]) (fun _ _ => rfl) hx) ?_
    refine ex_of (fun _ _ hx => rx_getf rfl rfl (oc_wd hy2) rfl hx) ?_
    obtain ⟨tD, tI⟩ := t_clear ti
    have hcall := rc_X11_clear (sc := sc) (wl := wl) (kn := (k1 + 1, k2 + 0)) hP2 h.nn
    have hNN := nn_X11_clear h.nn
    rw [tD] at hcall hNN
    refine ex_of (fun _ _ hx => rx_inv rfl rfl hcall rfl rfl rfl (q_recv (wg_0 hP2)) rfl rfl hx) ?_
    have v20 : (up s 20 2 0) 20 2 = 0 := rd_eq
    have vf : ∀ i j, i ≠ 20 → (up s 20 2 0) i j = s i j := fun i j e1 => by rw [up_ne e1]
    generalize up s 20 2 0 = t at *
    have z0 : (0 : Int32).toInt = 0 := rfl
    have hA3 : Ya b w G2 t nd dO dN aS aP aD aE := by
      obtain ⟨z1, z2, z3, _⟩ := hA2
      exact ⟨aa_cg z1 (by rw [vf _ _ (by decide)]) (fun i r _ q => by rw [vf _ _ (by decide)]; exact q), aa_cg z2 (by rw [vf _ _ (by decide)]) (fun i r _ q => by rw [vf _ _ (by decide)]; exact q), z3, by rw [v20]; exact ⟨[], hE2, rfl, fun i hi => absurd hi (Nat.not_lt_zero i)⟩⟩
    have hYb : Yb b y w wl G2 t (k1 + 1) (k2 + 0) (m + 1) c e 5 5 := ⟨hP2, h.w1, hNN, by omega, by omega, tI, lib_of h.lib (fun i j hi => vf i j (by omega)), by rw [vf _ _ (by decide)]; exact h.lc, by rw [vf _ _ (by decide), vf _ _ (by decide)]; exact h.rl, by rw [vf _ _ (by decide)]; exact h.o5, dr, aS, aP, aD, aE, rest, nd, dO, dN, hy2, h0, by omega, hnd, hDC.of (fun o _ => vf _ _ (by decide)), hA3⟩
    refine ex_of (fun _ _ hx => rx_k 3 (18, [(1, .int 0), (0, .ref y)], []) (fun _ _ => rfl) hx) ?_
    exact row_head hL (by omega) 5 0 (by omega) (by omega) G2 t (k1 + 1) (k2 + 0) (m + 1) ⟨hYb, by rw [v20]; decide, by rw [v20]; intro i hi; omega⟩ (by omega) (by omega) (by omega) (fun i j hi => vf i j (by omega))
  obtain ⟨o, h', hx, rfl, H', s', j1, j2, rfl, r1, r2, r3, r4⟩ := main
  exact ⟨H', s', j1, j2, rx_mc hx rfl rfl (Nat.ble_eq_true_of_le r2) (Nat.ble_eq_true_of_le r3), r1, r2, r3, r4⟩
end Y7
