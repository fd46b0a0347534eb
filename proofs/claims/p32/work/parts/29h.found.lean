/-! the yard is found: five objects, eight rounds, a row -/
section Y8
variable {sc : Nat × (Nat → Int32)} {b w wl y : Nat}
theorem yb_object {H : List EC} {s : Sg} {k1 k2 m e k : Nat} {c : Int} {ob : Int32} (h : Yb b y w wl H s k1 k2 m c e k ob) (hc : (s 1 9).toInt < 10) : Rc sc 2 159 [.ref b] (wd b w wl H s, k1, k2) (some (.int (s 1 9))) (wd b w wl H (up s 1 9 (s 1 9 + 1)), k1, k2) ∧ Yb b y w wl H (up s 1 9 (s 1 9 + 1)) k1 k2 m c e (k + 1) ob := by
  obtain ⟨tT, tD, tI⟩ := t_object h.ti hc
  have hcall := rc_X11_object (sc := sc) (wl := wl) (kn := (k1, k2)) h.ok h.nn tT
  have hNN := nn_X11_object h.nn
  rw [tD] at hcall hNN
  have hi : (s 1 9 + 1).toInt = (s 1 9).toInt + 1 := i_add1 (by omega)
  have f : ∀ i j, i ≠ 1 → (up s 1 9 (s 1 9 + 1)) i j = s i j := fun i j hi => by rw [up_ne hi]
  have f1 : (up s 1 9 (s 1 9 + 1)) 1 9 = s 1 9 + 1 := rd_eq
  have o5 := h.o5
  obtain ⟨dr, aS, aP, aD, aI, rest, nd, dO, dN, hy, h0, h1, hnd, hDC, hA⟩ := h.ya
  refine ⟨hcall, h.ok, h.w1, hNN, h.b1, h.b2, tI, lib_of h.lib (fun i j hi => f i j (by omega)), by rw [f _ _ (by decide)]; exact h.lc, by rw [f _ _ (by decide), f _ _ (by decide)]; exact h.rl, by rw [f1, hi]; omega, dr, aS, aP, aD, aI, rest, nd, dO, dN, hy, h0, h1, hnd, hDC.of (fun o _ => f _ _ (by decide)), ya_cg hA (f _ _ (by decide)) (fun i => f _ _ (by decide)) (fun i => f _ _ (by decide)) (f _ _ (by decide))⟩
def Fp (b y w wl : Nat) (s0 : Sg) (K1 K2 M : Nat) (C : Int) (E : Nat) (o : Option Value) (h' : EH) : Prop := o = some (.int 1) ∧ ∃ (H' : List EC) (s' : Sg) (j1 j2 : Nat), h' = (wd b w wl H' s', j1, j2) ∧ Yb b y w wl H' s' j1 j2 M C E 5 5 ∧ K1 ≤ j1 ∧ K2 ≤ j2 ∧ (∀ i j, 23 ≤ i → s' i j = s0 i j)
theorem eight_d : ∀ i : Nat, i < 8 → ¬ 8 ≤ Int32.ofInt (i : Int) ∧ Int32.ofInt (i : Int) + 1 = Int32.ofInt ((i + 1 : Nat) : Int) := by decide
theorem found_loop (hL : sc.1 ≤ 260) {s0 : Sg} {K1 K2 M : Nat} {C : Int} {E : Nat} (hM : M ≤ 80000) (hE : E ≤ 40) : ∀ (n i : Nat), i + n = 8 → ∀ (H : List EC) (s : Sg) (k1 k2 m e : Nat) (c : Int), Yb b y w wl H s k1 k2 m c e 5 5 → m + 60 * n + 120 ≤ M → c + 31 * n ≤ C → e + 2 * n ≤ E → K1 ≤ k1 → K2 ≤ k2 → (∀ i j, 23 ≤ i → s i j = s0 i j) → Ex sc g_X12_found 7 (33, [(1, .int (Int32.ofInt (i : Int))), (0, .ref y)], []) (wd b w wl H s, k1, k2) (Fp b y w wl s0 K1 K2 M C E) := by
  intro n
  induction n with
  | zero =>
    intro i hi H s k1 k2 m e c h hm hc he hK1 hK2 hf
    have e8 : i = 8 := by omega
    subst e8
    obtain ⟨H', s', j1, j2, hr, hY, r1, r2, r3⟩ := y_row hL (by omega) h
    obtain ⟨dr, aS, aP, aD, aI, rest, nd, dO, dN, hy, _⟩ := h.ya
    have hret := hY.le (m' := M) (c' := C) (e' := E) (by omega) (by omega) (by omega)
    refine ex_of (fun _ _ hx => rx_k 2 (36, [(1, .int (Int32.ofInt ((8 : Nat) : Int))), (0, .ref y)], [.int 8, .int (Int32.ofInt ((8 : Nat) : Int))]) (fun _ _ => rfl) hx) ?_
    refine ex_of (fun _ _ hx => rx_icT rfl (bt (by decide)) hx) ?_
    refine ex_of (fun _ _ hx => rx_k 1 (83, [(1, .int (Int32.ofInt ((8 : Nat) : Int))), (0, .ref y)], [.ref y]) (fun _ _ => rfl) hx) ?_
    refine ex_of (fun _ _ hx => rx_inv rfl rfl hr rfl rfl rfl (q_recv (oc_wd hy)) rfl rfl hx) ?_
    exact ex_ri rfl ⟨rfl, H', s', j1, j2, rfl, hret, by omega, by omega, fun i j hi => (r3 i j hi).trans (hf i j hi)⟩
  | succ n ih =>
    intro i hi H s k1 k2 m e c h hm hc he hK1 hK2 hf
    obtain ⟨d1, d2⟩ := eight_d i (by omega)
    obtain ⟨dr, aS, aP, aD, aI, rest, nd, dO, dN, hy, _⟩ := h.ya
    refine ex_of (fun _ _ hx => rx_k 2 (36, [(1, .int (Int32.ofInt (i : Int))), (0, .ref y)], [.int 8, .int (Int32.ofInt (i : Int))]) (fun _ _ => rfl) hx) ?_
    refine ex_of (fun _ _ hx => rx_icF rfl (bf d1) rfl hx) ?_
    refine ex_of (fun _ _ hx => rx_k 1 (40, [(1, .int (Int32.ofInt (i : Int))), (0, .ref y)], [.ref y]) (fun _ _ => rfl) hx) ?_
    obtain ⟨H1, s1, j1, q1, hr1, h1, r1, t1, f1⟩ := y_section hL (by omega) h
    refine ex_of (fun _ _ hx => rx_inv rfl rfl hr1 rfl rfl rfl (q_recv (oc_wd hy)) rfl rfl hx) ?_
    obtain ⟨_, _, _, _, _, _, _, _, _, hy1, _⟩ := h1.ya
    refine ex_of (fun _ _ hx => rx_ifF rfl (bf (by decide)) rfl hx) ?_
    refine ex_of (fun _ _ hx => rx_k 1 (47, [(1, .int (Int32.ofInt (i : Int))), (0, .ref y)], [.ref y]) (fun _ _ => rfl) hx) ?_
    obtain ⟨H2, s2, j2, q2, hr2, h2, r2, t2, f2⟩ := y_define hL (by omega) (by omega) h1
    refine ex_of (fun _ _ hx => rx_inv rfl rfl hr2 rfl rfl rfl (q_recv (oc_wd hy1)) rfl rfl hx) ?_
    obtain ⟨_, _, _, _, _, _, _, _, _, hy2, _⟩ := h2.ya
    refine ex_of (fun _ _ hx => rx_ifF rfl (bf (by decide)) rfl hx) ?_
    refine ex_of (fun _ _ hx => rx_k 1 (54, [(1, .int (Int32.ofInt (i : Int))), (0, .ref y)], [.ref y]) (fun _ _ => rfl) hx) ?_
    obtain ⟨H3, s3, j3, q3, hr3, h3, r3, t3, f3⟩ := y_piece hL (by omega) h2
    refine ex_of (fun _ _ hx => rx_inv rfl rfl hr3 rfl rfl rfl (q_recv (oc_wd hy2)) rfl rfl hx) ?_
    obtain ⟨_, _, _, _, _, _, _, _, _, hy3, _⟩ := h3.ya
    refine ex_of (fun _ _ hx => rx_ifF rfl (bf (by decide)) rfl hx) ?_
    refine ex_of (fun _ _ hx => rx_k 1 (61, [(1, .int (Int32.ofInt (i : Int))), (0, .ref y)], [.ref y]) (fun _ _ => rfl) hx) ?_
    obtain ⟨H4, s4, j4, q4, hr4, h4, r4, t4, f4⟩ := y_define hL (by omega) (by omega) h3
    refine ex_of (fun _ _ hx => rx_inv rfl rfl hr4 rfl rfl rfl (q_recv (oc_wd hy3)) rfl rfl hx) ?_
    obtain ⟨_, _, _, _, _, _, _, _, _, hy4, _⟩ := h4.ya
    refine ex_of (fun _ _ hx => rx_ifF rfl (bf (by decide)) rfl hx) ?_
    refine ex_of (fun _ _ hx => rx_k 1 (68, [(1, .int (Int32.ofInt (i : Int))), (0, .ref y)], [.ref y]) (fun _ _ => rfl) hx) ?_
    obtain ⟨H5, s5, j5, q5, hr5, h5, r5, t5, f5⟩ := y_piece hL (by omega) h4
    refine ex_of (fun _ _ hx => rx_inv rfl rfl hr5 rfl rfl rfl (q_recv (oc_wd hy4)) rfl rfl hx) ?_
    obtain ⟨_, _, _, _, _, _, _, _, _, hy5, _⟩ := h5.ya
    refine ex_of (fun _ _ hx => rx_ifT rfl (nt (by decide)) hx) ?_
    refine ex_of (fun _ _ hx => rx_k 2 (33, [(1, .int ((Int32.ofInt (i : Int)) + 1)), (0, .ref y)], []) (fun _ _ => rfl) hx) ?_
    rw [d2]
    exact ih (i + 1) (by omega) H5 s5 j5 q5 _ _ _ h5 (by omega) (by omega) (by omega) (by omega) (by omega) (fun i j hi => (f5 i j hi).trans ((f4 i j hi).trans ((f3 i j hi).trans ((f2 i j hi).trans ((f1 i j hi).trans (hf i j hi))))))
/-- five objects, and what is drawn -/
theorem y_found (hL : sc.1 ≤ 260) {H : List EC} {s : Sg} {k1 k2 m : Nat} (hm : m ≤ 70000) (h : Yb b y w wl H s k1 k2 m 0 0 0 0) (h9 : s 1 9 = 0) : ∃ (H' : List EC) (s' : Sg) (j1 j2 : Nat), Rc sc 8 208 [.ref y] (wd b w wl H s, k1, k2) (some (.int 1)) (wd b w wl H' s', j1, j2) ∧ Yb b y w wl H' s' j1 j2 (m + 700) 248 16 5 5 ∧ k1 ≤ j1 ∧ k2 ≤ j2 ∧ (∀ i j, 23 ≤ i → s' i j = s i j) := by
  obtain ⟨dr, aS, aP, aD, aI, rest, nd, dO, dN, hy, h0, h1, hnd, hDC, hA⟩ := h.ya
  have hP := h.ok
  have main : Ex sc g_X12_found 7 (0, [(0, .ref y)], []) (wd b w wl H s, k1, k2) (Fp b y w wl s k1 k2 (m + 700) 248 16) := by
    have hset0 : ((wd b w wl H s).set y (.inr 12, (.ref b :: .float 0 :: .int dr :: .int 0 :: .ref aS :: .ref aP :: .ref aD :: .ref aI :: rest).set 3 (.int 5)), k1, k2) = (wd b w wl (H.set y (yc b dr 5 aS aP aD aI rest)) s, k1, k2) := congrArg (fun z => (z, k1, k2)) (wd_oset hP hy.1)
    refine ex_of (fun _ _ hx => rx_k 2 (2, [(0, .ref y)], [.int 5, .ref y]) (fun _ _ => rfl) hx) ?_
    refine ex_of (fun _ _ hx => rx_putf rfl rfl (oc_wd hy) (by show (true && decide (3 < rest.length + 8)) = true; rw [decide_eq_true (by omega)]; rfl) hset0 hx) ?_
    have hxy : Xt 9 b w H w (H.set y (yc b dr 5 aS aP aD aI rest)) := xt_obj (k := 12) hy
    have g0 : Yb b y w wl (H.set y (yc b dr 5 aS aP aD aI rest)) s k1 k2 m 0 0 0 5 := ⟨wok_set hP, h.w1, h.nn, h.b1, h.b2, h.ti, h.lib, h.lc, h.rl, h.o5, dr, aS, aP, aD, aI, rest, nd, dO, dN, oc_self hy, h0, h1, hnd, hDC, ya_xt hxy hA⟩
    have hy2 : Oc b w (H.set y (yc b dr 5 aS aP aD aI rest)) y (yc b dr 5 aS aP aD aI rest) := oc_self hy
    have hP2 : WOK b w (H.set y (yc b dr 5 aS aP aD aI rest)) := wok_set hP
    generalize H.set y (yc b dr 5 aS aP aD aI rest) = G at *
    refine ex_of (fun _ _ hx => rx_k 4 (9, [(1, .int 0), (0, .ref y)], [.int 5, .int 0]) (fun _ _ => rfl) hx) ?_
    refine ex_of (fun _ _ hx => rx_icF rfl (bf (by decide)) rfl hx) ?_
    refine ex_of (fun _ _ hx => rx_k 1 (13, [(1, .int 0), (0, .ref y)], [.ref y]) (fun _ _ => rfl) hx) ?_
    refine ex_of (fun _ _ hx => rx_getf rfl rfl (oc_wd hy2) rfl hx) ?_
    obtain ⟨ho0, g1⟩ := yb_object (sc := sc) g0 (by rw [h9]; decide)
    have n1 : (up s 1 9 (s 1 9 + 1)) 1 9 = 1 := by rw [rd_eq, h9]; decide
    have z1 : ∀ i j, 23 ≤ i → (up s 1 9 (s 1 9 + 1)) i j = s i j := fun i j hi => by rw [up_ne (by omega)]
    rw [h9] at ho0
    have en0 : up s 1 9 (0 + 1) = up s 1 9 (s 1 9 + 1) := by rw [h9]
    rw [en0] at ho0
    generalize up s 1 9 (s 1 9 + 1) = u1 at *
    refine ex_of (fun _ _ hx => rx_inv rfl rfl ho0 rfl rfl rfl (q_recv (wg_0 hP2)) rfl rfl hx) ?_
    refine ex_of (fun _ _ hx => rx_k 1 (20, [(1, .int 0), (0, .ref y)], [.int 0, .int 0]) (fun _ _ => rfl) hx) ?_
    refine ex_of (fun _ _ hx => rx_icT rfl (bt (by decide)) hx) ?_
    refine ex_of (fun _ _ hx => rx_k 4 (9, [(1, .int (0 + 1)), (0, .ref y)], [.int 5, .int (0 + 1)]) (fun _ _ => rfl) hx) ?_
    refine ex_of (fun _ _ hx => rx_icF rfl (bf (by decide)) rfl hx) ?_
    refine ex_of (fun _ _ hx => rx_k 1 (13, [(1, .int (0 + 1)), (0, .ref y)], [.ref y]) (fun _ _ => rfl) hx) ?_
    refine ex_of (fun _ _ hx => rx_getf rfl rfl (oc_wd hy2) rfl hx) ?_
    obtain ⟨ho1, g2⟩ := yb_object (sc := sc) g1 (by rw [n1]; decide)
    have n2 : (up u1 1 9 (u1 1 9 + 1)) 1 9 = 2 := by rw [rd_eq, n1]; decide
    have z2 : ∀ i j, 23 ≤ i → (up u1 1 9 (u1 1 9 + 1)) i j = s i j := fun i j hi => by rw [up_ne (by omega)]; exact z1 i j hi
    rw [n1] at ho1
    have en1 : up u1 1 9 (1 + 1) = up u1 1 9 (u1 1 9 + 1) := by rw [n1]
    rw [en1] at ho1
    generalize up u1 1 9 (u1 1 9 + 1) = u2 at *
    refine ex_of (fun _ _ hx => rx_inv rfl rfl ho1 rfl rfl rfl (q_recv (wg_0 hP2)) rfl rfl hx) ?_
    refine ex_of (fun _ _ hx => rx_k 1 (20, [(1, .int (0 + 1)), (0, .ref y)], [.int (0 + 1), .int 1]) (fun _ _ => rfl) hx) ?_
    refine ex_of (fun _ _ hx => rx_icT rfl (bt (by decide)) hx) ?_
    refine ex_of (fun _ _ hx => rx_k 4 (9, [(1, .int ((0 + 1) + 1)), (0, .ref y)], [.int 5, .int ((0 + 1) + 1)]) (fun _ _ => rfl) hx) ?_
    refine ex_of (fun _ _ hx => rx_icF rfl (bf (by decide)) rfl hx) ?_
    refine ex_of (fun _ _ hx => rx_k 1 (13, [(1, .int ((0 + 1) + 1)), (0, .ref y)], [.ref y]) (fun _ _ => rfl) hx) ?_
    refine ex_of (fun _ _ hx => rx_getf rfl rfl (oc_wd hy2) rfl hx) ?_
    obtain ⟨ho2, g3⟩ := yb_object (sc := sc) g2 (by rw [n2]; decide)
    have n3 : (up u2 1 9 (u2 1 9 + 1)) 1 9 = 3 := by rw [rd_eq, n2]; decide
    have z3 : ∀ i j, 23 ≤ i → (up u2 1 9 (u2 1 9 + 1)) i j = s i j := fun i j hi => by rw [up_ne (by omega)]; exact z2 i j hi
    rw [n2] at ho2
    have en2 : up u2 1 9 (2 + 1) = up u2 1 9 (u2 1 9 + 1) := by rw [n2]
    rw [en2] at ho2
    generalize up u2 1 9 (u2 1 9 + 1) = u3 at *
    refine ex_of (fun _ _ hx => rx_inv rfl rfl ho2 rfl rfl rfl (q_recv (wg_0 hP2)) rfl rfl hx) ?_
    refine ex_of (fun _ _ hx => rx_k 1 (20, [(1, .int ((0 + 1) + 1)), (0, .ref y)], [.int ((0 + 1) + 1), .int 2]) (fun _ _ => rfl) hx) ?_
    refine ex_of (fun _ _ hx => rx_icT rfl (bt (by decide)) hx) ?_
    refine ex_of (fun _ _ hx => rx_k 4 (9, [(1, .int (((0 + 1) + 1) + 1)), (0, .ref y)], [.int 5, .int (((0 + 1) + 1) + 1)]) (fun _ _ => rfl) hx) ?_
    refine ex_of (fun _ _ hx => rx_icF rfl (bf (by decide)) rfl hx) ?_
    refine ex_of (fun _ _ hx => rx_k 1 (13, [(1, .int (((0 + 1) + 1) + 1)), (0, .ref y)], [.ref y]) (fun _ _ => rfl) hx) ?_
    refine ex_of (fun _ _ hx => rx_getf rfl rfl (oc_wd hy2) rfl hx) ?_
    obtain ⟨ho3, g4⟩ := yb_object (sc := sc) g3 (by rw [n3]; decide)
    have n4 : (up u3 1 9 (u3 1 9 + 1)) 1 9 = 4 := by rw [rd_eq, n3]; decide
    have z4 : ∀ i j, 23 ≤ i → (up u3 1 9 (u3 1 9 + 1)) i j = s i j := fun i j hi => by rw [up_ne (by omega)]; exact z3 i j hi
    rw [n3] at ho3
    have en3 : up u3 1 9 (3 + 1) = up u3 1 9 (u3 1 9 + 1) := by rw [n3]
    rw [en3] at ho3
    generalize up u3 1 9 (u3 1 9 + 1) = u4 at *
    refine ex_of (fun _ _ hx => rx_inv rfl rfl ho3 rfl rfl rfl (q_recv (wg_0 hP2)) rfl rfl hx) ?_
    refine ex_of (fun _ _ hx => rx_k 1 (20, [(1, .int (((0 + 1) + 1) + 1)), (0, .ref y)], [.int (((0 + 1) + 1) + 1), .int 3]) (fun _ _ => rfl) hx) ?_
    refine ex_of (fun _ _ hx => rx_icT rfl (bt (by decide)) hx) ?_
    refine ex_of (fun _ _ hx => rx_k 4 (9, [(1, .int ((((0 + 1) + 1) + 1) + 1)), (0, .ref y)], [.int 5, .int ((((0 + 1) + 1) + 1) + 1)]) (fun _ _ => rfl) hx) ?_
    refine ex_of (fun _ _ hx => rx_icF rfl (bf (by decide)) rfl hx) ?_
    refine ex_of (fun _ _ hx => rx_k 1 (13, [(1, .int ((((0 + 1) + 1) + 1) + 1)), (0, .ref y)], [.ref y]) (fun _ _ => rfl) hx) ?_
    refine ex_of (fun _ _ hx => rx_getf rfl rfl (oc_wd hy2) rfl hx) ?_
    obtain ⟨ho4, g5⟩ := yb_object (sc := sc) g4 (by rw [n4]; decide)
    have n5 : (up u4 1 9 (u4 1 9 + 1)) 1 9 = 5 := by rw [rd_eq, n4]; decide
    have z5 : ∀ i j, 23 ≤ i → (up u4 1 9 (u4 1 9 + 1)) i j = s i j := fun i j hi => by rw [up_ne (by omega)]; exact z4 i j hi
    rw [n4] at ho4
    have en4 : up u4 1 9 (4 + 1) = up u4 1 9 (u4 1 9 + 1) := by rw [n4]
    rw [en4] at ho4
    generalize up u4 1 9 (u4 1 9 + 1) = u5 at *
    refine ex_of (fun _ _ hx => rx_inv rfl rfl ho4 rfl rfl rfl (q_recv (wg_0 hP2)) rfl rfl hx) ?_
    refine ex_of (fun _ _ hx => rx_k 1 (20, [(1, .int ((((0 + 1) + 1) + 1) + 1)), (0, .ref y)], [.int ((((0 + 1) + 1) + 1) + 1), .int 4]) (fun _ _ => rfl) hx) ?_
    refine ex_of (fun _ _ hx => rx_icT rfl (bt (by decide)) hx) ?_
    refine ex_of (fun _ _ hx => rx_k 4 (9, [(1, .int (((((0 + 1) + 1) + 1) + 1) + 1)), (0, .ref y)], [.int 5, .int (((((0 + 1) + 1) + 1) + 1) + 1)]) (fun _ _ => rfl) hx) ?_
    refine ex_of (fun _ _ hx => rx_icT rfl (bt (by decide)) hx) ?_
    refine ex_of (fun _ _ hx => rx_k 2 (33, [(1, .int 0), (0, .ref y)], []) (fun _ _ => rfl) hx) ?_
    exact found_loop hL (by omega) (by omega) 8 0 (by omega) G u5 k1 k2 m 0 0 g5 (by omega) (by omega) (by omega) (Nat.le_refl _) (Nat.le_refl _) z5
  obtain ⟨o, h', hx, rfl, H', s', j1, j2, rfl, r1, r2, r3, r4⟩ := main
  exact ⟨H', s', j1, j2, rx_mc hx rfl rfl (Nat.ble_eq_true_of_le r2) (Nat.ble_eq_true_of_le r3), r1, r2, r3, r4⟩
end Y8
