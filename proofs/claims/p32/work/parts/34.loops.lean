/-! the law's loops -/
section L5S
variable {sc : Nat × (Nat → Int32)} {b y : Nat}
theorem three_d : ∀ x : Nat, x < 3 → ¬ 3 ≤ Int32.ofInt (x : Int) ∧ Int32.ofInt (x : Int) + 1 = Int32.ofInt ((x + 1 : Nat) : Int) ∧ 0 ≤ ((31 : Int32) * Int32.ofInt (x : Int) + 7).toInt ∧ ((31 : Int32) * Int32.ofInt (x : Int) + 7).toInt ≤ 200 := by decide
set_option maxRecDepth 20000 in
theorem law_inner (hL : sc.1 ≤ 260) {tm : Int32} {P : Option Value → EH → Prop} {M : Nat} (hM : M ≤ 60000) (cont : ∀ (w' wl' : Nat) (H' : List EC) (s' : Sg) (j1 j2 : Nat) (c' : Int) (e' : Nat), Yb b y w' wl' H' s' j1 j2 M c' e' 5 5 → Ex sc g_law 10 (606, [(0, .float 0), (1, .int tm), (2, .ref y), (3, .ref b), (4, .int (Int32.ofInt ((3 : Nat) : Int)))], []) (wd b w' wl' H' s', j1, j2) P) : ∀ (n x : Nat), x + n = 3 → ∀ (w wl : Nat) (H : List EC) (s : Sg) (k1 k2 m : Nat) (c : Int) (e : Nat), Yb b y w wl H s k1 k2 m c e 5 5 → m + 700 * n ≤ M → c + 27 * n ≤ 371 → e + n ≤ 40 → Ex sc g_law 10 (40, [(0, .float 0), (1, .int tm), (2, .ref y), (3, .ref b), (4, .int (Int32.ofInt (x : Int)))], []) (wd b w wl H s, k1, k2) P := by
  intro n
  induction n with
  | zero =>
    intro x hx w wl H s k1 k2 m c e h hm hc he
    have ex : x = 3 := by omega
    subst ex
    refine ex_of (fun _ _ hx => rx_k 2 (43, [(0, .float 0), (1, .int tm), (2, .ref y), (3, .ref b), (4, .int (Int32.ofInt ((3 : Nat) : Int)))], [.int 3, .int (Int32.ofInt ((3 : Nat) : Int))]) (fun _ _ => rfl) hx) ?_
    refine ex_of (fun _ _ hx => rx_icT rfl (bt (by decide)) hx) ?_
    exact cont w wl H s k1 k2 c e (h.le (by omega) (Int.le_refl _) (Nat.le_refl _))
  | succ n ih =>
    intro x hx w wl H s k1 k2 m c e h hm hc he
    obtain ⟨d1, d2, _, _⟩ := three_d x (by omega)
    obtain ⟨H1, s1, j1, q1, r1, h1, _, _, _⟩ := y_piece (sc := sc) hL (by omega) h
    obtain ⟨H2, s2, j2, q2, r2, h2, _, _, _⟩ := y_define (sc := sc) hL (by omega) (by omega) h1
    obtain ⟨H3, s3, j3, q3, r3, h3, _, _, _⟩ := y_row (sc := sc) hL (by omega) h2
    obtain ⟨_, _, _, _, _, _, _, _, _, hy0, _⟩ := h.ya
    obtain ⟨_, _, _, _, _, _, _, _, _, hy1, _⟩ := h1.ya
    obtain ⟨_, _, _, _, _, _, _, _, _, hy2, _⟩ := h2.ya
    refine ex_of (fun _ _ hx => rx_k 2 (43, [(0, .float 0), (1, .int tm), (2, .ref y), (3, .ref b), (4, .int (Int32.ofInt (x : Int)))], [.int 3, .int (Int32.ofInt (x : Int))]) (fun _ _ => rfl) hx) ?_
    refine ex_of (fun _ _ hx => rx_icF rfl (bf d1) rfl hx) ?_
    refine ex_of (fun _ _ hx => rx_k 1 (47, [(0, .float 0), (1, .int tm), (2, .ref y), (3, .ref b), (4, .int (Int32.ofInt (x : Int)))], [.ref y]) (fun _ _ => rfl) hx) ?_
    refine ex_of (fun _ _ hx => rx_inv rfl rfl r1 rfl rfl rfl (q_recv (oc_wd hy0)) rfl rfl hx) ?_
    refine ex_of (fun _ _ hx => rx_ifF rfl (bf (by decide)) rfl hx) ?_
    refine ex_of (fun _ _ hx => rx_k 1 (54, [(0, .float 0), (1, .int tm), (2, .ref y), (3, .ref b), (4, .int (Int32.ofInt (x : Int)))], [.ref y]) (fun _ _ => rfl) hx) ?_
    refine ex_of (fun _ _ hx => rx_inv rfl rfl r2 rfl rfl rfl (q_recv (oc_wd hy1)) rfl rfl hx) ?_
    refine ex_of (fun _ _ hx => rx_ifF rfl (bf (by decide)) rfl hx) ?_
    refine ex_of (fun _ _ hx => rx_k 1 (61, [(0, .float 0), (1, .int tm), (2, .ref y), (3, .ref b), (4, .int (Int32.ofInt (x : Int)))], [.ref y]) (fun _ _ => rfl) hx) ?_
    refine ex_of (fun _ _ hx => rx_inv rfl rfl r3 rfl rfl rfl (q_recv (oc_wd hy2)) rfl rfl hx) ?_
    refine ex_of (fun _ _ hx => rx_ifT rfl (nt (by decide)) hx) ?_
    refine seg_a hL (by omega) h3 (fun a i u1 wl1 N w4 wl4 H4 s4 j4 q4 f0 f1 f2 f3 f4 f5 f6 f7 f8 => ?_)
    refine seg_b f0 f1 f2 f3 f4 f5 f6 (fun H5 j5 q5 aw g1 g2 g3 => ?_)
    refine seg_c hL (by omega) f0 g1 (fun w6 wl6 H6 s6 j6 q6 g4 g5 g6 => ?_)
    refine seg_d f0 g4 (fun w7 wl7 H7 s7 j7 q7 g7 g8 g9 => ?_)
    refine seg_e f0 (by omega) g7 (fun w8 wl8 H8 v8 s8 j8 q8 k1' k2' k3' k4' k5' k6' => ?_)
    refine seg_f f0 k1' k2' k3' k4' (fun w9 wl9 H9 s9 j9 q9 z1 z2 z3 => ?_)
    refine ex_of (fun _ _ hx => rx_k 2 (40, [(4, .int ((Int32.ofInt (x : Int)) + 1)), (0, .float 0), (1, .int tm), (2, .ref y), (3, .ref b)], []) (fun _ _ => rfl) hx) ?_
    refine ex_of (fun _ _ hx => rx_lo am_law (lo := [(0, .float 0), (1, .int tm), (2, .ref y), (3, .ref b), (4, .int ((Int32.ofInt (x : Int)) + 1))]) (List.forall_mem_cons.mpr ⟨List.mem_of_getElem? (i := 1) rfl, (List.forall_mem_cons.mpr ⟨List.mem_of_getElem? (i := 2) rfl, (List.forall_mem_cons.mpr ⟨List.mem_of_getElem? (i := 3) rfl, (List.forall_mem_cons.mpr ⟨List.mem_of_getElem? (i := 4) rfl, (List.forall_mem_cons.mpr ⟨List.mem_of_getElem? (i := 0) rfl, (fun _ h => absurd h List.not_mem_nil)⟩)⟩)⟩)⟩)⟩) rfl hx) ?_
    rw [d2]
    exact ih (x + 1) (by omega) w9 wl9 H9 s9 j9 q9 _ _ _ z1 (by omega) (by omega) (by omega)
theorem y_make2 {h : List EC} {dd : Int32} {k1 k2 m : Nat} (hd0 : 0 ≤ dd.toInt) (hd1 : dd.toInt ≤ m) (hk1 : k1 + 200 ≤ m) (hk2 : k2 + 7000 ≤ 100 * m) : ∃ (b w : Nat) (H : List EC) (j1 j2 : Nat), Rc sc 5 199 [.ref h.length, .float 0, .int dd] (h ++ [(.inr 12, [.null, .null, .int 0, .int 0, .null, .null, .null, .null, .int 0, .int 0, .null, .null, .null, .null, .null, .null, .null, .null, .int 0, .int 0, .null, .int 0, .null, .null])], k1, k2) none (wd b w 64 H s00, j1, j2) ∧ Yb b h.length w 64 H s00 j1 j2 m 0 0 0 0 := by
  obtain ⟨H, j1, j2, hc, hY, _, _⟩ := y_make (sc := sc) (h := h) (n := h.length) rfl hd0 hd1 hk1 hk2
  exact ⟨_, _, H, j1, j2, hc, hY⟩
def Lp (o : Option Value) (h' : EH) : Prop := o = some (.int 1) ∧ h'.2.1 ≤ 60000 ∧ h'.2.2 ≤ 6000000
set_option maxRecDepth 20000 in
theorem law_outer (hL : sc.1 ≤ 260) : ∀ (n x : Nat), x + n = 3 → ∀ (h : List EC) (k1 k2 M : Nat), k1 ≤ M → k2 ≤ 100 * M → M + 3100 * n ≤ 60000 → Ex sc g_law 10 (2, [(0, .float 0), (1, .int (Int32.ofInt (x : Int)))], []) (h, k1, k2) Lp := by
  intro n
  induction n with
  | zero =>
    intro x hx h k1 k2 M hk1 hk2 hM
    have ex : x = 3 := by omega
    subst ex
    refine ex_of (fun _ _ hx => rx_k 2 (4, [(0, .float 0), (1, .int (Int32.ofInt ((3 : Nat) : Int)))], [.int 3, .int (Int32.ofInt ((3 : Nat) : Int))]) (fun _ _ => rfl) hx) ?_
    refine ex_of (fun _ _ hx => rx_icT rfl (bt (by decide)) hx) ?_
    refine ex_of (fun _ _ hx => rx_k 1 (613, [(0, .float 0), (1, .int (Int32.ofInt ((3 : Nat) : Int)))], [.int 1]) (fun _ _ => rfl) hx) ?_
    exact ex_ri rfl ⟨rfl, by show k1 ≤ 60000; omega, by show k2 ≤ 6000000; omega⟩
  | succ n ih =>
    intro x hx h k1 k2 M hk1 hk2 hM
    obtain ⟨d1, d2, d3, d4⟩ := three_d x (by omega)
    obtain ⟨b, w, H, j1, j2, r1, hY⟩ := y_make2 (sc := sc) (h := h) (dd := (31 : Int32) * Int32.ofInt (x : Int) + 7) (k1 := k1 + 1) (k2 := k2 + 24) (m := M + 300) d3 (by omega) (by omega) (by omega)
    obtain ⟨dr, aS, aP, aD, aI, rest, nd, dO, dN, hy, _⟩ := hY.ya
    obtain ⟨H2, s2, x1, x2, r2, h2, _, _, _⟩ := y_found (sc := sc) hL (by omega) hY rfl
    refine ex_of (fun _ _ hx => rx_k 2 (4, [(0, .float 0), (1, .int (Int32.ofInt (x : Int)))], [.int 3, .int (Int32.ofInt (x : Int))]) (fun _ _ => rfl) hx) ?_
    refine ex_of (fun _ _ hx => rx_icF rfl (bf d1) rfl hx) ?_
    refine ex_of (fun _ _ hx => rx_new (a := h.length) (h1 := (h ++ [(.inr 12, [.null, .null, .int 0, .int 0, .null, .null, .null, .null, .int 0, .int 0, .null, .null, .null, .null, .null, .null, .null, .null, .int 0, .int 0, .null, .int 0, .null, .null])], k1 + 1, k2 + 24)) rfl rfl rfl rfl hx) ?_
    refine ex_of (fun _ _ hx => rx_k 7 (19, [(0, .float 0), (1, .int (Int32.ofInt (x : Int)))], [.int ((31 * (Int32.ofInt (x : Int))) + 7), .float 0, .ref h.length, .ref h.length]) (fun _ _ => rfl) hx) ?_
    refine ex_of (fun _ _ hx => rx_inv rfl rfl r1 rfl rfl rfl (q_recv (ap_get0 rfl rfl)) rfl rfl hx) ?_
    refine ex_of (fun _ _ hx => rx_k 2 (24, [(2, .ref h.length), (0, .float 0), (1, .int (Int32.ofInt (x : Int)))], [.ref h.length]) (fun _ _ => rfl) hx) ?_
    refine ex_of (fun _ _ hx => rx_getf rfl rfl (oc_wd hy) rfl hx) ?_
    refine ex_of (fun _ _ hx => rx_k 2 (29, [(3, .ref b), (2, .ref h.length), (0, .float 0), (1, .int (Int32.ofInt (x : Int)))], [.ref h.length]) (fun _ _ => rfl) hx) ?_
    refine ex_of (fun _ _ hx => rx_inv rfl rfl r2 rfl rfl rfl (q_recv (oc_wd hy)) rfl rfl hx) ?_
    refine ex_of (fun _ _ hx => rx_ifT rfl (nt (by decide)) hx) ?_
    refine ex_of (fun _ _ hx => rx_k 2 (40, [(4, .int 0), (3, .ref b), (2, .ref h.length), (0, .float 0), (1, .int (Int32.ofInt (x : Int)))], []) (fun _ _ => rfl) hx) ?_
    refine ex_of (fun _ _ hx => rx_lo am_law (lo := [(0, .float 0), (1, .int (Int32.ofInt (x : Int))), (2, .ref h.length), (3, .ref b), (4, .int (Int32.ofInt ((0 : Nat) : Int)))]) (List.forall_mem_cons.mpr ⟨List.mem_of_getElem? (i := 3) rfl, (List.forall_mem_cons.mpr ⟨List.mem_of_getElem? (i := 4) rfl, (List.forall_mem_cons.mpr ⟨List.mem_of_getElem? (i := 2) rfl, (List.forall_mem_cons.mpr ⟨List.mem_of_getElem? (i := 1) rfl, (List.forall_mem_cons.mpr ⟨List.mem_of_getElem? (i := 0) rfl, (fun _ h => absurd h List.not_mem_nil)⟩)⟩)⟩)⟩)⟩) rfl hx) ?_
    refine law_inner hL (M := M + 3100) (by omega) (fun w' wl' H' s' i1 i2 c' e' hY' => ?_) 3 0 (by omega) w 64 H2 s2 x1 x2 _ _ _ h2 (by omega) (by omega) (by omega)
    refine ex_of (fun _ _ hx => rx_k 2 (2, [(1, .int ((Int32.ofInt (x : Int)) + 1)), (0, .float 0), (2, .ref h.length), (3, .ref b), (4, .int (Int32.ofInt ((3 : Nat) : Int)))], []) (fun _ _ => rfl) hx) ?_
    refine ex_of (fun _ _ hx => rx_lo am_law (lo := [(0, .float 0), (1, .int ((Int32.ofInt (x : Int)) + 1))]) (List.forall_mem_cons.mpr ⟨List.mem_of_getElem? (i := 1) rfl, (List.forall_mem_cons.mpr ⟨List.mem_of_getElem? (i := 0) rfl, (fun _ h => absurd h List.not_mem_nil)⟩)⟩) rfl hx) ?_
    rw [d2]
    exact ih (x + 1) (by omega) _ i1 i2 (M + 3100) hY'.b1 hY'.b2 (by omega)
theorem law_run (hL : sc.1 ≤ 260) : ∃ hs' : EH, Rx sc g_law 10 (0, [(0, .float 0)], []) ([], 0, 0) (some (.int 1)) hs' ∧ hs'.2.1 ≤ 600104 ∧ hs'.2.2 ≤ 7301314 := by
  have main : Ex sc g_law 10 (0, [(0, .float 0)], []) ([], 0, 0) Lp := by
    refine ex_of (fun _ _ hx => rx_k 2 (2, [(1, .int 0), (0, .float 0)], []) (fun _ _ => rfl) hx) ?_
    refine ex_of (fun _ _ hx => rx_lo am_law (lo := [(0, .float 0), (1, .int (Int32.ofInt ((0 : Nat) : Int)))]) (List.forall_mem_cons.mpr ⟨List.mem_of_getElem? (i := 1) rfl, (List.forall_mem_cons.mpr ⟨List.mem_of_getElem? (i := 0) rfl, (fun _ h => absurd h List.not_mem_nil)⟩)⟩) rfl hx) ?_
    exact law_outer hL 3 0 (by omega) [] 0 0 0 (Nat.le_refl _) (Nat.le_refl _) (by omega)
  obtain ⟨o, h', hx, rfl, r1, r2⟩ := main
  exact ⟨h', hx, by omega, by omega⟩
end L5S
