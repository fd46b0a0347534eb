/-! the law's step: a link, twice; its words kept -/
section L1S
variable {sc : Nat × (Nat → Int32)} {b y w wl : Nat} {H : List EC} {s s0 s1 : Sg} {k1 k2 m : Nat} {c : Int} {e : Nat} {a i : Int32} {wl1 N aw : Nat} {tm st : Int32} {P : Option Value → EH → Prop}
theorem seg_a (hL : sc.1 ≤ 260) (hm : m ≤ 70000) (h : Yb b y w wl H s k1 k2 m c e 5 5) (cont : ∀ (a i : Int32) (s1 : Sg) (wl1 N w' wl' : Nat) (H' : List EC) (s' : Sg) (j1 j2 : Nat), Zf s s1 a i wl1 N → Yb b y w' wl' H' s' j1 j2 (m + 130) c e 5 5 → Tb s s' → 0 ≤ (D_X3_countLongs 38 s').toInt → (D_X3_size 38 s').toInt = N → N ≤ wl' → (∀ j, j < N → s' 37 j = s1 37 j) → k1 ≤ j1 → k2 ≤ j2 → Ex sc g_law 10 (133, [(0, .float 0), (1, .int tm), (2, .ref y), (3, .ref b), (4, .int st), (5, .int a), (6, .int i), (7, .int (D_X0_count 38 s1))], []) (wd b w' wl' H' s', j1, j2) P) : Ex sc g_law 10 (69, [(0, .float 0), (1, .int tm), (2, .ref y), (3, .ref b), (4, .int st)], []) (wd b w wl H s, k1, k2) P := by
  obtain ⟨dr, aS, aP, aD, aI, rest, nd, dO, dN, hy, h0, h1, hnd, hDC, hA⟩ := h.ya
  have hP := h.ok
  have b1 := h.b1; have b2 := h.b2
  refine ex_of (fun _ _ hx => rx_k 2 (72, [(0, .float 0), (1, .int tm), (2, .ref y), (3, .ref b), (4, .int st)], [.int 8, .ref y]) (fun _ _ => rfl) hx) ?_
  obtain ⟨a, G1, d1, a0, a1, hd1, hP1, hy1, ed1, hA1, hx1⟩ := yd (sc := sc) (wl := wl) (s := s) (k1 := k1) (k2 := k2) hL hP hy hA (by omega) (by omega) (n := 8) (by decide)
  have a1 : a.toInt < 8 := a1
  refine ex_of (fun _ _ hx => rx_inv rfl rfl hd1 rfl rfl rfl (q_recv (oc_wd hy)) rfl rfl hx) ?_
  refine ex_of (fun _ _ hx => rx_k 3 (79, [(5, .int a), (0, .float 0), (1, .int tm), (2, .ref y), (3, .ref b), (4, .int st)], [.int 2, .ref y]) (fun _ _ => rfl) hx) ?_
  obtain ⟨v, G2, d2, v0, v1, hd2, hP2, hy2, ed2, hA2, hx2⟩ := yd (sc := sc) (wl := wl) (s := s) (k1 := k1) (k2 := k2) hL hP1 hy1 hA1 (by omega) (by omega) (n := 2) (by decide)
  have v1 : v.toInt < 2 := v1
  refine ex_of (fun _ _ hx => rx_inv rfl rfl hd2 rfl rfl rfl (q_recv (oc_wd hy1)) rfl rfl hx) ?_
  have g2 : Yb b y w wl G2 s k1 k2 (m + 2) c e 5 5 := ⟨hP2, h.w1, h.nn, by omega, by omega, h.ti, h.lib, h.lc, h.rl, h.o5, d2, aS, aP, aD, aI, rest, nd, dO, dN, hy2, by omega, by omega, hnd, hDC, hA2⟩
  have hk : ∃ kv : Int32, bz kv = true ∧ ((v = 0 ∧ kv = 1) ∨ (¬ v = 0 ∧ kv = 0)) := by
    by_cases c1 : v = 0
    · exact ⟨1, rfl, Or.inl ⟨c1, rfl⟩⟩
    · exact ⟨0, rfl, Or.inr ⟨c1, rfl⟩⟩
  obtain ⟨i, hi, hk⟩ := hk
  have hj : ∀ P, Ex sc g_law 10 (90, [(5, .int a), (0, .float 0), (1, .int tm), (2, .ref y), (3, .ref b), (4, .int st)], [.int i]) (wd b w wl G2 s, k1, k2) P → Ex sc g_law 10 (82, [(5, .int a), (0, .float 0), (1, .int tm), (2, .ref y), (3, .ref b), (4, .int st)], [.int v]) (wd b w wl G2 s, k1, k2) P := fun P hx => by
    rcases hk with ⟨c1, rfl⟩ | ⟨c1, rfl⟩
    · refine ex_of (fun _ _ hx => rx_ifF rfl (nf c1) rfl hx) ?_
      refine ex_of (fun _ _ hx => rx_k 2 (90, [(5, .int a), (0, .float 0), (1, .int tm), (2, .ref y), (3, .ref b), (4, .int st)], [.int 1]) (fun _ _ => rfl) hx) ?_
      exact hx
    · refine ex_of (fun _ _ hx => rx_ifT rfl (nt c1) hx) ?_
      refine ex_of (fun _ _ hx => rx_k 1 (90, [(5, .int a), (0, .float 0), (1, .int tm), (2, .ref y), (3, .ref b), (4, .int st)], [.int 0]) (fun _ _ => rfl) hx) ?_
      exact hx
  refine hj _ ?_
  have ra : rg a 8 := ⟨a0, a1⟩
  have ra2 : rg a 20 := ⟨a0, by omega⟩
  obtain ⟨w1, wl1, H1, s1, j1, q1, e1, e2, e3, e4, e5, e6⟩ := y_link (sc := sc) g2 ra2 hi
  refine ex_of (fun _ _ hx => rx_k 4 (97, [(6, .int i), (5, .int a), (0, .float 0), (1, .int tm), (2, .ref y), (3, .ref b), (4, .int st)], [.int i, .int a, .ref b]) (fun _ _ => rfl) hx) ?_
  refine ex_of (fun _ _ hx => rx_inv rfl rfl e1 rfl rfl rfl (q_recv (wg_0 g2.ok)) rfl rfl hx) ?_
  obtain ⟨f1, f2⟩ := y_dig (sc := sc) e2 e3.done
  refine ex_of (fun _ _ hx => rx_k 2 (103, [(7, .int (D_X0_count 38 s1)), (6, .int i), (5, .int a), (0, .float 0), (1, .int tm), (2, .ref y), (3, .ref b), (4, .int st)], [.ref b]) (fun _ _ => rfl) hx) ?_
  refine ex_of (fun _ _ hx => rx_inv rfl rfl f1 rfl rfl rfl (q_recv (wg_0 e2.ok)) rfl rfl hx) ?_
  obtain ⟨w2, wl2, H2, s2, j2, q2, p1, p2, p3, p4, p5, p6⟩ := y_link (sc := sc) f2 ra2 hi
  have dv : Dv s1 s2 := dv_link (t := (D_X11_digest wl1 s1).2) (fun k j x1 x2 x3 x4 => (fr_dig (by omega) x4 x2).trans (e3.lo (Or.inl x1))) h.ti.tb h.lib e3 p3
  rw [dv_count dv] at p1
  refine ex_of (fun _ _ hx => rx_k 4 (113, [(8, .long ((D_X11_digest wl1 s1).1)), (7, .int (D_X0_count 38 s1)), (6, .int i), (5, .int a), (0, .float 0), (1, .int tm), (2, .ref y), (3, .ref b), (4, .int st)], [.int i, .int a, .ref b]) (fun _ _ => rfl) hx) ?_
  refine ex_of (fun _ _ hx => rx_inv rfl rfl p1 rfl rfl rfl (q_recv (wg_0 f2.ok)) rfl rfl hx) ?_
  refine ex_of (fun _ _ hx => rx_k 1 (118, [(8, .long ((D_X11_digest wl1 s1).1)), (7, .int (D_X0_count 38 s1)), (6, .int i), (5, .int a), (0, .float 0), (1, .int tm), (2, .ref y), (3, .ref b), (4, .int st)], [.int (D_X0_count 38 s1), .int (D_X0_count 38 s1)]) (fun _ _ => rfl) hx) ?_
  refine ex_of (fun _ _ hx => rx_icF rfl (nf rfl) rfl hx) ?_
  obtain ⟨r1, r2⟩ := y_dig (sc := sc) p2 p3.done
  have es : D_X3_size 38 s2 = D_X3_size 38 s1 := dv_size dv
  have hsz := e3.size h.ti
  have l1 := e3.2.1
  have l2 := p3.2.1
  have w1b := e2.w1; have w2b := p2.w1
  have hdig : (D_X11_digest wl2 s2).1 = (D_X11_digest wl1 s1).1 := dv_dig dv (by omega) (by omega) l1 (by rw [← es]; exact l2)
  rw [hdig] at r1
  refine ex_of (fun _ _ hx => rx_k 1 (122, [(8, .long ((D_X11_digest wl1 s1).1)), (7, .int (D_X0_count 38 s1)), (6, .int i), (5, .int a), (0, .float 0), (1, .int tm), (2, .ref y), (3, .ref b), (4, .int st)], [.ref b]) (fun _ _ => rfl) hx) ?_
  refine ex_of (fun _ _ hx => rx_inv rfl rfl r1 rfl rfl rfl (q_recv (wg_0 p2.ok)) rfl rfl hx) ?_
  refine ex_of (fun _ _ hx => rx_k 1 (127, [(8, .long ((D_X11_digest wl1 s1).1)), (7, .int (D_X0_count 38 s1)), (6, .int i), (5, .int a), (0, .float 0), (1, .int tm), (2, .ref y), (3, .ref b), (4, .int st)], [.long ((D_X11_digest wl1 s1).1), .long ((D_X11_digest wl1 s1).1)]) (fun _ _ => rfl) hx) ?_
  refine ex_of (fun _ _ hx => rx_k 1 (128, [(8, .long ((D_X11_digest wl1 s1).1)), (7, .int (D_X0_count 38 s1)), (6, .int i), (5, .int a), (0, .float 0), (1, .int tm), (2, .ref y), (3, .ref b), (4, .int st)], [.int (lg_cmp ((D_X11_digest wl1 s1).1) ((D_X11_digest wl1 s1).1))]) (fun _ _ => rfl) hx) ?_
  refine ex_of (fun _ _ hx => rx_ifT rfl (bt lg_self) hx) ?_
  refine ex_of (fun _ _ hx => rx_lo am_law (lo := [(0, .float 0), (1, .int tm), (2, .ref y), (3, .ref b), (4, .int st), (5, .int a), (6, .int i), (7, .int (D_X0_count 38 s1))]) (List.forall_mem_cons.mpr ⟨List.mem_of_getElem? (i := 4) rfl, (List.forall_mem_cons.mpr ⟨List.mem_of_getElem? (i := 5) rfl, (List.forall_mem_cons.mpr ⟨List.mem_of_getElem? (i := 6) rfl, (List.forall_mem_cons.mpr ⟨List.mem_of_getElem? (i := 7) rfl, (List.forall_mem_cons.mpr ⟨List.mem_of_getElem? (i := 8) rfl, (List.forall_mem_cons.mpr ⟨List.mem_of_getElem? (i := 3) rfl, (List.forall_mem_cons.mpr ⟨List.mem_of_getElem? (i := 2) rfl, (List.forall_mem_cons.mpr ⟨List.mem_of_getElem? (i := 1) rfl, (fun _ h => absurd h List.not_mem_nil)⟩)⟩)⟩)⟩)⟩)⟩)⟩)⟩) rfl hx) ?_
  have ed : D_X3_size 38 (D_X11_digest wl2 s2).2 = D_X3_size 38 s1 := by
    rw [← es]; exact fr_dig (by decide) (by decide) (by decide)
  refine cont a i s1 wl1 (D_X3_size 38 s1).toInt.toNat w2 wl2 H2 (D_X11_digest wl2 s2).2 j2 q2 ⟨e3, by omega, h.rl, ra, hi, by omega, by omega⟩ (r2.le (by omega) (Int.le_refl _) (Nat.le_refl _)) ?_ ?_ (by rw [ed]; omega) (by rw [es] at l2; omega) ?_ (by omega) (by omega)
  · exact h.ti.tb.of (fun _ _ _ => rfl) (fun k j hk => (fr_dig (by omega) (by omega) (by omega)).trans ((p3.lo (Or.inl (by omega))).trans ((fr_dig (by omega) (by omega) (by omega)).trans (e3.lo (Or.inl (by omega))))))
  · rw [cl_cg2 (s := s2) (fun k j x1 x2 => fr_dig x2 (by omega) (by omega))]; exact p3.longs f2.ti
  · intro j hj
    rw [fr_dig (by decide) (Or.inl (by decide)) (by decide)]
    exact dv.wo j (by omega)
theorem fill_w (hP : WOK b w H) (hW : wl ≤ 6000) (h1 : N ≤ wl) (hs : (D_X3_size 38 s).toInt = N) {G : Nat → Int32} (hG : ∀ j, j < N → s 37 j = G j) (cont : Ex sc g_law 10 (171, [(0, .float 0), (1, .int tm), (2, .ref y), (3, .ref b), (4, .int st), (5, .int a), (6, .int i), (7, .int (D_X0_count 38 s1)), (10, .ref H.length)], []) (wd b w wl (H ++ [(.inl 0, ar N G)]) s, k1, k2) P) : ∀ (n x : Nat), x + n = N → ∀ g : Nat → Int32, (∀ j, j < x → g j = G j) → Ex sc g_law 10 (146, [(0, .float 0), (1, .int tm), (2, .ref y), (3, .ref b), (4, .int st), (5, .int a), (6, .int i), (7, .int (D_X0_count 38 s1)), (10, .ref H.length), (11, .int (Int32.ofInt (x : Int)))], []) (wd b w wl (H ++ [(.inl 0, ar N g)]) s, k1, k2) P := by
  intro n
  induction n with
  | zero =>
    intro x hx g hg
    have ex : x = N := by omega
    subst ex
    have eg : ar x g = ar x G := by
      unfold ar
      exact List.map_congr_left (fun j hj => by rw [hg j (List.mem_range.mp hj)])
    rw [eg]
    refine ex_of (fun _ _ hx => rx_k 2 (150, [(0, .float 0), (1, .int tm), (2, .ref y), (3, .ref b), (4, .int st), (5, .int a), (6, .int i), (7, .int (D_X0_count 38 s1)), (10, .ref H.length), (11, .int (Int32.ofInt (x : Int)))], [.ref H.length, .int (Int32.ofInt (x : Int))]) (fun _ _ => rfl) hx) ?_
    refine ex_of (fun _ _ hx => rx_alen rfl rfl (oc_wd (oc_top hP)) rfl len_ar hx) ?_
    refine ex_of (fun _ _ hx => rx_icT rfl (bt (Int32.le_refl _)) hx) ?_
    refine ex_of (fun _ _ hx => rx_lo am_law (lo := [(0, .float 0), (1, .int tm), (2, .ref y), (3, .ref b), (4, .int st), (5, .int a), (6, .int i), (7, .int (D_X0_count 38 s1)), (10, .ref H.length)]) (List.forall_mem_cons.mpr ⟨List.mem_of_getElem? (i := 0) rfl, (List.forall_mem_cons.mpr ⟨List.mem_of_getElem? (i := 1) rfl, (List.forall_mem_cons.mpr ⟨List.mem_of_getElem? (i := 2) rfl, (List.forall_mem_cons.mpr ⟨List.mem_of_getElem? (i := 3) rfl, (List.forall_mem_cons.mpr ⟨List.mem_of_getElem? (i := 4) rfl, (List.forall_mem_cons.mpr ⟨List.mem_of_getElem? (i := 5) rfl, (List.forall_mem_cons.mpr ⟨List.mem_of_getElem? (i := 6) rfl, (List.forall_mem_cons.mpr ⟨List.mem_of_getElem? (i := 7) rfl, (List.forall_mem_cons.mpr ⟨List.mem_of_getElem? (i := 8) rfl, (fun _ h => absurd h List.not_mem_nil)⟩)⟩)⟩)⟩)⟩)⟩)⟩)⟩)⟩) rfl hx) ?_
    exact cont
  | succ n ih =>
    intro x hx g hg
    have hi1 := ind_d x (by omega)
    have hN1 := ind_d N (by omega)
    have hw := z_word (sc := sc) (k1 := k1) (k2 := k2) (H := H ++ [(.inl 0, ar N g)]) (wok_push hP) hW (by rw [hs]; omega) (x := Int32.ofInt (x : Int)) (by rw [hi1.1]; omega) (by rw [hi1.1, hs]; omega)
    rw [hi1.1, Int.toNat_natCast] at hw
    have hset : ((wd b w wl (H ++ [((.inl 0, ar N g) : EC)]) s).set H.length (.inl 0, (ar N g).set (Int32.ofInt (x : Int)).toNatClampNeg (.int (s 37 x))), k1, k2) = (wd b w wl (H ++ [(.inl 0, ar N (upf g x (s 37 x)))]) s, k1, k2) := by
      rw [wd_top hP, hi1.2, ar_set (by omega)]
    refine ex_of (fun _ _ hx => rx_k 2 (150, [(0, .float 0), (1, .int tm), (2, .ref y), (3, .ref b), (4, .int st), (5, .int a), (6, .int i), (7, .int (D_X0_count 38 s1)), (10, .ref H.length), (11, .int (Int32.ofInt (x : Int)))], [.ref H.length, .int (Int32.ofInt (x : Int))]) (fun _ _ => rfl) hx) ?_
    refine ex_of (fun _ _ hx => rx_alen rfl rfl (oc_wd (oc_top hP)) rfl len_ar hx) ?_
    refine ex_of (fun _ _ hx => rx_icF rfl (bf (by rw [Int32.le_iff_toInt_le, hi1.1, hN1.1]; omega)) rfl hx) ?_
    refine ex_of (fun _ _ hx => rx_k 4 (161, [(0, .float 0), (1, .int tm), (2, .ref y), (3, .ref b), (4, .int st), (5, .int a), (6, .int i), (7, .int (D_X0_count 38 s1)), (10, .ref H.length), (11, .int (Int32.ofInt (x : Int)))], [.int (Int32.ofInt (x : Int)), .ref b, .int (Int32.ofInt (x : Int)), .ref H.length]) (fun _ _ => rfl) hx) ?_
    refine ex_of (fun _ _ hx => rx_inv rfl rfl hw rfl rfl rfl (q_recv (wg_0 (wok_push hP))) rfl rfl hx) ?_
    refine ex_of (fun _ _ hx => rx_ist rfl rfl (oc_wd (oc_top hP)) rfl (ar_at ⟨by rw [hi1.1]; omega, by rw [hi1.1]; omega⟩) hset hx) ?_
    refine ex_of (fun _ _ hx => rx_k 2 (146, [(11, .int ((Int32.ofInt (x : Int)) + 1)), (0, .float 0), (1, .int tm), (2, .ref y), (3, .ref b), (4, .int st), (5, .int a), (6, .int i), (7, .int (D_X0_count 38 s1)), (10, .ref H.length)], []) (fun _ _ => rfl) hx) ?_
    refine ex_of (fun _ _ hx => rx_lo am_law (lo := [(0, .float 0), (1, .int tm), (2, .ref y), (3, .ref b), (4, .int st), (5, .int a), (6, .int i), (7, .int (D_X0_count 38 s1)), (10, .ref H.length), (11, .int ((Int32.ofInt (x : Int)) + 1))]) (List.forall_mem_cons.mpr ⟨List.mem_of_getElem? (i := 1) rfl, (List.forall_mem_cons.mpr ⟨List.mem_of_getElem? (i := 2) rfl, (List.forall_mem_cons.mpr ⟨List.mem_of_getElem? (i := 3) rfl, (List.forall_mem_cons.mpr ⟨List.mem_of_getElem? (i := 4) rfl, (List.forall_mem_cons.mpr ⟨List.mem_of_getElem? (i := 5) rfl, (List.forall_mem_cons.mpr ⟨List.mem_of_getElem? (i := 6) rfl, (List.forall_mem_cons.mpr ⟨List.mem_of_getElem? (i := 7) rfl, (List.forall_mem_cons.mpr ⟨List.mem_of_getElem? (i := 8) rfl, (List.forall_mem_cons.mpr ⟨List.mem_of_getElem? (i := 9) rfl, (List.forall_mem_cons.mpr ⟨List.mem_of_getElem? (i := 0) rfl, (fun _ h => absurd h List.not_mem_nil)⟩)⟩)⟩)⟩)⟩)⟩)⟩)⟩)⟩)⟩) rfl hx) ?_
    rw [ind_s (n := x) (by omega)]
    exact ih (x + 1) (by omega) (upf g x (s 37 x)) (fun j hj => by
      by_cases q : j = x
      · subst q; rw [upf_eq]; exact hG j (by omega)
      · rw [upf_ne q]; exact hg j (by omega))
theorem seg_b (hf : Zf s0 s1 a i wl1 N) (h : Yb b y w wl H s k1 k2 m c e 5 5) (hT : Tb s0 s) (hl : 0 ≤ (D_X3_countLongs 38 s).toInt) (hs : (D_X3_size 38 s).toInt = N) (h1 : N ≤ wl) (hG : ∀ j, j < N → s 37 j = s1 37 j) (cont : ∀ (H' : List EC) (j1 j2 aw : Nat), Zw b y w wl H' s j1 j2 (m + 31) c e s0 s1 N aw → k1 ≤ j1 → k2 ≤ j2 → Ex sc g_law 10 (171, [(0, .float 0), (1, .int tm), (2, .ref y), (3, .ref b), (4, .int st), (5, .int a), (6, .int i), (7, .int (D_X0_count 38 s1)), (10, .ref aw)], []) (wd b w wl H' s, j1, j2) P) : Ex sc g_law 10 (133, [(0, .float 0), (1, .int tm), (2, .ref y), (3, .ref b), (4, .int st), (5, .int a), (6, .int i), (7, .int (D_X0_count 38 s1))], []) (wd b w wl H s, k1, k2) P := by
  have hP := h.ok
  have b1 := h.b1; have b2 := h.b2
  have hn := hf.2.2.2.2.2
  have hnew : ((wd b w wl H s) ++ [((.inl 0, List.replicate (D_X3_size 38 s).toNatClampNeg (ev_dv 0)) : EC)], k1 + 1, k2 + (D_X3_size 38 s).toNatClampNeg) = (wd b w wl (H ++ [(.inl 0, ar N (fun _ => 0))]) s, k1 + 1, k2 + N) := by
    rw [tn, hs, Int.toNat_natCast, wd_push hP, ar_0]; rfl
  refine ex_of (fun _ _ hx => rx_k 2 (136, [(0, .float 0), (1, .int tm), (2, .ref y), (3, .ref b), (4, .int st), (5, .int a), (6, .int i), (7, .int (D_X0_count 38 s1))], [.int 9, .ref b]) (fun _ _ => rfl) hx) ?_
  refine ex_of (fun _ _ hx => rx_inv rfl rfl (z_many hP h.nn mt_9 md_9) rfl rfl rfl (q_recv (wg_0 hP)) rfl rfl hx) ?_
  refine ex_of (fun _ _ hx => rx_newa (a := H.length) (h1 := (wd b w wl (H ++ [(.inl 0, ar N (fun _ => 0))]) s, k1 + 1, k2 + N)) rfl rfl (by rw [Int32.lt_iff_toInt_lt, hs, show (0 : Int32).toInt = 0 from rfl]; omega) (Nat.ble_eq_true_of_le (by rw [tn, hs, Int.toNat_natCast]; omega)) hnew wd_len hx) ?_
  refine ex_of (fun _ _ hx => rx_k 3 (146, [(11, .int 0), (10, .ref H.length), (0, .float 0), (1, .int tm), (2, .ref y), (3, .ref b), (4, .int st), (5, .int a), (6, .int i), (7, .int (D_X0_count 38 s1))], []) (fun _ _ => rfl) hx) ?_
  refine ex_of (fun _ _ hx => rx_lo am_law (lo := [(0, .float 0), (1, .int tm), (2, .ref y), (3, .ref b), (4, .int st), (5, .int a), (6, .int i), (7, .int (D_X0_count 38 s1)), (10, .ref H.length), (11, .int (Int32.ofInt ((0 : Nat) : Int)))]) (List.forall_mem_cons.mpr ⟨List.mem_of_getElem? (i := 2) rfl, (List.forall_mem_cons.mpr ⟨List.mem_of_getElem? (i := 3) rfl, (List.forall_mem_cons.mpr ⟨List.mem_of_getElem? (i := 4) rfl, (List.forall_mem_cons.mpr ⟨List.mem_of_getElem? (i := 5) rfl, (List.forall_mem_cons.mpr ⟨List.mem_of_getElem? (i := 6) rfl, (List.forall_mem_cons.mpr ⟨List.mem_of_getElem? (i := 7) rfl, (List.forall_mem_cons.mpr ⟨List.mem_of_getElem? (i := 8) rfl, (List.forall_mem_cons.mpr ⟨List.mem_of_getElem? (i := 9) rfl, (List.forall_mem_cons.mpr ⟨List.mem_of_getElem? (i := 1) rfl, (List.forall_mem_cons.mpr ⟨List.mem_of_getElem? (i := 0) rfl, (fun _ h => absurd h List.not_mem_nil)⟩)⟩)⟩)⟩)⟩)⟩)⟩)⟩)⟩)⟩) rfl hx) ?_
  exact fill_w hP h.w1 h1 hs hG (cont (H ++ [((.inl 0, ar N (s1 37)) : EC)]) (k1 + 1) (k2 + N) H.length ⟨yb_mv h (wok_push hP) h.w1 (fun x c ho hc => by exact oc_push (d := ((.inl 0, ar N (s1 37)) : EC)) (show Oc b w H x c from ⟨ho, hc⟩)) (by omega) (by omega) (by omega), hT, oc_top hP, hl⟩ (by omega) (by omega)) N 0 (by omega) (fun _ => 0) (fun j hj => absurd hj (Nat.not_lt_zero j))
end L1S
