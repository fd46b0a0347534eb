/-! the law's step: a library, opened and closed twice -/
section L4S
variable {sc : Nat × (Nat → Int32)} {b y w wl : Nat} {H : List EC} {s s0 s1 : Sg} {k1 k2 m : Nat} {c : Int} {e : Nat} {a i : Int32} {wl1 N aw : Nat} {l tm st : Int32} {P : Option Value → EH → Prop}
def Lf (t t' : Sg) : Prop := ∀ k j, k < 60 → k < 29 ∨ 36 ≤ k → (k ≠ 23 ∨ (j ≠ 12 ∧ j ≠ 14 ∧ j ≠ 15)) → t' k j = t k j
theorem Lf.tr {t t' t'' : Sg} (h1 : Lf t t') (h2 : Lf t' t'') : Lf t t'' := fun k j a b c => (h2 k j a b c).trans (h1 k j a b c)
theorem Lf.cn {t t' : Sg} (h : Lf t t') : t' 23 13 = t 23 13 := h _ _ (by decide) (by decide) (by decide)
theorem z_lib {t : Sg} {x z : Int32} (hP : WOK b w H) (hN : NN t) (hT : T_X11_ofLibrary t l x = true) (hz : D_X11_ofLibrary t l x = z) : Rc sc 3 179 [.ref b, .int l, .int x] (wd b w wl H t, k1, k2) (some (.int z)) (wd b w wl H t, k1, k2) := by
  rw [← hz]; exact rc_X11_ofLibrary hP hN hT
theorem lib_0 {t : Sg} (hh : ¬ D_X4_has t l = 0) : T_X11_ofLibrary t l 0 = true ∧ D_X11_ofLibrary t l 0 = t 24 l.toNatClampNeg := by
  unfold T_X11_ofLibrary D_X11_ofLibrary D_X4_size
  rw [if_neg hh, if_neg hh, if_neg hh]
  exact ⟨rfl, rfl⟩
theorem lib_5 {t : Sg} (hh : ¬ D_X4_has t l = 0) : T_X11_ofLibrary t l 5 = true ∧ D_X11_ofLibrary t l 5 = t 30 l.toNatClampNeg := by
  unfold T_X11_ofLibrary D_X11_ofLibrary D_X4_base
  rw [if_neg hh, if_neg hh, if_neg hh]
  exact ⟨rfl, rfl⟩
theorem lib_4 {t : Sg} (hh : ¬ D_X4_has t l = 0) : T_X11_ofLibrary t l 4 = true ∧ D_X11_ofLibrary t l 4 = D_X4_opened t l := by
  unfold T_X11_ofLibrary D_X11_ofLibrary
  rw [if_neg hh, if_neg hh]
  exact ⟨rfl, rfl⟩
theorem fw_open {t : Sg} : Lf t (D_X4_openOne t l 0).2 := fun k j a b c => fw_X4_openOne (by omega) (by omega) (by omega) (by omega) (by omega) (by omega) (by omega) (by omega) (by omega)
theorem fw_close {t : Sg} : Lf t (D_X4_closeOne t l).2 := fun k j a b c => fw_X4_closeOne (by omega) (by omega) (by omega) (by omega) (by omega) (by omega) (by omega) (by omega) (by omega)
theorem z_open {t : Sg} {z : Int32} (hP : WOK b w H) (hN : NN t) (hh : ¬ D_X4_has t l = 0) (hz : (D_X4_openOne t l 0).1 = z) : Rc sc 6 176 [.ref b, .int l, .int 0] (wd b w wl H t, k1, k2) (some (.int z)) (wd b w wl H (D_X4_openOne t l 0).2, k1, k2) ∧ NN (D_X4_openOne t l 0).2 := by
  have hT : T_X11_open t l 0 = true := by unfold T_X11_open; rw [if_neg hh]
  have hD : D_X11_open t l 0 = ((D_X4_openOne t l 0).1, (D_X4_openOne t l 0).2) := by unfold D_X11_open; rw [if_neg hh]
  have hc := rc_X11_open (sc := sc) (wl := wl) (kn := (k1, k2)) hP hN (by decide) hT
  have hn := nn_X11_open (a1 := l) (a2 := 0) hN
  rw [hD] at hc hn
  rw [← hz]
  exact ⟨hc, hn⟩
theorem z_close {t : Sg} {z : Int32} (hP : WOK b w H) (hN : NN t) (hh : ¬ D_X4_has t l = 0) (ho : ¬ D_X4_opened t l = 0) (hz : (D_X4_closeOne t l).1 = z) : Rc sc 7 177 [.ref b, .int l] (wd b w wl H t, k1, k2) (some (.int z)) (wd b w wl H (D_X4_closeOne t l).2, k1, k2) ∧ NN (D_X4_closeOne t l).2 := by
  have hT : T_X11_close t l = true := by unfold T_X11_close; rw [if_neg hh, if_neg ho]
  have hD : D_X11_close t l = ((D_X4_closeOne t l).1, (D_X4_closeOne t l).2) := by unfold D_X11_close; rw [if_neg hh, if_neg ho]
  have hc := rc_X11_close (sc := sc) (wl := wl) (kn := (k1, k2)) hP hN hT
  have hn := nn_X11_close (a1 := l) hN
  rw [hD] at hc hn
  rw [← hz]
  exact ⟨hc, hn⟩
theorem z_goes {t : Sg} {z : Int32} (hP : WOK b w H) (hN : NN t) (hh : ¬ D_X4_has t l = 0) (ho : ¬ D_X4_opened t l = 0) (hz : (D_X4_leavingBy t l).1 = z) : Rc sc 6 183 [.ref b, .int l] (wd b w wl H t, k1, k2) (some (.int z)) (wd b w wl H (D_X4_leavingBy t l).2, k1, k2) ∧ NN (D_X4_leavingBy t l).2 := by
  have hT : T_X11_goes t l = true := by unfold T_X11_goes; rw [if_neg hh, if_neg ho]
  have hD : D_X11_goes t l = ((D_X4_leavingBy t l).1, (D_X4_leavingBy t l).2) := by unfold D_X11_goes; rw [if_neg hh, if_neg ho]
  have hc := rc_X11_goes (sc := sc) (wl := wl) (kn := (k1, k2)) hP hN hT
  have hn := nn_X11_goes (a1 := l) hN
  rw [hD] at hc hn
  rw [← hz]
  exact ⟨hc, hn⟩
/-- twice opened, gone and closed: what each call answers -/
theorem lib_walk {v : Sg} (hP : WOK b w H) (hN : NN v) (hL : L0 v) (h0 : 0 ≤ l.toInt) (h1 : l.toInt < (v 23 13).toInt) : ∃ p1 p2 p3 p4 p5 : Sg,
    Rc sc 6 176 [.ref b, .int l, .int 0] (wd b w wl H v, k1, k2) (some (.int 1)) (wd b w wl H p1, k1, k2) ∧
    Rc sc 3 179 [.ref b, .int l, .int 5] (wd b w wl H p1, k1, k2) (some (.int 64)) (wd b w wl H p1, k1, k2) ∧
    Rc sc 6 176 [.ref b, .int l, .int 0] (wd b w wl H p1, k1, k2) (some (.int 0)) (wd b w wl H p2, k1, k2) ∧
    Rc sc 3 179 [.ref b, .int l, .int 4] (wd b w wl H p2, k1, k2) (some (.int 2)) (wd b w wl H p2, k1, k2) ∧
    Rc sc 6 180 [.ref b, .int 4] (wd b w wl H p2, k1, k2) (some (.int 1)) (wd b w wl H p2, k1, k2) ∧
    Rc sc 7 177 [.ref b, .int l] (wd b w wl H p2, k1, k2) (some (.int 0)) (wd b w wl H p3, k1, k2) ∧
    Rc sc 6 183 [.ref b, .int l] (wd b w wl H p3, k1, k2) (some (.int ((1 : Int32) <<< (l &&& 31)))) (wd b w wl H p4, k1, k2) ∧
    Rc sc 7 177 [.ref b, .int l] (wd b w wl H p4, k1, k2) (some (.int 1)) (wd b w wl H p5, k1, k2) ∧
    NN p5 ∧ L0 p5 ∧ Lf v p5 := by
  have h6 := hL.1
  have hh0 := has4 (s := v) h0 h1 h6
  have e0 : (0 : Int) ≤ l.toInt := h0
  obtain ⟨a1, a2⟩ := open_1 hL h0 h1
  have f1 : Lf v (D_X4_openOne v l 0).2 := fw_open
  obtain ⟨r1, n1⟩ := z_open (sc := sc) (wl := wl) (k1 := k1) (k2 := k2) hP hN hh0 a1
  generalize (D_X4_openOne v l 0).2 = p1 at *
  have c1 : l.toInt < (p1 23 13).toInt := by rw [f1.cn]; exact h1
  have hh1 := has4 (s := p1) h0 c1 a2.1
  have b1 : p1 30 l.toNatClampNeg = 64 := by rw [a2.2.2.2.2.2.2.1, if_pos rfl]
  have r2 := z_lib (sc := sc) (wl := wl) (k1 := k1) (k2 := k2) hP n1 (lib_5 hh1).1 ((lib_5 hh1).2.trans b1)
  obtain ⟨a3, a4⟩ := open_2 a2 h0 c1
  have f2 : Lf p1 (D_X4_openOne p1 l 0).2 := fw_open
  obtain ⟨r3, n2⟩ := z_open (sc := sc) (wl := wl) (k1 := k1) (k2 := k2) hP n1 hh1 a3
  generalize (D_X4_openOne p1 l 0).2 = p2 at *
  have c2 : l.toInt < (p2 23 13).toInt := by rw [f2.cn]; exact c1
  have hh2 := has4 (s := p2) h0 c2 a4.1
  have op2 : D_X4_opened p2 l = 2 := (opened_1 a4 h0 c2 h0).1 rfl
  have r4 := z_lib (sc := sc) (wl := wl) (k1 := k1) (k2 := k2) hP n2 (lib_4 hh2).1 ((lib_4 hh2).2.trans op2)
  have cl2 : D_X4_countLoaded p2 = 1 := by
    unfold D_X4_countLoaded
    rw [loaded_1 a4 h0 c2]
    exact (bits6 ⟨h0, by have := a4.1; omega⟩).1
  have r5 := z_many (sc := sc) (wl := wl) (k1 := k1) (k2 := k2) hP n2 mt_4 (md_4.trans cl2)
  obtain ⟨a5, a6⟩ := close_2 a4 h0 c2
  have f3 : Lf p2 (D_X4_closeOne p2 l).2 := fw_close
  obtain ⟨r6, n3⟩ := z_close (sc := sc) (wl := wl) (k1 := k1) (k2 := k2) hP n2 hh2 (by rw [op2]; decide) a5
  generalize (D_X4_closeOne p2 l).2 = p3 at *
  have c3 : l.toInt < (p3 23 13).toInt := by rw [f3.cn]; exact c2
  have hh3 := has4 (s := p3) h0 c3 a6.1
  have op3 : D_X4_opened p3 l = 1 := (opened_1 a6 h0 c3 h0).1 rfl
  obtain ⟨a7, a8⟩ := leave_at a6 (Or.inl rfl) h0 c3
  rw [if_pos rfl] at a7
  obtain ⟨r7, n4⟩ := z_goes (sc := sc) (wl := wl) (k1 := k1) (k2 := k2) hP n3 hh3 (by rw [op3]; decide) a7
  generalize (D_X4_leavingBy p3 l).2 = p4 at *
  have a9 : L1 l 1 p4 := a6.of a8
  have f4 : Lf p3 p4 := fun k j q1 q2 q3 => a8 k j (by omega) (by omega)
  have c4 : l.toInt < (p4 23 13).toInt := by rw [f4.cn]; exact c3
  have hh4 := has4 (s := p4) h0 c4 a9.1
  have op4 : D_X4_opened p4 l = 1 := (opened_1 a9 h0 c4 h0).1 rfl
  obtain ⟨a10, a11⟩ := close_1 a9 h0 c4
  have f5 : Lf p4 (D_X4_closeOne p4 l).2 := fw_close
  obtain ⟨r8, n5⟩ := z_close (sc := sc) (wl := wl) (k1 := k1) (k2 := k2) hP n4 hh4 (by rw [op4]; decide) a10
  exact ⟨p1, p2, p3, p4, _, r1, r2, r3, r4, r5, r6, r7, r8, n5, a11, f1.tr (f2.tr (f3.tr (f4.tr f5)))⟩
theorem seg_f (hf : Zf s0 s1 a i wl1 N) {u : Sg} (h : Zw b y w wl H s k1 k2 m c e s0 s1 N aw) (hK : LK u a i s wl) (hct : D_X0_count 38 s = D_X0_count 38 s1) (hsz : D_X3_size 38 s = D_X3_size 38 s1) (cont : ∀ (w' wl' : Nat) (H' : List EC) (s' : Sg) (j1 j2 : Nat), Yb b y w' wl' H' s' j1 j2 (m + 60) c e 5 5 → k1 ≤ j1 → k2 ≤ j2 → Ex sc g_law 10 (600, [(0, .float 0), (1, .int tm), (2, .ref y), (3, .ref b), (4, .int st)], []) (wd b w' wl' H' s', j1, j2) P) : Ex sc g_law 10 (424, [(0, .float 0), (1, .int tm), (2, .ref y), (3, .ref b), (4, .int st), (5, .int a), (6, .int i), (7, .int (D_X0_count 38 s1)), (10, .ref aw)], []) (wd b w wl H s, k1, k2) P := by
  obtain ⟨hY, hT, hW, hl⟩ := id h
  have hP := hY.ok
  have stay := hY.le (m' := m + 60) (by omega) (Int.le_refl _) (Nat.le_refl _)
  by_cases c0 : i = 0
  · refine ex_of (fun _ _ hx => rx_k 1 (426, [(0, .float 0), (1, .int tm), (2, .ref y), (3, .ref b), (4, .int st), (5, .int a), (6, .int i), (7, .int (D_X0_count 38 s1)), (10, .ref aw)], [.int i]) (fun _ _ => rfl) hx) ?_
    refine ex_of (fun _ _ hx => rx_ifT rfl (bt c0) hx) ?_
    refine ex_of (fun _ _ hx => rx_lo am_law (lo := [(0, .float 0), (1, .int tm), (2, .ref y), (3, .ref b), (4, .int st)]) (List.forall_mem_cons.mpr ⟨List.mem_of_getElem? (i := 0) rfl, (List.forall_mem_cons.mpr ⟨List.mem_of_getElem? (i := 1) rfl, (List.forall_mem_cons.mpr ⟨List.mem_of_getElem? (i := 2) rfl, (List.forall_mem_cons.mpr ⟨List.mem_of_getElem? (i := 3) rfl, (List.forall_mem_cons.mpr ⟨List.mem_of_getElem? (i := 4) rfl, (fun _ h => absurd h List.not_mem_nil)⟩)⟩)⟩)⟩)⟩) rfl hx) ?_
    exact cont w wl H s k1 k2 stay (Nat.le_refl _) (Nat.le_refl _)
  · refine ex_of (fun _ _ hx => rx_k 1 (426, [(0, .float 0), (1, .int tm), (2, .ref y), (3, .ref b), (4, .int st), (5, .int a), (6, .int i), (7, .int (D_X0_count 38 s1)), (10, .ref aw)], [.int i]) (fun _ _ => rfl) hx) ?_
    refine ex_of (fun _ _ hx => rx_ifF rfl (bf c0) rfl hx) ?_
    refine ex_of (fun _ _ hx => rx_k 1 (431, [(0, .float 0), (1, .int tm), (2, .ref y), (3, .ref b), (4, .int st), (5, .int a), (6, .int i), (7, .int (D_X0_count 38 s1)), (10, .ref aw)], [.int (D_X0_count 38 s1)]) (fun _ _ => rfl) hx) ?_
    by_cases c1 : 0 < D_X0_count 38 s1
    · refine ex_of (fun _ _ hx => rx_ifT rfl (bt c1) hx) ?_
      refine ex_of (fun _ _ hx => rx_lo am_law (lo := [(0, .float 0), (1, .int tm), (2, .ref y), (3, .ref b), (4, .int st)]) (List.forall_mem_cons.mpr ⟨List.mem_of_getElem? (i := 0) rfl, (List.forall_mem_cons.mpr ⟨List.mem_of_getElem? (i := 1) rfl, (List.forall_mem_cons.mpr ⟨List.mem_of_getElem? (i := 2) rfl, (List.forall_mem_cons.mpr ⟨List.mem_of_getElem? (i := 3) rfl, (List.forall_mem_cons.mpr ⟨List.mem_of_getElem? (i := 4) rfl, (fun _ h => absurd h List.not_mem_nil)⟩)⟩)⟩)⟩)⟩) rfl hx) ?_
      exact cont w wl H s k1 k2 stay (Nat.le_refl _) (Nat.le_refl _)
    · refine ex_of (fun _ _ hx => rx_ifF rfl (bf c1) rfl hx) ?_
      refine ex_of (fun _ _ hx => rx_k 2 (436, [(0, .float 0), (1, .int tm), (2, .ref y), (3, .ref b), (4, .int st), (5, .int a), (6, .int i), (7, .int (D_X0_count 38 s1)), (10, .ref aw)], [.int 3, .ref b]) (fun _ _ => rfl) hx) ?_
      refine ex_of (fun _ _ hx => rx_inv rfl rfl (z_many hP hY.nn mt_3 md_3) rfl rfl rfl (q_recv (wg_0 hP)) rfl rfl hx) ?_
      refine ex_of (fun _ _ hx => rx_k 1 (441, [(0, .float 0), (1, .int tm), (2, .ref y), (3, .ref b), (4, .int st), (5, .int a), (6, .int i), (7, .int (D_X0_count 38 s1)), (10, .ref aw)], [.int 6, .int (s 23 13)]) (fun _ _ => rfl) hx) ?_
      by_cases c2 : s 23 13 = 6
      · refine ex_of (fun _ _ hx => rx_icF rfl (nf c2) rfl hx) ?_
        refine ex_of (fun _ _ hx => rx_k 1 (600, [(0, .float 0), (1, .int tm), (2, .ref y), (3, .ref b), (4, .int st), (5, .int a), (6, .int i), (7, .int (D_X0_count 38 s1)), (10, .ref aw)], []) (fun _ _ => rfl) hx) ?_
        refine ex_of (fun _ _ hx => rx_lo am_law (lo := [(0, .float 0), (1, .int tm), (2, .ref y), (3, .ref b), (4, .int st)]) (List.forall_mem_cons.mpr ⟨List.mem_of_getElem? (i := 0) rfl, (List.forall_mem_cons.mpr ⟨List.mem_of_getElem? (i := 1) rfl, (List.forall_mem_cons.mpr ⟨List.mem_of_getElem? (i := 2) rfl, (List.forall_mem_cons.mpr ⟨List.mem_of_getElem? (i := 3) rfl, (List.forall_mem_cons.mpr ⟨List.mem_of_getElem? (i := 4) rfl, (fun _ h => absurd h List.not_mem_nil)⟩)⟩)⟩)⟩)⟩) rfl hx) ?_
        exact cont w wl H s k1 k2 stay (Nat.le_refl _) (Nat.le_refl _)
      · refine ex_of (fun _ _ hx => rx_icT rfl (nt c2) hx) ?_
        have hi1 : i = 1 := by
          have hb := hf.2.2.2.2.1
          unfold bz at hb
          rcases Bool.or_eq_true_iff.mp hb with q | q
          · exact absurd (of_decide_eq_true q) c0
          · exact of_decide_eq_true q
        have hc0 : D_X0_count 38 s ≤ 0 := by rw [hct]; exact Int32.not_lt.mp c1
        obtain ⟨tP, dP, lP, cP, l6, szP, fP⟩ := pub_at hY.lib hY.lc c2 hK.done (by rw [hK.q7, hi1]; decide) hc0
        have rP := rc_X11_publish (sc := sc) (wl := wl) (kn := (k1, k2)) hP hY.nn tP
        have nP := nn_X11_publish (a1 := 0) hY.nn
        rw [dP] at rP
        rw [hsz] at szP
        have l0 := hY.lc
        have il : (s 23 13 + 1).toInt = (s 23 13).toInt + 1 := i_add1 (by omega)
        generalize (D_X11_publish s 0).2 = u1 at *
        generalize s 23 13 = l at *
        have g1 : Yb b y w wl H u1 k1 k2 m c e 5 5 := yb_st hY nP lP (by rw [cP, il]; omega) (fun k j hk => fP k j (Or.inl hk))
        have q1 : l.toInt < (u1 23 13).toInt := by rw [cP, il]; omega
        have hh1 := has4 (s := u1) l0 q1 lP.1
        have rL := z_lib (sc := sc) (wl := wl) (k1 := k1) (k2 := k2) hP nP (lib_0 hh1).1 ((lib_0 hh1).2.trans szP)
        have ia : (a + 1).toInt = a.toInt + 1 := i_add1 (by have := hf.2.2.2.1.2; omega)
        have ra := rem_at (x := a + 1) (n := 8) (by have := hf.2.2.2.1.1; omega) (by decide)
        have h8 : (8 : Int32).toInt = 8 := rfl
        rw [h8] at ra
        refine ex_of (fun _ _ hx => rx_k 2 (449, [(0, .float 0), (1, .int tm), (2, .ref y), (3, .ref b), (4, .int st), (5, .int a), (6, .int i), (7, .int (D_X0_count 38 s1)), (10, .ref aw)], [.int 0, .ref b]) (fun _ _ => rfl) hx) ?_
        refine ex_of (fun _ _ hx => rx_inv rfl rfl rP rfl rfl rfl (q_recv (wg_0 hP)) rfl rfl hx) ?_
        refine ex_of (fun _ _ hx => rx_k 4 (458, [(13, .int l), (0, .float 0), (1, .int tm), (2, .ref y), (3, .ref b), (4, .int st), (5, .int a), (6, .int i), (7, .int (D_X0_count 38 s1)), (10, .ref aw)], [.int 0, .int l, .ref b]) (fun _ _ => rfl) hx) ?_
        refine ex_of (fun _ _ hx => rx_inv rfl rfl rL rfl rfl rfl (q_recv (wg_0 hP)) rfl rfl hx) ?_
        refine ex_of (fun _ _ hx => rx_k 6 (470, [(14, .int (D_X3_size 38 s1)), (13, .int l), (0, .float 0), (1, .int tm), (2, .ref y), (3, .ref b), (4, .int st), (5, .int a), (6, .int i), (7, .int (D_X0_count 38 s1)), (10, .ref aw)], [.int 8, .int (a + 1), .ref b]) (fun _ _ => rfl) hx) ?_
        refine ex_of (fun _ _ hx => rx_iiN rfl rfl (by decide) rfl hx) ?_
        generalize (a + 1) - (a + 1) / 8 * 8 = a2 at *
        obtain ⟨w2, wl2, H2, v, x1, x2, r1, r2, r3, r4, r5, r6⟩ := y_link (sc := sc) g1 (a := a2) (i := 0) ⟨ra.1, by omega⟩ (by decide)
        obtain ⟨d1, d2⟩ := y_dig (sc := sc) r2 r3.done
        have hW2 := oc_link r6 hW
        have hn := hf.2.2.2.2.2
        have eN : D_X3_size 38 s1 = Int32.ofInt (N : Int) := Int32.toInt_inj.mp (by rw [hf.2.1, (ind_d N (by omega)).1])
        have v13 : v 23 13 = l + 1 := (r3.lo (by decide)).trans cP
        have v24 : v 24 l.toNatClampNeg = D_X3_size 38 s1 := (r3.lo (by decide)).trans szP
        have y13 : (D_X11_digest wl2 v).2 23 13 = l + 1 := (fr_dig (by decide) (by decide) (by decide)).trans v13
        have y24 : (D_X11_digest wl2 v).2 24 l.toNatClampNeg = D_X3_size 38 s1 := (fr_dig (by decide) (Or.inl (by decide)) (by decide)).trans v24
        have fv : ∀ k j, k < 60 → k < 29 ∨ 36 ≤ k → (k ≠ 23 ∨ (j ≠ 12 ∧ j ≠ 14 ∧ j ≠ 15)) → (D_X11_digest wl2 v).2 k j = v k j := fun k j q1 q2 q3 => fr_dig q1 (by omega) (by omega)
        refine ex_of (fun _ _ hx => rx_k 1 (472, [(14, .int (D_X3_size 38 s1)), (13, .int l), (0, .float 0), (1, .int tm), (2, .ref y), (3, .ref b), (4, .int st), (5, .int a), (6, .int i), (7, .int (D_X0_count 38 s1)), (10, .ref aw)], [.int 0, .int a2, .ref b]) (fun _ _ => rfl) hx) ?_
        refine ex_of (fun _ _ hx => rx_inv rfl rfl r1 rfl rfl rfl (q_recv (wg_0 hP)) rfl rfl hx) ?_
        refine ex_of (fun _ _ hx => rx_k 2 (477, [(14, .int (D_X3_size 38 s1)), (13, .int l), (0, .float 0), (1, .int tm), (2, .ref y), (3, .ref b), (4, .int st), (5, .int a), (6, .int i), (7, .int (D_X0_count 38 s1)), (10, .ref aw)], [.ref b]) (fun _ _ => rfl) hx) ?_
        refine ex_of (fun _ _ hx => rx_inv rfl rfl d1 rfl rfl rfl (q_recv (wg_0 r2.ok)) rfl rfl hx) ?_
        have q2 : l.toInt < ((D_X11_digest wl2 v).2 23 13).toInt := by rw [y13, il]; omega
        have hh2 := has4 (s := (D_X11_digest wl2 v).2) l0 q2 d2.lib.1
        have rL2 := z_lib (sc := sc) (wl := wl2) (k1 := x1) (k2 := x2) d2.ok d2.nn (lib_0 hh2).1 ((lib_0 hh2).2.trans y24)
        obtain ⟨p1, p2, p3, p4, p5, o1, o2, o3, o4, o5, o6, o7, o8, nn5, ll5, f5⟩ := lib_walk (sc := sc) (wl := wl2) (k1 := x1) (k2 := x2) d2.ok d2.nn d2.lib l0 q2
        have fv5 : Lf v p5 := Lf.tr fv f5
        have dvv : Dv v v := dv_link (fun _ _ _ _ _ _ => rfl) g1.ti.tb g1.lib r3 r3
        have dv5 : Dv v p5 := dv_back dvv r2.lib ll5 fv5
        have g5 : Yb b y w2 wl2 H2 p5 x1 x2 (m + 60) c e 5 5 := yb_st r2 nn5 ll5 (by rw [fv5.cn]; exact r2.lc) (fun k j hk => fv5 k j (by omega) (by omega) (by omega))
        obtain ⟨e1, e2⟩ := y_dig (sc := sc) g5 (by rw [fv5 _ _ (by decide) (by decide) (by decide)]; exact r3.done)
        have w2b := r2.w1
        have hdig : (D_X11_digest wl2 p5).1 = (D_X11_digest wl2 v).1 := dv_dig dv5 (by omega) (by omega) r3.2.1 r3.2.1
        rw [hdig] at e1
        refine ex_of (fun _ _ hx => rx_k 3 (486, [(15, .long ((D_X11_digest wl2 v).1)), (14, .int (D_X3_size 38 s1)), (13, .int l), (0, .float 0), (1, .int tm), (2, .ref y), (3, .ref b), (4, .int st), (5, .int a), (6, .int i), (7, .int (D_X0_count 38 s1)), (10, .ref aw)], [.ref aw, .int (D_X3_size 38 s1)]) (fun _ _ => rfl) hx) ?_
        refine ex_of (fun _ _ hx => rx_alen rfl rfl (oc_wd hW2) rfl len_ar hx) ?_
        refine ex_of (fun _ _ hx => rx_icF rfl (nf eN) rfl hx) ?_
        refine ex_of (fun _ _ hx => rx_k 3 (494, [(15, .long ((D_X11_digest wl2 v).1)), (14, .int (D_X3_size 38 s1)), (13, .int l), (0, .float 0), (1, .int tm), (2, .ref y), (3, .ref b), (4, .int st), (5, .int a), (6, .int i), (7, .int (D_X0_count 38 s1)), (10, .ref aw)], [.int 0, .int l, .ref b]) (fun _ _ => rfl) hx) ?_
        refine ex_of (fun _ _ hx => rx_inv rfl rfl rL2 rfl rfl rfl (q_recv (wg_0 d2.ok)) rfl rfl hx) ?_
        refine ex_of (fun _ _ hx => rx_k 1 (499, [(15, .long ((D_X11_digest wl2 v).1)), (14, .int (D_X3_size 38 s1)), (13, .int l), (0, .float 0), (1, .int tm), (2, .ref y), (3, .ref b), (4, .int st), (5, .int a), (6, .int i), (7, .int (D_X0_count 38 s1)), (10, .ref aw)], [.int (D_X3_size 38 s1), .int (D_X3_size 38 s1)]) (fun _ _ => rfl) hx) ?_
        refine ex_of (fun _ _ hx => rx_icF rfl (nf rfl) rfl hx) ?_
        refine ex_of (fun _ _ hx => rx_k 3 (506, [(15, .long ((D_X11_digest wl2 v).1)), (14, .int (D_X3_size 38 s1)), (13, .int l), (0, .float 0), (1, .int tm), (2, .ref y), (3, .ref b), (4, .int st), (5, .int a), (6, .int i), (7, .int (D_X0_count 38 s1)), (10, .ref aw)], [.int 0, .int l, .ref b]) (fun _ _ => rfl) hx) ?_
        refine ex_of (fun _ _ hx => rx_inv rfl rfl o1 rfl rfl rfl (q_recv (wg_0 d2.ok)) rfl rfl hx) ?_
        refine ex_of (fun _ _ hx => rx_k 1 (510, [(15, .long ((D_X11_digest wl2 v).1)), (14, .int (D_X3_size 38 s1)), (13, .int l), (0, .float 0), (1, .int tm), (2, .ref y), (3, .ref b), (4, .int st), (5, .int a), (6, .int i), (7, .int (D_X0_count 38 s1)), (10, .ref aw)], [.int 1, .int 1]) (fun _ _ => rfl) hx) ?_
        refine ex_of (fun _ _ hx => rx_icF rfl (nf rfl) rfl hx) ?_
        refine ex_of (fun _ _ hx => rx_k 3 (517, [(15, .long ((D_X11_digest wl2 v).1)), (14, .int (D_X3_size 38 s1)), (13, .int l), (0, .float 0), (1, .int tm), (2, .ref y), (3, .ref b), (4, .int st), (5, .int a), (6, .int i), (7, .int (D_X0_count 38 s1)), (10, .ref aw)], [.int 5, .int l, .ref b]) (fun _ _ => rfl) hx) ?_
        refine ex_of (fun _ _ hx => rx_inv rfl rfl o2 rfl rfl rfl (q_recv (wg_0 d2.ok)) rfl rfl hx) ?_
        refine ex_of (fun _ _ hx => rx_k 1 (522, [(15, .long ((D_X11_digest wl2 v).1)), (14, .int (D_X3_size 38 s1)), (13, .int l), (0, .float 0), (1, .int tm), (2, .ref y), (3, .ref b), (4, .int st), (5, .int a), (6, .int i), (7, .int (D_X0_count 38 s1)), (10, .ref aw)], [.int 64, .int 64]) (fun _ _ => rfl) hx) ?_
        refine ex_of (fun _ _ hx => rx_iiN rfl rfl (by decide) (show (64 : Int32) - 64 / 64 * 64 = 0 by decide) hx) ?_
        refine ex_of (fun _ _ hx => rx_ifF rfl (nf rfl) rfl hx) ?_
        refine ex_of (fun _ _ hx => rx_k 3 (530, [(15, .long ((D_X11_digest wl2 v).1)), (14, .int (D_X3_size 38 s1)), (13, .int l), (0, .float 0), (1, .int tm), (2, .ref y), (3, .ref b), (4, .int st), (5, .int a), (6, .int i), (7, .int (D_X0_count 38 s1)), (10, .ref aw)], [.int 0, .int l, .ref b]) (fun _ _ => rfl) hx) ?_
        refine ex_of (fun _ _ hx => rx_inv rfl rfl o3 rfl rfl rfl (q_recv (wg_0 d2.ok)) rfl rfl hx) ?_
        refine ex_of (fun _ _ hx => rx_ifF rfl (nf rfl) rfl hx) ?_
        refine ex_of (fun _ _ hx => rx_k 3 (540, [(15, .long ((D_X11_digest wl2 v).1)), (14, .int (D_X3_size 38 s1)), (13, .int l), (0, .float 0), (1, .int tm), (2, .ref y), (3, .ref b), (4, .int st), (5, .int a), (6, .int i), (7, .int (D_X0_count 38 s1)), (10, .ref aw)], [.int 4, .int l, .ref b]) (fun _ _ => rfl) hx) ?_
        refine ex_of (fun _ _ hx => rx_inv rfl rfl o4 rfl rfl rfl (q_recv (wg_0 d2.ok)) rfl rfl hx) ?_
        refine ex_of (fun _ _ hx => rx_k 1 (544, [(15, .long ((D_X11_digest wl2 v).1)), (14, .int (D_X3_size 38 s1)), (13, .int l), (0, .float 0), (1, .int tm), (2, .ref y), (3, .ref b), (4, .int st), (5, .int a), (6, .int i), (7, .int (D_X0_count 38 s1)), (10, .ref aw)], [.int 2, .int 2]) (fun _ _ => rfl) hx) ?_
        refine ex_of (fun _ _ hx => rx_icF rfl (nf rfl) rfl hx) ?_
        refine ex_of (fun _ _ hx => rx_k 2 (549, [(15, .long ((D_X11_digest wl2 v).1)), (14, .int (D_X3_size 38 s1)), (13, .int l), (0, .float 0), (1, .int tm), (2, .ref y), (3, .ref b), (4, .int st), (5, .int a), (6, .int i), (7, .int (D_X0_count 38 s1)), (10, .ref aw)], [.int 4, .ref b]) (fun _ _ => rfl) hx) ?_
        refine ex_of (fun _ _ hx => rx_inv rfl rfl o5 rfl rfl rfl (q_recv (wg_0 d2.ok)) rfl rfl hx) ?_
        refine ex_of (fun _ _ hx => rx_k 1 (553, [(15, .long ((D_X11_digest wl2 v).1)), (14, .int (D_X3_size 38 s1)), (13, .int l), (0, .float 0), (1, .int tm), (2, .ref y), (3, .ref b), (4, .int st), (5, .int a), (6, .int i), (7, .int (D_X0_count 38 s1)), (10, .ref aw)], [.int 1, .int 1]) (fun _ _ => rfl) hx) ?_
        refine ex_of (fun _ _ hx => rx_icF rfl (nf rfl) rfl hx) ?_
        refine ex_of (fun _ _ hx => rx_k 2 (559, [(15, .long ((D_X11_digest wl2 v).1)), (14, .int (D_X3_size 38 s1)), (13, .int l), (0, .float 0), (1, .int tm), (2, .ref y), (3, .ref b), (4, .int st), (5, .int a), (6, .int i), (7, .int (D_X0_count 38 s1)), (10, .ref aw)], [.int l, .ref b]) (fun _ _ => rfl) hx) ?_
        refine ex_of (fun _ _ hx => rx_inv rfl rfl o6 rfl rfl rfl (q_recv (wg_0 d2.ok)) rfl rfl hx) ?_
        refine ex_of (fun _ _ hx => rx_ifF rfl (nf rfl) rfl hx) ?_
        refine ex_of (fun _ _ hx => rx_k 2 (568, [(15, .long ((D_X11_digest wl2 v).1)), (14, .int (D_X3_size 38 s1)), (13, .int l), (0, .float 0), (1, .int tm), (2, .ref y), (3, .ref b), (4, .int st), (5, .int a), (6, .int i), (7, .int (D_X0_count 38 s1)), (10, .ref aw)], [.int l, .ref b]) (fun _ _ => rfl) hx) ?_
        refine ex_of (fun _ _ hx => rx_inv rfl rfl o7 rfl rfl rfl (q_recv (wg_0 d2.ok)) rfl rfl hx) ?_
        refine ex_of (fun _ _ hx => rx_k 3 (575, [(15, .long ((D_X11_digest wl2 v).1)), (14, .int (D_X3_size 38 s1)), (13, .int l), (0, .float 0), (1, .int tm), (2, .ref y), (3, .ref b), (4, .int st), (5, .int a), (6, .int i), (7, .int (D_X0_count 38 s1)), (10, .ref aw)], [.int (1 <<< (l &&& 31)), .int ((1 : Int32) <<< (l &&& 31))]) (fun _ _ => rfl) hx) ?_
        refine ex_of (fun _ _ hx => rx_icF rfl (nf rfl) rfl hx) ?_
        refine ex_of (fun _ _ hx => rx_k 2 (581, [(15, .long ((D_X11_digest wl2 v).1)), (14, .int (D_X3_size 38 s1)), (13, .int l), (0, .float 0), (1, .int tm), (2, .ref y), (3, .ref b), (4, .int st), (5, .int a), (6, .int i), (7, .int (D_X0_count 38 s1)), (10, .ref aw)], [.int l, .ref b]) (fun _ _ => rfl) hx) ?_
        refine ex_of (fun _ _ hx => rx_inv rfl rfl o8 rfl rfl rfl (q_recv (wg_0 d2.ok)) rfl rfl hx) ?_
        refine ex_of (fun _ _ hx => rx_k 1 (585, [(15, .long ((D_X11_digest wl2 v).1)), (14, .int (D_X3_size 38 s1)), (13, .int l), (0, .float 0), (1, .int tm), (2, .ref y), (3, .ref b), (4, .int st), (5, .int a), (6, .int i), (7, .int (D_X0_count 38 s1)), (10, .ref aw)], [.int 1, .int 1]) (fun _ _ => rfl) hx) ?_
        refine ex_of (fun _ _ hx => rx_icF rfl (nf rfl) rfl hx) ?_
        refine ex_of (fun _ _ hx => rx_k 1 (589, [(15, .long ((D_X11_digest wl2 v).1)), (14, .int (D_X3_size 38 s1)), (13, .int l), (0, .float 0), (1, .int tm), (2, .ref y), (3, .ref b), (4, .int st), (5, .int a), (6, .int i), (7, .int (D_X0_count 38 s1)), (10, .ref aw)], [.ref b]) (fun _ _ => rfl) hx) ?_
        refine ex_of (fun _ _ hx => rx_inv rfl rfl e1 rfl rfl rfl (q_recv (wg_0 d2.ok)) rfl rfl hx) ?_
        refine ex_of (fun _ _ hx => rx_k 1 (594, [(15, .long ((D_X11_digest wl2 v).1)), (14, .int (D_X3_size 38 s1)), (13, .int l), (0, .float 0), (1, .int tm), (2, .ref y), (3, .ref b), (4, .int st), (5, .int a), (6, .int i), (7, .int (D_X0_count 38 s1)), (10, .ref aw)], [.long ((D_X11_digest wl2 v).1), .long ((D_X11_digest wl2 v).1)]) (fun _ _ => rfl) hx) ?_
        refine ex_of (fun _ _ hx => rx_k 1 (595, [(15, .long ((D_X11_digest wl2 v).1)), (14, .int (D_X3_size 38 s1)), (13, .int l), (0, .float 0), (1, .int tm), (2, .ref y), (3, .ref b), (4, .int st), (5, .int a), (6, .int i), (7, .int (D_X0_count 38 s1)), (10, .ref aw)], [.int (lg_cmp ((D_X11_digest wl2 v).1) ((D_X11_digest wl2 v).1))]) (fun _ _ => rfl) hx) ?_
        refine ex_of (fun _ _ hx => rx_ifT rfl (bt lg_self) hx) ?_
        refine ex_of (fun _ _ hx => rx_lo am_law (lo := [(0, .float 0), (1, .int tm), (2, .ref y), (3, .ref b), (4, .int st)]) (List.forall_mem_cons.mpr ⟨List.mem_of_getElem? (i := 3) rfl, (List.forall_mem_cons.mpr ⟨List.mem_of_getElem? (i := 4) rfl, (List.forall_mem_cons.mpr ⟨List.mem_of_getElem? (i := 5) rfl, (List.forall_mem_cons.mpr ⟨List.mem_of_getElem? (i := 6) rfl, (List.forall_mem_cons.mpr ⟨List.mem_of_getElem? (i := 7) rfl, (fun _ h => absurd h List.not_mem_nil)⟩)⟩)⟩)⟩)⟩) rfl hx) ?_
        exact cont w2 wl2 H2 (D_X11_digest wl2 p5).2 x1 x2 e2 r4 r5
end L4S
