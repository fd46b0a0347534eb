/-! what the law reads of a link -/
section LF
variable {sc : Nat × (Nat → Int32)} {b w wl : Nat} {H : List EC} {s t s' t' u v : Sg} {k1 k2 : Nat} {c : Int} {a i : Int32} {wl' : Nat}
theorem run_38 {a1 a2 a3 a4 a5 : Int32} {j : Nat} : (D_X5_run 38 s a1 a2 a3 a4 a5) 38 j = (up (up (up s 38 8 a1) 38 7 a2) 38 6 1) 38 j := by
  unfold D_X5_run
  rw [fw_X5_tellFaults (by omega) (by omega), fw_X3_layOut (by omega) (by omega) (by omega) (by omega) (by omega) (by omega) (by omega) (by omega) (by omega), fw_X7_reachAll (by omega) (by omega) (by omega) (by omega) (by omega) (by omega), fw_X9_settle (by omega) (by omega) (by omega) (by omega) (by omega) (by omega) (by omega) (by omega), fw_X10_take (by omega) (by omega) (by omega) (by omega) (by omega)]
theorem LK.lo (h : LK s a i s' wl) {k j : Nat} (hk : k < 37 ∨ 60 ≤ k) : s' k j = s k j := (h.fr (by omega)).trans (fr_run (by omega))
theorem LK.q6 (h : LK s a i s' wl) : s' 38 6 = 1 := by rw [h.fr (by decide)]; unfold D_lrun; rw [run_38]; exact rd_eq
theorem LK.q7 (h : LK s a i s' wl) : s' 38 7 = i := by rw [h.fr (by decide)]; unfold D_lrun; rw [run_38, up_at, if_neg (by decide)]; exact rd_eq
theorem LK.q8 (h : LK s a i s' wl) : s' 38 8 = a := by rw [h.fr (by decide)]; unfold D_lrun; rw [run_38, up_at, if_neg (by decide), up_at, if_neg (by decide)]; exact rd_eq
theorem LK.done (h : LK s a i s' wl) : ¬ zb (s' 38 6) = 0 := by rw [h.q6]; decide
theorem LK.size (h : LK s a i s' wl) (hT : Ti c s) : 1 ≤ (D_X3_size 38 s').toInt ∧ (D_X3_size 38 s').toInt ≤ 3000 := by
  have r := run_size (q := 38) (Or.inl rfl) hT.tb hT.sz (a1 := a) (a2 := i) (a3 := s 0 7) (a4 := s 0 8) (a5 := -1)
  unfold D_X3_size at r ⊢
  rw [h.fr (by decide)]; exact r
theorem cl_cg (h : ∀ k j, k ≠ 37 → t k j = s k j) : D_X3_countLongs 38 t = D_X3_countLongs 38 s := by
  unfold D_X3_countLongs R_X3_countLongs_24
  rw [show B_X3_countLongs_4 38 t = B_X3_countLongs_4 38 s from funext fun x2 => funext fun x1 => by
    unfold B_X3_countLongs_4 D_X3_longsOf
    rw [hs_eq (q := 38) (s := s) (t := t) (h _ _ (by decide)), h _ _ (by decide)]]
theorem LK.longs (h : LK s a i s' wl) (hT : Ti c s) : 0 ≤ (D_X3_countLongs 38 s').toInt := by
  rw [cl_cg (s := D_lrun s a i) (fun k j hk => h.fr hk)]
  exact run_longs (Or.inl rfl) hT.tb
theorem LK.near (h : LK s a i s' wl) (hT : Ti c s) (hc : c ≤ 371) (h5 : 500 ≤ (s 0 7).toInt) : D_X3_countLongs 38 s' = 0 := by
  rw [cl_cg (s := D_lrun s a i) (fun k j hk => h.fr hk)]
  exact run_near (Or.inl rfl) hT.tb hT.sz h5 (Int.le_trans hT.sm hc)
/-- a link, from a world of like tables -/
theorem z_link (hP : WOK b w H) (hW : wl ≤ 6000) (hN : NN s) (hT : Ti c s) (ha : rg a 20) (hi : bz i = true) :
    ∃ (w' wl' : Nat) (H' : List EC) (s' : Sg) (j1 j2 : Nat), Rc sc 7 170 [.ref b, .int a, .int i] (wd b w wl H s, k1, k2) (some (.int (D_X0_count 38 s'))) (wd b w' wl' H' s', j1, j2) ∧ WOK b w' H' ∧ wl' ≤ 6000 ∧ NN s' ∧ LK s a i s' wl' ∧ k1 ≤ j1 ∧ j1 ≤ k1 + 1 ∧ k2 ≤ j2 ∧ j2 ≤ k2 + 6000 ∧ (∀ (x : Nat) (c : EC), Out b w x → H[x]? = some c → Out b w' x ∧ H'[x]? = some c) := by
  have r := run_size (q := 38) (Or.inl rfl) hT.tb hT.sz (a1 := a) (a2 := i) (a3 := s 0 7) (a4 := s 0 8) (a5 := -1)
  have r : 1 ≤ (D_X3_size 38 (D_lrun s a i)).toInt ∧ (D_X3_size 38 (D_lrun s a i)).toInt ≤ 3000 := r
  obtain ⟨w', wl', H', s', ⟨j1, j2⟩, q1, q2, q3, q4, q5, q6, q7, q8, q9, q10, q11, q12⟩ := lk_run (sc := sc) (kn := (k1, k2)) hP hW ha hi hN (by omega) r.2
  exact ⟨w', wl', H', s', j1, j2, q1, q2, q4, q5, q6, q7, q8, q9, q10, q12⟩
theorem ar_row {N : Nat} {f : Nat → Int32} {us : List Value} (h : us.length = N) (he : ∀ i, i < N → us[i]? = some (.int (f i))) : us = ar N f := by
  apply List.ext_getElem?
  intro k
  by_cases hk : k < N
  · rw [he k hk]; unfold ar; rw [List.getElem?_map, List.getElem?_range hk]; rfl
  · rw [List.getElem?_eq_none (by omega)]; unfold ar; rw [List.getElem?_eq_none (by rw [List.length_map, List.length_range]; omega)]
/-- the worlds that two links of like tables leave are told alike -/
theorem dv_link (h : ∀ k j, k < 37 → k ≠ 34 → k ≠ 35 → (k ≠ 23 ∨ j ≠ 12) → t k j = s k j) (hT : Tb s s) (hL : L0 s) (h1 : LK s a i s' wl) (h2 : LK t a i t' wl') : Dv s' t' := by
  have hst : Tb s t := hT.of (fun _ _ _ => rfl) (fun k j hk => h k j (by omega) (by omega) (by omega) (by omega))
  obtain ⟨f1, f2⟩ := lk_same hst (h 0 7 (by decide) (by decide) (by decide) (by decide)) (h 0 8 (by decide) (by decide) (by decide) (by decide)) h1 h2
  have e : ∀ k j, k < 37 → k ≠ 34 → k ≠ 35 → (k ≠ 23 ∨ j ≠ 12) → t' k j = s' k j := fun k j a1 a2 a3 a4 => by rw [h1.lo (Or.inl a1), h2.lo (Or.inl a1)]; exact h k j a1 a2 a3 a4
  refine ⟨fun k j hk => e k j (by omega) (by omega) (by omega) (by omega), f1, ⟨by rw [h1.q6, h2.q6], by rw [h1.q7, h2.q7], by rw [h1.q8, h2.q8]⟩, fun k j k1 k2 => e k j (by omega) (by omega) (by omega) (by omega), e _ _ (by decide) (by decide) (by decide) (by decide), ⟨?_, ?_, ?_, ?_⟩, ⟨fun j => ?_, fun j => ?_⟩, f2⟩
  · rw [h2.lo (by decide), h _ _ (by decide) (by decide) (by decide) (by decide)]; exact hL.2.1
  · rw [h1.lo (by decide)]; exact hL.2.1
  · rw [h2.lo (by decide), h _ _ (by decide) (by decide) (by decide) (by decide)]; exact hL.2.2.1
  · rw [h1.lo (by decide)]; exact hL.2.2.1
  · rw [h1.lo (by decide)]; exact hL.2.2.2.2.1 j
  · rw [h1.lo (by decide)]; exact hL.2.2.2.2.2.1 j
/-- opened and closed again, a world is told as before -/
theorem dv_back (h : Dv u u) (hu : L0 u) (hv : L0 v) (hf : ∀ k j, k < 60 → k < 29 ∨ 36 ≤ k → (k ≠ 23 ∨ (j ≠ 12 ∧ j ≠ 14 ∧ j ≠ 15)) → v k j = u k j) : Dv u v := by
  refine ⟨fun k j hk => hf k j (by omega) (by omega) (by omega), h.fl.of (fun _ _ _ => rfl) (fun k j hk => hf k j (by omega) (by omega) (by omega)), ⟨hf _ _ (by decide) (by decide) (by decide), hf _ _ (by decide) (by decide) (by decide), hf _ _ (by decide) (by decide) (by decide)⟩, fun k j k1 k2 => ?_, hf _ _ (by decide) (by decide) (by decide), ⟨hv.2.1, hu.2.1, hv.2.2.1, hu.2.2.1⟩, ⟨hu.2.2.2.2.1, hu.2.2.2.2.2.1⟩, fun j _ => hf _ _ (by decide) (by decide) (Or.inl (by decide))⟩
  by_cases c1 : k < 29
  · exact hf k j (by omega) (by omega) (by omega)
  · have : k = 29 ∨ k = 30 ∨ k = 31 := by omega
    rcases this with rfl | rfl | rfl
    · rw [hv.2.2.2.2.1, hu.2.2.2.2.1]
    · rw [hv.2.2.2.2.2.1, hu.2.2.2.2.2.1]
    · rw [hv.2.2.2.2.2.2, hu.2.2.2.2.2.2]
theorem z_ub (hT : Ti c s) (hL : L0 s) : UB s := ⟨hT.no1, hT.ns1, hL.1⟩
theorem z_dig (hP : WOK b w H) (hW : wl ≤ 6000) (hN : NN s) (hT : Ti c s) (hL : L0 s) (hd : ¬ zb (s 38 6) = 0) : Rc sc 8 185 [.ref b] (wd b w wl H s, k1, k2) (some (.long (D_X11_digest wl s).1)) (wd b w wl H (D_X11_digest wl s).2, k1, k2) ∧ NN (D_X11_digest wl s).2 ∧ Ti c (D_X11_digest wl s).2 ∧ L0 (D_X11_digest wl s).2 := by
  have hN3 : NN s ∧ UB s ∧ ¬ zb (s 38 6) = 0 := ⟨hN, z_ub hT hL, hd⟩
  refine ⟨rc_X11_digest (kn := (k1, k2)) hP (by omega) hN3, (nn_X11_digest hN3).1, hT.of (fun k j hk _ _ _ _ => fr_dig (by omega) (by omega) (by omega)), ?_⟩
  unfold L0
  rw [fr_dig (k := 23) (j := 13) (by decide) (by decide) (by decide), fr_dig (k := 23) (j := 14) (by decide) (by decide) (by decide), fr_dig (k := 23) (j := 15) (by decide) (by decide) (by decide)]
  exact ⟨hL.1, hL.2.1, hL.2.2.1, fun j => by rw [fr_dig (by decide) (Or.inl (by decide)) (by decide)]; exact hL.2.2.2.1 j, fun j => by rw [fr_dig (by decide) (Or.inl (by decide)) (by decide)]; exact hL.2.2.2.2.1 j, fun j => by rw [fr_dig (by decide) (Or.inl (by decide)) (by decide)]; exact hL.2.2.2.2.2.1 j, fun j => by rw [fr_dig (by decide) (Or.inl (by decide)) (by decide)]; exact hL.2.2.2.2.2.2 j⟩
/-! what is told -/
theorem z_many (hP : WOK b w H) (hN : NN s) {x z : Int32} (hT : T_X11_many s x = true) (hz : D_X11_many s x = z) : Rc sc 6 180 [.ref b, .int x] (wd b w wl H s, k1, k2) (some (.int z)) (wd b w wl H s, k1, k2) := by
  rw [← hz]; exact rc_X11_many hP hN hT
theorem mt_0 : T_X11_many s 0 = true := rfl
theorem mt_1 : T_X11_many s 1 = true := rfl
theorem mt_3 : T_X11_many s 3 = true := rfl
theorem mt_4 : T_X11_many s 4 = true := rfl
theorem mt_9 : T_X11_many s 9 = true := rfl
theorem mt_11 : T_X11_many s 11 = true := rfl
theorem md_0 : D_X11_many s 0 = s 1 9 := rfl
theorem md_1 : D_X11_many s 1 = s 11 8 := rfl
theorem md_3 : D_X11_many s 3 = s 23 13 := rfl
theorem md_4 : D_X11_many s 4 = D_X4_countLoaded s := rfl
theorem md_9 : D_X11_many s 9 = D_X3_size 38 s := rfl
theorem md_11 : D_X11_many s 11 = D_X3_countLongs 38 s := rfl
theorem z_word (hP : WOK b w H) (hW : wl ≤ 6000) (h1 : (D_X3_size 38 s).toInt ≤ wl) {x : Int32} (h0 : 0 ≤ x.toInt) (hx : x.toInt < (D_X3_size 38 s).toInt) : Rc sc 2 174 [.ref b, .int x] (wd b w wl H s, k1, k2) (some (.int (s 37 x.toInt.toNat))) (wd b w wl H s, k1, k2) := by
  have a1 : ¬ x < 0 := by rw [Int32.lt_iff_toInt_lt, show (0 : Int32).toInt = 0 from rfl]; omega
  have a2 : x < D_X3_size 38 s := Int32.lt_iff_toInt_lt.mpr hx
  have hw : (Int32.ofNat wl).toInt = wl := by
    have : Int32.ofNat wl = Int32.ofInt (wl : Int) := rfl
    rw [this, Int32.toInt_ofInt_of_le (by omega) (by omega)]
  have a3 : ¬ (Int32.ofNat wl) ≤ x := by rw [Int32.le_iff_toInt_le, hw]; omega
  have e : D_X11_wordAt wl s x = s 37 x.toInt.toNat := by
    unfold D_X11_wordAt D_X1_read
    rw [if_neg a1, if_pos a2, if_neg a1, if_neg a3]; rfl
  rw [← e]
  exact rc_X11_wordAt hP (by omega) (by unfold T_X11_wordAt; rw [if_neg a1, if_pos a2])
/-- the words are those that the array holds -/
theorem ind_d : ∀ (n : Nat), n ≤ 6000 → (Int32.ofInt (n : Int)).toInt = n ∧ (Int32.ofInt (n : Int)).toNatClampNeg = n := fun n hn => by
  have e : (Int32.ofInt (n : Int)).toInt = n := Int32.toInt_ofInt_of_le (by omega) (by omega)
  exact ⟨e, by rw [tn, e]; exact Int.toNat_natCast n⟩
theorem ind_s {n : Nat} (hn : n < 6000) : Int32.ofInt (n : Int) + 1 = Int32.ofInt ((n + 1 : Nat) : Int) := by
  apply Int32.toInt_inj.mp
  rw [i_add1 (by rw [(ind_d n (by omega)).1]; omega), (ind_d n (by omega)).1, (ind_d (n + 1) (by omega)).1]
  omega
theorem len_ar {N : Nat} {f : Nat → Int32} : Int32.ofNat (ar N f).length = Int32.ofInt (N : Int) := by
  unfold ar; rw [List.length_map, List.length_range]; rfl
theorem aw_loop (hP : WOK b w H) (hW : wl ≤ 6000) {N : Nat} {aw : Nat} (h1 : (D_X3_size 38 s).toInt ≤ wl) (hs : (D_X3_size 38 s).toInt = N) (hA : Oc b w H aw (.inl 0, ar N (s 37))) : ∀ (n i : Nat), i + n = N → Ex sc g_L_areWords 6 (15, [(2, .int (Int32.ofInt (i : Int))), (1, .ref aw), (0, .ref b)], []) (wd b w wl H s, k1, k2) (fun o h' => o = some (.int 1) ∧ h' = (wd b w wl H s, k1, k2)) := by
  intro n
  induction n with
  | zero =>
    intro i hi
    have e : i = N := by omega
    subst e
    refine ex_of (fun _ _ hx => rx_k 2 (17, [(2, .int (Int32.ofInt (i : Int))), (1, .ref aw), (0, .ref b)], [.ref aw, .int (Int32.ofInt (i : Int))]) (fun _ _ => rfl) hx) ?_
    refine ex_of (fun _ _ hx => rx_alen rfl rfl (oc_wd hA) rfl len_ar hx) ?_
    refine ex_of (fun _ _ hx => rx_icT rfl (bt (Int32.le_refl _)) hx) ?_
    refine ex_of (fun _ _ hx => rx_k 1 (41, [(2, .int (Int32.ofInt (i : Int))), (1, .ref aw), (0, .ref b)], [.int 1]) (fun _ _ => rfl) hx) ?_
    exact ex_ri rfl ⟨rfl, rfl⟩
  | succ n ih =>
    intro i hi
    have hi1 := ind_d i (by omega)
    have hN1 := ind_d N (by omega)
    have hw := z_word (sc := sc) (k1 := k1) (k2 := k2) hP hW h1 (x := Int32.ofInt (i : Int)) (by rw [hi1.1]; omega) (by rw [hi1.1, hs]; omega)
    rw [hi1.1, Int.toNat_natCast] at hw
    refine ex_of (fun _ _ hx => rx_k 2 (17, [(2, .int (Int32.ofInt (i : Int))), (1, .ref aw), (0, .ref b)], [.ref aw, .int (Int32.ofInt (i : Int))]) (fun _ _ => rfl) hx) ?_
    refine ex_of (fun _ _ hx => rx_alen rfl rfl (oc_wd hA) rfl len_ar hx) ?_
    refine ex_of (fun _ _ hx => rx_icF rfl (bf (by rw [Int32.le_iff_toInt_le, hi1.1, hN1.1]; omega)) rfl hx) ?_
    refine ex_of (fun _ _ hx => rx_k 2 (23, [(2, .int (Int32.ofInt (i : Int))), (1, .ref aw), (0, .ref b)], [.int (Int32.ofInt (i : Int)), .ref b]) (fun _ _ => rfl) hx) ?_
    refine ex_of (fun _ _ hx => rx_inv rfl rfl hw rfl rfl rfl (q_recv (wg_0 hP)) rfl rfl hx) ?_
    refine ex_of (fun _ _ hx => rx_k 2 (28, [(2, .int (Int32.ofInt (i : Int))), (1, .ref aw), (0, .ref b)], [.int (Int32.ofInt (i : Int)), .ref aw, .int (s 37 i)]) (fun _ _ => rfl) hx) ?_
    refine ex_of (fun _ _ hx => rx_ild rfl rfl (oc_wd hA) (by rw [ar_at ⟨by rw [hi1.1]; omega, by rw [hi1.1]; omega⟩, hi1.2]) hx) ?_
    refine ex_of (fun _ _ hx => rx_icT rfl (bt rfl) hx) ?_
    refine ex_of (fun _ _ hx => rx_k 2 (15, [(2, .int ((Int32.ofInt (i : Int)) + 1)), (1, .ref aw), (0, .ref b)], []) (fun _ _ => rfl) hx) ?_
    rw [ind_s (n := i) (by omega)]
    exact ih (i + 1) (by omega)
theorem z_areWords (hP : WOK b w H) (hW : wl ≤ 6000) (hN : NN s) {N : Nat} {aw : Nat} {f : Nat → Int32} (h1 : (D_X3_size 38 s).toInt ≤ wl) (hs : (D_X3_size 38 s).toInt = N) (hA : Oc b w H aw (.inl 0, ar N f)) (hf : ∀ j, j < N → s 37 j = f j) : Rc sc 7 214 [.ref b, .ref aw] (wd b w wl H s, k1, k2) (some (.int 1)) (wd b w wl H s, k1, k2) := by
  have e : ar N f = ar N (s 37) := by
    unfold ar
    exact List.map_congr_left (fun j hj => by rw [hf j (List.mem_range.mp hj)])
  rw [e] at hA
  have eN : D_X3_size 38 s = Int32.ofInt (N : Int) := Int32.toInt_inj.mp (by rw [hs, (ind_d N (by omega)).1])
  have main : Ex sc g_L_areWords 6 (0, [(0, .ref b), (1, .ref aw)], []) (wd b w wl H s, k1, k2) (fun o h' => o = some (.int 1) ∧ h' = (wd b w wl H s, k1, k2)) := by
    refine ex_of (fun _ _ hx => rx_k 2 (3, [(0, .ref b), (1, .ref aw)], [.int 9, .ref b]) (fun _ _ => rfl) hx) ?_
    refine ex_of (fun _ _ hx => rx_inv rfl rfl (z_many hP hN mt_9 md_9) rfl rfl rfl (q_recv (wg_0 hP)) rfl rfl hx) ?_
    refine ex_of (fun _ _ hx => rx_k 1 (7, [(0, .ref b), (1, .ref aw)], [.ref aw, .int (D_X3_size 38 s)]) (fun _ _ => rfl) hx) ?_
    refine ex_of (fun _ _ hx => rx_alen rfl rfl (oc_wd hA) rfl len_ar hx) ?_
    refine ex_of (fun _ _ hx => rx_icT rfl (bt eN) hx) ?_
    refine ex_of (fun _ _ hx => rx_k 2 (15, [(2, .int 0), (0, .ref b), (1, .ref aw)], []) (fun _ _ => rfl) hx) ?_
    refine ex_of (fun _ _ hx => rx_lo am_L_areWords (lo := [(0, .ref b), (1, .ref aw), (2, .int 0)]) (List.forall_mem_cons.mpr ⟨List.mem_of_getElem? (i := 1) rfl, (List.forall_mem_cons.mpr ⟨List.mem_of_getElem? (i := 2) rfl, (List.forall_mem_cons.mpr ⟨List.mem_of_getElem? (i := 0) rfl, (fun _ h => absurd h List.not_mem_nil)⟩)⟩)⟩) rfl hx) ?_
    exact ex_of (fun _ _ hx => rx_lo am_L_areWords (lo := [(2, .int (Int32.ofInt ((0 : Nat) : Int))), (1, .ref aw), (0, .ref b)]) (List.forall_mem_cons.mpr ⟨List.mem_of_getElem? (i := 2) rfl, List.forall_mem_cons.mpr ⟨List.mem_of_getElem? (i := 1) rfl, List.forall_mem_cons.mpr ⟨List.mem_of_getElem? (i := 0) rfl, fun _ h => absurd h List.not_mem_nil⟩⟩⟩) rfl hx) (aw_loop hP hW h1 hs hA N 0 (by omega))
  obtain ⟨o, h', hx, rfl, rfl⟩ := main
  exact rx_mc hx rfl rfl (Nat.ble_eq_true_of_le (Nat.le_refl _)) (Nat.ble_eq_true_of_le (Nat.le_refl _))
end LF
