/-! a link: its words are written into the row that is there, or into a longer one that is made (then the world goes on with that) -/
theorem mkc_w {b w w' : Nat} {f : Nat → Int32} : ∀ k, k < 82 → k ≠ 36 → k ≠ 37 → mkc b w k f = mkc b w' k f
  | 0, _, _, _ => rfl
  | 1, _, _, _ => rfl
  | 2, _, _, _ => rfl
  | 3, _, _, _ => rfl
  | 4, _, _, _ => rfl
  | 5, _, _, _ => rfl
  | 6, _, _, _ => rfl
  | 7, _, _, _ => rfl
  | 8, _, _, _ => rfl
  | 9, _, _, _ => rfl
  | 10, _, _, _ => rfl
  | 11, _, _, _ => rfl
  | 12, _, _, _ => rfl
  | 13, _, _, _ => rfl
  | 14, _, _, _ => rfl
  | 15, _, _, _ => rfl
  | 16, _, _, _ => rfl
  | 17, _, _, _ => rfl
  | 18, _, _, _ => rfl
  | 19, _, _, _ => rfl
  | 20, _, _, _ => rfl
  | 21, _, _, _ => rfl
  | 22, _, _, _ => rfl
  | 23, _, _, _ => rfl
  | 24, _, _, _ => rfl
  | 25, _, _, _ => rfl
  | 26, _, _, _ => rfl
  | 27, _, _, _ => rfl
  | 28, _, _, _ => rfl
  | 29, _, _, _ => rfl
  | 30, _, _, _ => rfl
  | 31, _, _, _ => rfl
  | 32, _, _, _ => rfl
  | 33, _, _, _ => rfl
  | 34, _, _, _ => rfl
  | 35, _, _, _ => rfl
  | 36, _, h, h2 => absurd rfl h
  | 37, _, h, h2 => absurd rfl h2
  | 38, _, _, _ => rfl
  | 39, _, _, _ => rfl
  | 40, _, _, _ => rfl
  | 41, _, _, _ => rfl
  | 42, _, _, _ => rfl
  | 43, _, _, _ => rfl
  | 44, _, _, _ => rfl
  | 45, _, _, _ => rfl
  | 46, _, _, _ => rfl
  | 47, _, _, _ => rfl
  | 48, _, _, _ => rfl
  | 49, _, _, _ => rfl
  | 50, _, _, _ => rfl
  | 51, _, _, _ => rfl
  | 52, _, _, _ => rfl
  | 53, _, _, _ => rfl
  | 54, _, _, _ => rfl
  | 55, _, _, _ => rfl
  | 56, _, _, _ => rfl
  | 57, _, _, _ => rfl
  | 58, _, _, _ => rfl
  | 59, _, _, _ => rfl
  | 60, _, _, _ => rfl
  | 61, _, _, _ => rfl
  | 62, _, _, _ => rfl
  | 63, _, _, _ => rfl
  | 64, _, _, _ => rfl
  | 65, _, _, _ => rfl
  | 66, _, _, _ => rfl
  | 67, _, _, _ => rfl
  | 68, _, _, _ => rfl
  | 69, _, _, _ => rfl
  | 70, _, _, _ => rfl
  | 71, _, _, _ => rfl
  | 72, _, _, _ => rfl
  | 73, _, _, _ => rfl
  | 74, _, _, _ => rfl
  | 75, _, _, _ => rfl
  | 76, _, _, _ => rfl
  | 77, _, _, _ => rfl
  | 78, _, _, _ => rfl
  | 79, _, _, _ => rfl
  | 80, _, _, _ => rfl
  | 81, _, _, _ => rfl
  | k + 82, h, _, _ => absurd h (by omega)
def zw (s : Sg) : Sg := fun i => bif Nat.beq i 37 then (fun _ => 0) else s i
theorem zw_ne {s : Sg} {i : Nat} (h : i ≠ 37) : zw s i = s i := by unfold zw; rw [nb_f h]; rfl
def nH (b w wl : Nat) (H0 : List EC) (s : Sg) : List EC := wd b w wl H0 s ++ [(.inl 0, [])]
section NW
variable {sc : Nat × (Nat → Int32)} {b w wl : Nat} {H0 : List EC} {s : Sg} {kn : Nat × Nat}
theorem nH_len : (nH b w wl H0 s).length = H0.length + 1 := by unfold nH; rw [List.length_append, wd_len]; rfl
theorem nH_ok (hP : WOK b w H0) : WOK b H0.length (nH b w wl H0 s) :=
  ⟨by rw [nH_len]; have := hP.1; omega, by rw [nH_len]; omega, Or.inr (Or.inr hP.1)⟩
theorem nH_get {a : Nat} (h : a < H0.length) : (nH b w wl H0 s).getD a (.inl 0, []) = wd1 b w wl H0 s a := by
  unfold nH
  rw [List.getD_eq_getElem?_getD, List.getElem?_append_left (by rw [wd_len]; exact h), wd_get h]
  rfl
theorem ar_0 (L : Nat) : ar L (fun _ => 0) = List.replicate L (.int 0) := by
  apply List.ext_getElem?
  intro a
  by_cases h : a < L
  · rw [ar_get h, List.getElem?_replicate, if_pos h]
  · rw [List.getElem?_eq_none (by rw [ar_len]; omega), List.getElem?_eq_none (by rw [List.length_replicate]; omega)]
theorem nH_eq (hP : WOK b w H0) {L : Nat} : (wd b w wl H0 s ++ [((.inl 0, List.replicate L (.int 0)) : EC)]).set (b + 36) ((.inr 1, [.ref H0.length]) : EC) = wd b H0.length L (nH b w wl H0 s) (zw s) := by
  have h1 := hP.1
  apply List.ext_getElem?
  intro a
  by_cases ha : b + 36 = a
  · subst ha
    rw [List.getElem?_set_self (by rw [List.length_append, wd_len]; omega), wd_at (nH_ok hP) (k := 36) (by decide) (by decide)]
    rfl
  · rw [List.getElem?_set_ne ha]
    by_cases hl : a < H0.length
    · rw [List.getElem?_append_left (by rw [wd_len]; exact hl), wd_get hl, wd_get (by rw [nH_len]; omega)]
      congr 1
      have e2 := nH_get (b := b) (w := w) (wl := wl) (H0 := H0) (s := s) hl
      conv => rhs; unfold wd1
      rw [nb_f (show a ≠ H0.length by omega), e2]
      cases hb : ((Nat.ble b a && Nat.ble (a + 1) (b + 82)) && !Nat.beq a (b + 37)) with
      | false => rfl
      | true =>
        simp only [Bool.and_eq_true] at hb
        have h5 := Nat.le_of_ble_eq_true hb.1.1
        have h6 := Nat.le_of_ble_eq_true hb.1.2
        have h7 : a ≠ b + 37 := fun e => by
          rw [e, show Nat.beq (b + 37) (b + 37) = true from Nat.beq_refl _] at hb
          cases hb.2
        have h8 : a ≠ w := by have := hP.2.2; omega
        show wd1 b w wl H0 s a = mkc b H0.length (a - b) (zw s (a - b))
        have h9 := wd1_at (wl := wl) (s := s) hP (k := a - b) (by omega) (by omega)
        rw [show b + (a - b) = a by omega] at h9
        rw [h9, zw_ne (by omega)]
        exact mkc_w _ (by omega) (by omega) (by omega)
    · by_cases h2 : a = H0.length
      · subst h2
        rw [List.getElem?_append_right (by rw [wd_len]; exact Nat.le_refl _), wd_len, Nat.sub_self, wd_get (by rw [nH_len]; omega)]
        unfold wd1
        rw [show Nat.beq H0.length H0.length = true from Nat.beq_refl _]
        show some (Sum.inl 0, List.replicate L (Value.int 0)) = some (Sum.inl 0, ar L (zw s 37))
        rw [show zw s 37 = (fun _ => 0) from rfl, ar_0]
      · rw [List.getElem?_eq_none (by rw [List.length_append, wd_len]; show _ + 1 ≤ _; omega), List.getElem?_eq_none (by rw [wd_len, nH_len]; omega)]
/-- how long the row becomes -/
noncomputable def nL (wl : Nat) (z : Int32) : Int32 := D_J9_max_7cf53 z (2 * (Int32.ofNat wl))
theorem m_clear_new (hP : WOK b w H0) {a1 : Int32} {L : Nat} (hc : ¬ a1 ≤ (Int32.ofNat wl)) (hL0 : ¬ nL wl a1 < 0) (hL : (nL wl a1).toNatClampNeg = L) (hL8 : L ≤ 2000000) : Rx sc g_X1_clearUpTo 1 (0, [(0, .ref (b + 36)), (1, .int a1)], []) (wd b w wl H0 s, kn) none (wd b H0.length L (nH b w wl H0 s) (zw s), kn.1 + 1, kn.2 + L) := by
  refine rx_k 2 (2, [(0, .ref (b + 36)), (1, .int a1)], [.ref (b + 36), .int a1]) (fun _ _ => rfl) ?_
  refine rx_getf rfl rfl (wg_36 hP) rfl ?_
  refine rx_alen rfl rfl (wg_37 hP) rfl (by rw [ar_len]) ?_
  refine rx_icF rfl (bf hc) rfl ?_
  refine rx_k 4 (13, [(0, .ref (b + 36)), (1, .int a1)], [.ref (b + 36), .int 2, .int a1, .ref (b + 36)]) (fun _ _ => rfl) ?_
  refine rx_getf rfl rfl (wg_36 hP) rfl ?_
  refine rx_alen rfl rfl (wg_37 hP) rfl (by rw [ar_len]) ?_
  refine rx_k 1 (18, [(0, .ref (b + 36)), (1, .int a1)], [.int (2 * (Int32.ofNat wl)), .int a1, .ref (b + 36)]) (fun _ _ => rfl) ?_
  refine rx_inv rfl rfl (rc_J9_max_7cf53) rfl rfl rfl rfl rfl rfl ?_
  refine rx_newa (i := nL wl a1) (h1 := (wd b w wl H0 s ++ [(.inl 0, List.replicate L (.int 0))], kn.1 + 1, kn.2 + L)) rfl rfl hL0 (Nat.ble_eq_true_of_le (by omega)) (by rw [hL]; rfl) wd_len ?_
  refine rx_putf (fs := [.ref w]) rfl rfl (by
    show (wd b w wl H0 s ++ _)[b + 36]? = _
    rw [List.getElem?_append_left (by rw [wd_len]; have := hP.1; omega)]
    exact wg_36 hP) rfl (h1 := (wd b H0.length L (nH b w wl H0 s) (zw s), kn.1 + 1, kn.2 + L)) (congrArg (fun z => (z, kn.1 + 1, kn.2 + L)) (nH_eq hP)) ?_
  exact rx_rv rfl
theorem rc_clear_new (hP : WOK b w H0) {a1 : Int32} {L : Nat} (hc : ¬ a1 ≤ (Int32.ofNat wl)) (hL0 : ¬ nL wl a1 < 0) (hL : (nL wl a1).toNatClampNeg = L) (hL8 : L ≤ 2000000) : Rc sc 2 6 [.ref (b + 36), .int a1] (wd b w wl H0 s, kn) none (wd b H0.length L (nH b w wl H0 s) (zw s), kn.1 + 1, kn.2 + L) :=
  rx_mc (m_clear_new hP hc hL0 hL hL8) rfl rfl (Nat.ble_eq_true_of_le (Nat.le_add_right _ _)) (Nat.ble_eq_true_of_le (Nat.le_add_right _ _))
theorem nn_zw (hN : NN s) : NN (zw s) := by
  intro k j hc
  by_cases h : k = 37
  · subst h; cases hc
  · rw [zw_ne h]; exact hN k j hc
theorem nn_clear (hW : wl < 2000000) {a1 : Int32} (ha : rg a1 2147483647) (hc : a1 ≤ (Int32.ofNat wl)) (hN : NN s) : NN (D_X1_clearUpTo wl s a1) := by
  unfold D_X1_clearUpTo
  rw [if_pos hc]
  exact nr_X1_clearUpTo_47 (itr_inv2 (B := B_X1_clearUpTo_29 wl a1) (I := fun _ zs => NN zs) (fun _ zs hz => nb_X1_clearUpTo_29 hz) BIG 0 s hN)
/-- writeTo where the row is long enough -/
theorem rc_write_old (hP : WOK b w H0) {q : Nat} (hq : q = 38 ∨ q = 60) (hW : wl < 2000000) (hN : NN s) (hz : rg (D_X3_size q s) 2147483647) (hc : (D_X3_size q s) ≤ (Int32.ofNat wl)) : Rc sc 5 83 [.ref (b + q), .ref (b + 36)] (wd b w wl H0 s, kn) none (wd b w wl H0 (R_X5_writeTo_cut q wl (D_X1_clearUpTo wl s (D_X3_size q s))), kn) := by
  refine rx_mc (r := 4) ?_ rfl rfl (Nat.ble_eq_true_of_le (Nat.le_refl _)) (Nat.ble_eq_true_of_le (Nat.le_refl _))
  show Rx sc g_X5_writeTo 4 (0, [(0, .ref (b + q)), (1, .ref (b + 36))], []) _ _ _
  refine rx_k 2 (2, [(0, .ref (b + q)), (1, .ref (b + 36))], [.ref (b + q), .ref (b + 36)]) (fun _ _ => rfl) ?_
  refine rx_getf rfl rfl (wl_0 hP hq) rfl ?_
  refine rx_inv rfl rfl (rc_X3_size hP hq) rfl rfl rfl (q_recv (wl_15 hP hq)) rfl rfl ?_
  refine rx_inv rfl rfl (rc_X1_clearUpTo hP hW hN hz (by unfold T_X1_clearUpTo; rw [if_pos hc])) rfl rfl rfl (q_recv (wg_36 hP)) rfl rfl ?_
  exact r_X5_writeTo_cut hP hq hW (nn_clear hW hz hc hN)
/-- writeTo where a longer row is made -/
theorem rc_write_new (hP : WOK b w H0) {q : Nat} (hq : q = 38 ∨ q = 60) {L : Nat} (hN : NN s) (hc : ¬ (D_X3_size q s) ≤ (Int32.ofNat wl)) (hL0 : ¬ nL wl (D_X3_size q s) < 0) (hL : (nL wl (D_X3_size q s)).toNatClampNeg = L) (hL8 : L < 2000000) : Rc sc 5 83 [.ref (b + q), .ref (b + 36)] (wd b w wl H0 s, kn) none (wd b H0.length L (nH b w wl H0 s) (R_X5_writeTo_cut q L (zw s)), kn.1 + 1, kn.2 + L) := by
  refine rx_mc (r := 4) ?_ rfl rfl (Nat.ble_eq_true_of_le (Nat.le_add_right _ _)) (Nat.ble_eq_true_of_le (Nat.le_add_right _ _))
  show Rx sc g_X5_writeTo 4 (0, [(0, .ref (b + q)), (1, .ref (b + 36))], []) _ _ _
  refine rx_k 2 (2, [(0, .ref (b + q)), (1, .ref (b + 36))], [.ref (b + q), .ref (b + 36)]) (fun _ _ => rfl) ?_
  refine rx_getf rfl rfl (wl_0 hP hq) rfl ?_
  refine rx_inv rfl rfl (rc_X3_size hP hq) rfl rfl rfl (q_recv (wl_15 hP hq)) rfl rfl ?_
  refine rx_inv rfl rfl (rc_clear_new hP hc hL0 hL (by omega)) rfl rfl rfl (q_recv (wg_36 hP)) rfl rfl ?_
  exact r_X5_writeTo_cut (nH_ok hP) hq hL8 (nn_zw hN)
/-- the state behind the latest link's run -/
noncomputable def D_lrun (s : Sg) (a1 a2 : Int32) : Sg := D_X5_run 38 s a1 a2 (s 0 7) (s 0 8) (-1)
theorem m_link {b w wl b' w' wl' : Nat} {H0 H0' : List EC} {s s' : Sg} {kn kn' : Nat × Nat} (hP : WOK b w H0) (hP' : WOK b w' H0') (hW' : wl' < 2000000) {a1 a2 : Int32} (hn : ¬ D_X11_isName a1 = 0) (hz : bz a2 = true) (hN : NN s) (hN' : NN s')
    (hw : Rc sc 5 83 [.ref (b + 38), .ref (b + 36)] (wd b w wl H0 (D_lrun s a1 a2), kn) none (wd b w' wl' H0' s', kn')) (hk1 : kn.1 ≤ kn'.1) (hk2 : kn.2 ≤ kn'.2) :
    Rc sc 7 170 [.ref b, .int a1, .int a2] (wd b w wl H0 s, kn) (some (.int (D_X0_count 38 s'))) (wd b w' wl' H0' s', kn') := by
  refine rx_mc (r := 6) ?_ rfl rfl (Nat.ble_eq_true_of_le hk1) (Nat.ble_eq_true_of_le hk2)
  show Rx sc g_X11_link 6 (0, [(0, .ref b), (1, .int a1), (2, .int a2)], []) _ _ _
  refine rx_k 1 (1, [(0, .ref b), (1, .int a1), (2, .int a2)], [.int a1]) (fun _ _ => rfl) ?_
  refine rx_inv rfl rfl (rc_X11_isName) rfl rfl rfl rfl rfl rfl ?_
  refine rx_ifT rfl (nt hn) ?_
  refine rx_k 1 (18, [(0, .ref b), (1, .int a1), (2, .int a2)], [.ref b]) (fun _ _ => rfl) ?_
  refine rx_getf rfl rfl (wg_0 hP) rfl ?_
  refine rx_k 3 (24, [(0, .ref b), (1, .int a1), (2, .int a2)], [.ref b, .int a2, .int a1, .ref (b + 38)]) (fun _ _ => rfl) ?_
  refine rx_getf rfl rfl (wg_0 hP) rfl ?_
  refine rx_k 1 (28, [(0, .ref b), (1, .int a1), (2, .int a2)], [.ref b, .int (s 0 7), .int a2, .int a1, .ref (b + 38)]) (fun _ _ => rfl) ?_
  refine rx_getf rfl rfl (wg_0 hP) rfl ?_
  refine rx_k 1 (32, [(0, .ref b), (1, .int a1), (2, .int a2)], [.int (-1), .int (s 0 8), .int (s 0 7), .int a2, .int a1, .ref (b + 38)]) (fun _ _ => rfl) ?_
  refine rx_inv rfl rfl (rc_X5_run hP (Or.inl rfl) hN hz) rfl rfl rfl (q_recv (wl_0 hP (Or.inl rfl))) rfl rfl ?_
  refine rx_k 1 (36, [(0, .ref b), (1, .int a1), (2, .int a2)], [.ref b]) (fun _ _ => rfl) ?_
  refine rx_getf rfl rfl (wg_0 hP) rfl ?_
  refine rx_k 1 (40, [(0, .ref b), (1, .int a1), (2, .int a2)], [.ref b, .ref (b + 38)]) (fun _ _ => rfl) ?_
  refine rx_getf rfl rfl (wg_0 hP) rfl ?_
  refine rx_inv rfl rfl hw rfl rfl rfl (q_recv (wl_0 hP (Or.inl rfl))) rfl rfl ?_
  refine rx_lo am_X11_link (lo := [(0, .ref b)]) (List.forall_mem_cons.mpr ⟨List.mem_of_getElem? (i := 0) rfl, (fun _ h => absurd h List.not_mem_nil)⟩) rfl ?_
  exact r_X11_link_cut hP' hW' hN'
end NW
