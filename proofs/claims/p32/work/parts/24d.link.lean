/-! a link put together: its run, its row cleared, its words -/
theorem cut_fr {q wl : Nat} {s : Sg} {k j : Nat} (hk : k ≠ 37) : (R_X5_writeTo_cut q wl s) k j = s k j := by
  unfold R_X5_writeTo_cut R_X5_writeTo_96
  refine itr_inv (B := uc2 (B_X5_writeTo_13 q wl)) (I := fun z => z.2 k j = s k j) (fun z hz => ?_) BIG (0, s) rfl
  obtain ⟨x, z⟩ := z
  have hz : z k j = s k j := hz
  show ((B_X5_writeTo_13 q wl x z).2).2 k j = s k j
  unfold B_X5_writeTo_13
  by_cases c : D_X3_laid q z ≤ x
  · rw [if_pos c]; exact hz
  · rw [if_neg c]
    show (itr (uc3 (B_X5_writeTo_46 q wl x (D_X3_sectionAt q z x))) BIG (0, (D_X3_addressOf q z (D_X3_sectionAt q z x)), z)).2.2 k j = s k j
    refine itr_inv (B := uc3 (B_X5_writeTo_46 q wl x (D_X3_sectionAt q z x))) (I := fun y => y.2.2 k j = s k j) (fun y hy => ?_) BIG (0, (D_X3_addressOf q z (D_X3_sectionAt q z x)), z) hz
    obtain ⟨y1, y2, y3⟩ := y
    have hy : y3 k j = s k j := hy
    show ((B_X5_writeTo_46 q wl x (D_X3_sectionAt q z x) y1 y2 y3).2).2.2 k j = s k j
    unfold B_X5_writeTo_46
    by_cases d : D_X8_pieces y3 (D_X3_sectionAt q z x) ≤ y1
    · rw [if_pos d]; exact hy
    · rw [if_neg d]; exact (fw_X5_writePiece hk).trans hy
theorem Fl.of {q : Nat} {s t s' t' : Sg} (hs : ∀ k j, k < 23 ∨ (q + 1 ≤ k ∧ k ≤ q + 21) → s' k j = s k j) (ht : ∀ k j, k < 23 ∨ (q + 1 ≤ k ∧ k ≤ q + 21) → t' k j = t k j) (h : Fl q s t) : Fl q s' t' := by
  refine ⟨h.pc.of (fun k j hk => hs k j (by omega)) (fun k j hk => ht k j (by omega)), ?_, ?_, ?_, ?_⟩
  · rw [hs _ _ (by omega), ht _ _ (by omega)]; exact h.n
  · rw [hs _ _ (by omega)]; exact h.n0
  · rw [hs _ _ (by omega)]; exact h.n1
  · rw [hs (q + 1) 1 (by omega)]; intro j hj; rw [hs _ _ (by omega), ht _ _ (by omega)]; exact h.fa j hj
/-- s' is what a link of s leaves, its row of words wl long -/
def LK (s : Sg) (a i : Int32) (s' : Sg) (wl : Nat) : Prop :=
  wl < 2000000 ∧ (D_X3_size 38 s').toInt ≤ wl ∧ ∃ s0 : Sg, (∀ k j, k ≠ 37 → s0 k j = (D_lrun s a i) k j) ∧ (∀ j : Nat, (j : Int) < (D_X3_size 38 (D_lrun s a i)).toInt → s0 37 j = 0) ∧ s' = R_X5_writeTo_cut 38 wl s0
theorem LK.fr {s s' : Sg} {a i : Int32} {wl : Nat} (h : LK s a i s' wl) {k j : Nat} (hk : k ≠ 37) : s' k j = (D_lrun s a i) k j := by
  obtain ⟨_, _, s0, h1, _, rfl⟩ := h
  rw [cut_fr hk]; exact h1 k j hk
theorem lk_same {s t s' t' : Sg} {a i : Int32} {wl wl' : Nat} (h : Tb s t) (h7 : t 0 7 = s 0 7) (h8 : t 0 8 = s 0 8) (h1 : LK s a i s' wl) (h2 : LK t a i t' wl') : Fl 38 s' t' ∧ ∀ j : Nat, (j : Int) < (D_X3_size 38 s').toInt → t' 37 j = s' 37 j := by
  obtain ⟨w1, z1, s0, f1, c1, rfl⟩ := h1
  obtain ⟨w2, z2, t0, f2, c2, rfl⟩ := h2
  have hf : Fl 38 (D_lrun s a i) (D_lrun t a i) := by
    unfold D_lrun; rw [h7, h8]; exact (fl_run (Or.inl rfl) h).1
  have e11 : (D_lrun t a i) (38 + 15) 11 = (D_lrun s a i) (38 + 15) 11 := hf.pc.pl.e11
  have hs : D_X3_size 38 (R_X5_writeTo_cut 38 wl s0) = D_X3_size 38 (D_lrun s a i) := by unfold D_X3_size; rw [cut_fr (by omega), f1 _ _ (by omega)]
  have ht : D_X3_size 38 (R_X5_writeTo_cut 38 wl' t0) = D_X3_size 38 (D_lrun s a i) := by unfold D_X3_size; rw [cut_fr (by omega), f2 _ _ (by omega), e11]
  have hst : D_X3_size 38 (D_lrun t a i) = D_X3_size 38 (D_lrun s a i) := e11
  rw [hs] at z1
  rw [ht] at z2
  rw [hst] at c2
  generalize hz : (D_X3_size 38 (D_lrun s a i)).toInt = z at z1 z2 c1 c2
  have hw : Wr 38 z.toNat s0 t0 := ⟨hf.of (fun k j hk => f1 k j (by omega)) (fun k j hk => f2 k j (by omega)), fun j hj => by rw [c1 j (by omega), c2 j (by omega)]⟩
  have hr := wr_write (Or.inl rfl) (by omega) (by omega) w1 w2 hw
  refine ⟨hr.1, fun j hj => hr.2 j ?_⟩
  rw [hs, hz] at hj; omega
/-! cells outside the world of one LinkHarbour -/
def Out (b w a : Nat) : Prop := (a < b ∨ b + 82 ≤ a) ∧ a ≠ w
section OUT
variable {b w wl : Nat} {H0 : List EC} {s : Sg} {a : Nat} {c : EC} {kn : Nat × Nat}
theorem wd1_out (ho : Out b w a) : wd1 b w wl H0 s a = H0.getD a (.inl 0, []) := by
  unfold wd1
  rw [nb_f ho.2]
  have h2 : ((Nat.ble b a && Nat.ble (a + 1) (b + 82)) && !Nat.beq a (b + 37)) = false := by
    rcases ho.1 with h | h
    · rw [nb_b (by omega)]; rfl
    · rw [nb_b (show ¬ a + 1 ≤ b + 82 by omega)]; cases Nat.ble b a <;> rfl
  rw [h2]; rfl
theorem wd_out (ho : Out b w a) (hc : H0[a]? = some c) : (wd b w wl H0 s)[a]? = some c := by
  have hl : a < H0.length := (List.getElem?_eq_some_iff.mp hc).1
  rw [wd_get hl, wd1_out ho, List.getD_eq_getElem?_getD, hc]; rfl
theorem nH_out (ho : Out b w a) (hc : H0[a]? = some c) : (nH b w wl H0 s)[a]? = some c := by
  have hl : a < H0.length := (List.getElem?_eq_some_iff.mp hc).1
  unfold nH
  rw [List.getElem?_append_left (by rw [wd_len]; exact hl)]
  exact wd_out ho hc
/-- a cell more behind the world -/
theorem wd_push (hP : WOK b w H0) : ((wd b w wl H0 s) ++ [c]) = wd b w wl (H0 ++ [c]) s := by
  have h1 := hP.1
  have h2 := hP.2.1
  apply List.ext_getElem?
  intro i
  by_cases hl : i < H0.length
  · rw [List.getElem?_append_left (by rw [wd_len]; exact hl), wd_get hl, wd_get (by rw [List.length_append]; omega)]
    unfold wd1
    rw [List.getD_eq_getElem?_getD, List.getD_eq_getElem?_getD, List.getElem?_append_left hl]
  · by_cases h3 : i = H0.length
    · subst h3
      have e1 : wd1 b w wl (H0 ++ [c]) s H0.length = (H0 ++ [c]).getD H0.length (.inl 0, []) := wd1_out ⟨Or.inr h1, by omega⟩
      rw [List.getElem?_append_right (by rw [wd_len]; exact Nat.le_refl _), wd_len, Nat.sub_self, wd_get (by rw [List.length_append]; show _ < _ + 1; omega), e1, List.getD_eq_getElem?_getD, List.getElem?_append_right (Nat.le_refl _), Nat.sub_self]
      rfl
    · rw [List.getElem?_eq_none (by rw [List.length_append, wd_len]; show _ + 1 ≤ _; omega), List.getElem?_eq_none (by rw [wd_len, List.length_append]; show _ + 1 ≤ _; omega)]
theorem wok_push (hP : WOK b w H0) : WOK b w (H0 ++ [c]) := by
  obtain ⟨h1, h2, h3⟩ := hP
  exact ⟨by rw [List.length_append]; omega, by rw [List.length_append]; omega, h3⟩
/-- a cell outside the world that is written -/
theorem wd_oset (hP : WOK b w H0) (ho : Out b w a) : ((wd b w wl H0 s).set a c) = wd b w wl (H0.set a c) s := by
  apply List.ext_getElem?
  intro i
  rw [List.getElem?_set, wd_len]
  by_cases hi : a = i
  · subst hi
    rw [if_pos rfl]
    by_cases hl : a < H0.length
    · rw [if_pos hl, wd_get (by rw [List.length_set]; exact hl), wd1_out ho, List.getD_eq_getElem?_getD, List.getElem?_set_self hl]; rfl
    · rw [if_neg hl, List.getElem?_eq_none (by rw [wd_len, List.length_set]; omega)]
  · rw [if_neg hi]
    by_cases hl : i < H0.length
    · rw [wd_get hl, wd_get (by rw [List.length_set]; exact hl)]
      unfold wd1
      rw [List.getD_eq_getElem?_getD, List.getD_eq_getElem?_getD, List.getElem?_set_ne hi]
    · rw [List.getElem?_eq_none (by rw [wd_len]; omega), List.getElem?_eq_none (by rw [wd_len, List.length_set]; omega)]
theorem wok_set (hP : WOK b w H0) : WOK b w (H0.set a c) := by
  obtain ⟨h1, h2, h3⟩ := hP
  exact ⟨by rw [List.length_set]; exact h1, by rw [List.length_set]; exact h2, h3⟩
end OUT
theorem nn_of37 {s t : Sg} (h : ∀ k j, k ≠ 37 → t k j = s k j) (hN : NN s) : NN t := by
  intro k j hc
  by_cases hk : k = 37
  · subst hk; cases hc
  · rw [h k j hk]; exact hN k j hc
theorem nL_at {wl : Nat} (hW : wl ≤ 6000) {z : Int32} (h1 : z.toInt ≤ 3000) (h2 : (wl : Int) < z.toInt) : 0 ≤ (nL wl z).toInt ∧ (nL wl z).toInt ≤ 6000 ∧ z.toInt ≤ (nL wl z).toInt ∧ (wl : Int) ≤ (nL wl z).toInt := by
  have e : (2 * Int32.ofNat wl).toInt = 2 * wl := by
    have h3 : (2 : Int32).toInt = 2 := rfl
    rw [Int32.toInt_mul, h3, i_wl (by omega), Int.bmod_eq_of_le (by omega) (by omega)]
  unfold nL D_J9_max_7cf53
  by_cases c : z < 2 * Int32.ofNat wl
  · rw [if_pos c, e]
    have := Int32.lt_iff_toInt_lt.mp c
    omega
  · rw [if_neg c]
    have := Int32.le_iff_toInt_le.mp (Int32.not_lt.mp c)
    omega
/-- the call: a row that is long enough is used again, otherwise there is a new one -/
theorem lk_run {sc : Nat × (Nat → Int32)} {b w wl : Nat} {H0 : List EC} {s : Sg} {kn : Nat × Nat} (hP : WOK b w H0) (hW : wl ≤ 6000) {a i : Int32} (hn : rg a 20) (hz : bz i = true) (hN : NN s) (h0 : 0 ≤ (D_X3_size 38 (D_lrun s a i)).toInt) (h1 : (D_X3_size 38 (D_lrun s a i)).toInt ≤ 3000) :
    ∃ (w' wl' : Nat) (H1 : List EC) (s' : Sg) (kn' : Nat × Nat), Rc sc 7 170 [.ref b, .int a, .int i] (wd b w wl H0 s, kn) (some (.int (D_X0_count 38 s'))) (wd b w' wl' H1 s', kn') ∧ WOK b w' H1 ∧ wl ≤ wl' ∧ wl' ≤ 6000 ∧ NN s' ∧ LK s a i s' wl' ∧ kn.1 ≤ kn'.1 ∧ kn'.1 ≤ kn.1 + 1 ∧ kn.2 ≤ kn'.2 ∧ kn'.2 ≤ kn.2 + 6000 ∧ H0.length ≤ H1.length ∧ ∀ (x : Nat) (c : EC), Out b w x → H0[x]? = some c → Out b w' x ∧ H1[x]? = some c := by
  have hn' : ¬ D_X11_isName a = 0 := by
    unfold D_X11_isName
    rw [if_neg (n_lt hn.1), if_neg (n_le hn.2 rfl)]; decide
  have hN1 : NN (D_lrun s a i) := nn_X5_run (Or.inl rfl) hN
  generalize he : (D_X3_size 38 (D_lrun s a i)).toInt = z at h0 h1
  by_cases c : (D_X3_size 38 (D_lrun s a i)) ≤ Int32.ofNat wl
  · have hc := Int32.le_iff_toInt_le.mp c
    rw [i_wl (by omega)] at hc
    have hr := rc_write_old (sc := sc) (kn := kn) hP (Or.inl rfl) (show wl < 2000000 by omega) hN1 ⟨by omega, by omega⟩ c
    obtain ⟨cz, cf⟩ := clr (s := D_lrun s a i) c (by omega) (by omega)
    have hfr : ∀ k j, k ≠ 37 → (R_X5_writeTo_cut 38 wl (D_X1_clearUpTo wl (D_lrun s a i) (D_X3_size 38 (D_lrun s a i)))) k j = (D_lrun s a i) k j := fun k j hk => (cut_fr hk).trans (cf k j hk)
    have hN2 := nn_of37 hfr hN1
    refine ⟨w, wl, H0, _, kn, m_link (b' := b) hP hP (by omega) hn' hz hN hN2 hr (Nat.le_refl _) (Nat.le_refl _), hP, Nat.le_refl _, hW, hN2, ⟨by omega, ?_, _, cf, cz, rfl⟩, Nat.le_refl _, Nat.le_succ _, Nat.le_refl _, Nat.le_add_right _ _, Nat.le_refl _, fun x c ho hx => ⟨ho, hx⟩⟩
    have e1 : D_X3_size 38 (R_X5_writeTo_cut 38 wl (D_X1_clearUpTo wl (D_lrun s a i) (D_X3_size 38 (D_lrun s a i)))) = D_X3_size 38 (D_lrun s a i) := hfr _ _ (by omega)
    rw [e1]; exact hc
  · have hc := i_nle c
    rw [i_wl (by omega)] at hc
    obtain ⟨l0, l1, l2, l3⟩ := nL_at hW (by omega) hc
    have hr := rc_write_new (sc := sc) (kn := kn) (L := (nL wl (D_X3_size 38 (D_lrun s a i))).toNatClampNeg) hP (Or.inl rfl) hN1 c (n_lt l0) rfl (by rw [tn]; omega)
    have hfr : ∀ k j, k ≠ 37 → (R_X5_writeTo_cut 38 (nL wl (D_X3_size 38 (D_lrun s a i))).toNatClampNeg (zw (D_lrun s a i))) k j = (D_lrun s a i) k j := fun k j hk => (cut_fr hk).trans (congrFun (zw_ne hk) j)
    have hN2 := nn_of37 hfr hN1
    refine ⟨H0.length, (nL wl (D_X3_size 38 (D_lrun s a i))).toNatClampNeg, nH b w wl H0 (D_lrun s a i), _, _, m_link (b' := b) hP (nH_ok hP) (by rw [tn]; omega) hn' hz hN hN2 hr (Nat.le_succ _) (Nat.le_add_right _ _), nH_ok hP, by rw [tn]; omega, by rw [tn]; omega, hN2, ⟨by rw [tn]; omega, ?_, _, fun k j hk => congrFun (zw_ne hk) j, fun j _ => rfl, rfl⟩, Nat.le_succ _, Nat.le_refl _, Nat.le_add_right _ _, ?_, by rw [nH_len]; omega, fun x c ho hx => ⟨⟨ho.1, ?_⟩, nH_out ho hx⟩⟩
    · have e1 : D_X3_size 38 (R_X5_writeTo_cut 38 (nL wl (D_X3_size 38 (D_lrun s a i))).toNatClampNeg (zw (D_lrun s a i))) = D_X3_size 38 (D_lrun s a i) := hfr _ _ (by omega)
      rw [e1, tn]; omega
    · show kn.2 + _ ≤ kn.2 + 6000
      rw [tn]; omega
    · have := (List.getElem?_eq_some_iff.mp hx).1
      omega
