/-! words ahead, sections placed, common names placed -/
def wz (q : Nat) (s : Sg) (k : Int32) (p : Nat) : Int := (s (q + 20) (k.toNatClampNeg * 8 + p)).toInt
def Wk (q : Nat) (s : Sg) (k : Int32) : Prop := ∀ p, p < 8 → 0 ≤ wz q s k p ∧ wz q s k p ≤ 12
theorem wk_sum {q : Nat} {s : Sg} {k : Int32} (h : Wk q s k) {n : Nat} (hn : n ≤ 8) : 0 ≤ isum (wz q s k) n ∧ isum (wz q s k) n ≤ isum (wz q s k) 8 ∧ isum (wz q s k) 8 ≤ 96 := by
  refine ⟨isum_nn n (fun i hi => (h i (by omega)).1), isum_mono 8 (fun i hi => (h i hi).1) hn, ?_⟩
  have := isum_12 (f := wz q s k) 8 (fun i hi => (h i hi).2)
  omega
theorem wa_sum {q : Nat} {s : Sg} {k a : Int32} (hk : rg k 24) (hw : Wk q s k) : (D_X3_wordsAhead q s k a).toInt = isum (wz q s k) (min a.toInt.toNat 8) := by
  unfold D_X3_wordsAhead R_X3_wordsAhead_34
  refine lq (B := B_X3_wordsAhead_5 q s k a) (I := fun x v => v.toInt = isum (wz q s k) x.toInt.toNat ∧ x.toInt.toNat ≤ min a.toInt.toNat 8) (J := fun v => v.toInt = isum (wz q s k) (min a.toInt.toNat 8)) 8 (by decide) (fun x v hx0 hI => ?_) (by decide) (by decide) ⟨rfl, Nat.zero_le _⟩
  obtain ⟨h1, h2⟩ := hI
  by_cases c0 : a ≤ x
  · have hc := Int32.le_iff_toInt_le.mp c0
    refine Or.inl ⟨x, v, if_pos c0, ?_⟩
    rw [h1, show x.toInt.toNat = min a.toInt.toNat 8 by omega]
  · have hc := i_nle c0
    by_cases c1 : 8 ≤ x
    · have h8 := i_le (n := 8) c1 rfl
      refine Or.inl ⟨x, v, (if_neg c0).trans (if_pos c1), ?_⟩
      rw [h1, show x.toInt.toNat = min a.toInt.toNat 8 by omega]
    · have h8 := i_lt (n := 8) c1 rfl
      have hx1 : (x + 1).toInt = x.toInt + 1 := i_add1 (by omega)
      refine Or.inr ⟨h8, _, (if_neg c0).trans (if_neg c1), ?_, by omega⟩
      have rx : rg x 8 := ⟨hx0, h8⟩
      have e : D_X3_width q s k x = s (q + 20) (k.toNatClampNeg * 8 + x.toNatClampNeg) := by
        unfold D_X3_width D_X11_isIn
        rw [if_neg (n_lt hk.1), if_neg (n_le (m := 24) (n := 24) hk.2 rfl), if_neg (by decide), if_neg (n_lt hx0), if_neg (n_le (m := 8) (n := 8) h8 rfl), if_neg (by decide), i_ma 8 8 rfl hk rx (by decide) (by decide)]
      have w := hw x.toNatClampNeg (rg_nat rx).1
      have w2 := wk_sum hw (n := x.toInt.toNat) (by omega)
      have e2 : (s (q + 20) (k.toNatClampNeg * 8 + x.toNatClampNeg)).toInt = wz q s k x.toInt.toNat := rfl
      rw [e, Int32.toInt_add, h1, e2, show (x + 1).toInt.toNat = x.toInt.toNat + 1 by omega]
      have w3 : wz q s k x.toNatClampNeg = wz q s k x.toInt.toNat := rfl
      rw [w3] at w
      rw [Int.bmod_eq_of_le (by omega) (by omega)]
      rfl
theorem n_inj {a b : Int32} (h0 : 0 ≤ a.toInt) (h1 : 0 ≤ b.toInt) (h : a.toNatClampNeg = b.toNatClampNeg) : a = b := by
  apply Int32.toInt_inj.mp
  rw [tn, tn] at h; omega
/-- the sections, one behind the other: c holds what each takes at most -/
theorem ps_at {q : Nat} (hq : q = 38 ∨ q = 60) {s : Sg} (h : Od q s s) (c : Nat → Int) (hc0 : ∀ k, k < 24 → 0 ≤ c k) (hC : isum c 24 ≤ 4000)
    (hal : ∀ j : Nat, (j : Int) < (s (q + 15) 5).toInt → pw (D_X8_align s (s (q + 16) j))) (hw : ∀ j : Nat, (j : Int) < (s (q + 15) 5).toInt → Wk q s (s (q + 16) j))
    (hco : ∀ j : Nat, (j : Int) < (s (q + 15) 5).toInt → (D_X8_align s (s (q + 16) j)).toInt - 1 + isum (wz q s (s (q + 16) j)) 8 ≤ c (s (q + 16) j).toNatClampNeg) :
    1 ≤ ((D_X3_placeSections q s) (q + 15) 11).toInt ∧ ((D_X3_placeSections q s) (q + 15) 11).toInt ≤ 1 + isum c 24 ∧ ∀ j : Nat, (j : Int) < (s (q + 15) 5).toInt → 1 ≤ ((D_X3_placeSections q s) (q + 17) (s (q + 16) j).toNatClampNeg).toInt ∧ ((D_X3_placeSections q s) (q + 17) (s (q + 16) j).toNatClampNeg).toInt + isum (wz q s (s (q + 16) j)) 8 ≤ ((D_X3_placeSections q s) (q + 15) 11).toInt := by
  have hn0 := h.n0
  have hn1 := h.n1
  have tb := h.rt.st.tk.tb
  have hns := tb.ns2
  have r24 : ∀ j : Nat, (j : Int) < (s (q + 15) 5).toInt → rg (s (q + 16) j) 24 := fun j hj => ⟨(h.od j hj).2.1, by have := (h.od j hj).2.2.1; omega⟩
  have hsum : ∀ m : Nat, (m : Int) ≤ (s (q + 15) 5).toInt → isum (fun i => c (s (q + 16) i).toNatClampNeg) m ≤ isum c 24 := fun m hm =>
    isum_inj (n := 24) (g := fun i => (s (q + 16) i).toNatClampNeg) m c hc0 (fun i hi => (rg_nat (r24 i (by omega))).1) (fun i j hij hj e => h.di i j hij (by omega) (n_inj (r24 i (by omega)).1 (r24 j (by omega)).1 e))
  have z0 : (0 : Int32).toInt = 0 := rfl
  have z1 : (1 : Int32).toInt = 1 := rfl
  unfold D_X3_placeSections R_X3_placeSections_114
  refine lq (I := fun x (z : Sg) => (∀ k j, k ≠ q + 17 → k ≠ q + 18 → (k ≠ q + 15 ∨ (j ≠ 11 ∧ j ≠ 12)) → z k j = s k j) ∧ x.toInt ≤ (s (q + 15) 5).toInt ∧ 1 ≤ (z (q + 15) 11).toInt ∧ (z (q + 15) 11).toInt ≤ 1 + isum (fun i => c (s (q + 16) i).toNatClampNeg) x.toInt.toNat ∧ ∀ j : Nat, (j : Int) < x.toInt → 1 ≤ (z (q + 17) (s (q + 16) j).toNatClampNeg).toInt ∧ (z (q + 17) (s (q + 16) j).toNatClampNeg).toInt + isum (wz q s (s (q + 16) j)) 8 ≤ (z (q + 15) 11).toInt)
    (J := fun (z : Sg) => 1 ≤ (z (q + 15) 11).toInt ∧ (z (q + 15) 11).toInt ≤ 1 + isum c 24 ∧ ∀ j : Nat, (j : Int) < (s (q + 15) 5).toInt → 1 ≤ (z (q + 17) (s (q + 16) j).toNatClampNeg).toInt ∧ (z (q + 17) (s (q + 16) j).toNatClampNeg).toInt + isum (wz q s (s (q + 16) j)) 8 ≤ (z (q + 15) 11).toInt) 24 (by decide) (fun x z hx0 hI => ?_) (by decide) (by decide) ⟨fun k j h1 h2 h3 => by rw [up_f (by omega), up_f (by omega)], by omega, by simp [up_at], by simp [up_at, isum], fun j hj => by omega⟩
  obtain ⟨hf, hx, s1, s2, hall⟩ := hI
  have e5 : z (q + 15) 5 = s (q + 15) 5 := hf _ _ (by omega) (by omega) (by omega)
  have e16 : ∀ j, z (q + 16) j = s (q + 16) j := fun j => hf _ _ (by omega) (by omega) (by omega)
  have hsx := hsum x.toInt.toNat (by omega)
  by_cases c0 : z (q + 15) 5 ≤ x
  · have hx2 := Int32.le_iff_toInt_le.mp c0
    rw [e5] at hx2
    exact Or.inl ⟨x, z, if_pos c0, s1, by omega, fun j hj => hall j (by omega)⟩
  · have hx2 := i_nle c0
    rw [e5] at hx2
    have c1 : ¬ 24 ≤ x := n_le (m := 24) (n := 24) (by omega) rfl
    have hx1 : (x + 1).toInt = x.toInt + 1 := i_add1 (by omega)
    have hj : ((x.toNatClampNeg : Nat) : Int) < (s (q + 15) 5).toInt := by rw [tn]; omega
    have rk := r24 _ hj
    have c2 : ¬ D_X11_isIn (z (q + 16) x.toNatClampNeg) 24 = 0 := by
      rw [e16]
      unfold D_X11_isIn
      rw [if_neg (n_lt rk.1), if_neg (n_le (m := 24) (n := 24) rk.2 rfl)]; decide
    refine Or.inr ⟨by omega, _, (if_neg c0).trans ((if_neg c1).trans (if_neg c2)), ?_⟩
    have ea : D_X8_align z (s (q + 16) x.toNatClampNeg) = D_X8_align s (s (q + 16) x.toNatClampNeg) := by
      unfold D_X8_align D_X8_has
      rw [hf 11 8 (by omega) (by omega) (by omega), hf 13 _ (by omega) (by omega) (by omega)]
    rw [e16, ea]
    have hp := hal _ hj
    have hwk := hw _ hj
    have hcs := hco _ hj
    have hpl := hp.le
    generalize hk : s (q + 16) x.toNatClampNeg = k at *
    have r := ru_at (x := z (q + 15) 11) (a := D_X8_align s k) (by omega) (by omega) hp
    generalize hR : D_X11_roundUp (z (q + 15) 11) (D_X8_align s k) = R at *
    have wse : ∀ v, wz q (up z (q + 17) k.toNatClampNeg v) k = wz q s k := fun v => funext fun p => by
      unfold wz; rw [up_ne (by omega), hf _ _ (by omega) (by omega) (by omega)]
    have ew : (D_X3_wordsAhead q (up z (q + 17) k.toNatClampNeg R) k 8).toInt = isum (wz q s k) 8 := by
      rw [wa_sum rk (fun p hp => by rw [wse]; exact hwk p hp), wse]; rfl
    have w0 := wk_sum hwk (n := 8) (by omega)
    generalize D_X3_wordsAhead q (up z (q + 17) k.toNatClampNeg R) k 8 = W at *
    have erw : (R + W).toInt = R.toInt + isum (wz q s k) 8 := by rw [Int32.toInt_add, ew, Int.bmod_eq_of_le (by omega) (by omega)]
    have v17 : ∀ (U V : Int32) (j : Nat), (up (up (up (up z (q + 17) k.toNatClampNeg R) (q + 18) k.toNatClampNeg W) (q + 15) 12 U) (q + 15) 11 V) (q + 17) j = if j = k.toNatClampNeg then R else z (q + 17) j := fun U V j => by simp [up_at]
    have v15 : ∀ (U V : Int32), (up (up (up (up z (q + 17) k.toNatClampNeg R) (q + 18) k.toNatClampNeg W) (q + 15) 12 U) (q + 15) 11 V) (q + 15) 11 = V := fun U V => by simp [up_at]
    refine ⟨fun i j h1 h2 h3 => by rw [up_f (by omega), up_f (by omega), up_ne h2, up_ne h1]; exact hf i j h1 h2 h3, by omega, by rw [v15, erw]; omega, ?_, ?_⟩
    · rw [v15, erw, show (x + 1).toInt.toNat = x.toInt.toNat + 1 by omega]
      show _ ≤ 1 + (isum (fun i => c (s (q + 16) i).toNatClampNeg) x.toInt.toNat + c (s (q + 16) x.toNatClampNeg).toNatClampNeg)
      rw [hk]; omega
    · intro j hj2
      rw [v15, v17, erw]
      by_cases e : (s (q + 16) j).toNatClampNeg = k.toNatClampNeg
      · have hjl : (j : Int) < (s (q + 15) 5).toInt := by omega
        have e2 : s (q + 16) j = k := n_inj (r24 j hjl).1 rk.1 e
        rw [if_pos e, e2]; omega
      · rw [if_neg e]
        have := hall j (by
          by_cases e3 : j = x.toNatClampNeg
          · rw [e3, hk] at e; exact absurd rfl e
          · rw [tn] at e3; omega)
        omega
/-- the common names behind them: d holds what each takes at most -/
theorem pcm_at {q : Nat} (hq : q = 38 ∨ q = 60) {s : Sg} (d : Nat → Int) (hd0 : ∀ n, n < 20 → 0 ≤ d n) (h1 : 1 ≤ (s (q + 15) 11).toInt) (h2 : (s (q + 15) 11).toInt + isum d 20 ≤ 6000)
    (hcm : ∀ n : Nat, n < 20 → bt_ (s (q + 12) 6) n = true → 0 ≤ (s (q + 10) n).toInt ∧ pw (s (q + 11) n) ∧ (s (q + 11) n).toInt - 1 + (s (q + 10) n).toInt ≤ d n) :
    (s (q + 15) 11).toInt ≤ ((D_X3_placeCommons q s) (q + 15) 11).toInt ∧ ((D_X3_placeCommons q s) (q + 15) 11).toInt ≤ (s (q + 15) 11).toInt + isum d 20 ∧ ∀ n : Nat, n < 20 → (D_X3_placeCommons q s) (q + 21) n = -1 ∨ (1 ≤ ((D_X3_placeCommons q s) (q + 21) n).toInt ∧ ((D_X3_placeCommons q s) (q + 21) n).toInt ≤ ((D_X3_placeCommons q s) (q + 15) 11).toInt) := by
  have z0 : (0 : Int32).toInt = 0 := rfl
  unfold D_X3_placeCommons R_X3_placeCommons_92
  refine lq (I := fun x (z : Sg) => (∀ k j, k ≠ q + 21 → (k ≠ q + 15 ∨ (j ≠ 11 ∧ j ≠ 12)) → z k j = s k j) ∧ x.toInt ≤ 20 ∧ (s (q + 15) 11).toInt ≤ (z (q + 15) 11).toInt ∧ (z (q + 15) 11).toInt ≤ (s (q + 15) 11).toInt + isum d x.toInt.toNat ∧ ∀ n : Nat, (n : Int) < x.toInt → z (q + 21) n = -1 ∨ (1 ≤ (z (q + 21) n).toInt ∧ (z (q + 21) n).toInt ≤ (z (q + 15) 11).toInt))
    (J := fun (z : Sg) => (s (q + 15) 11).toInt ≤ (z (q + 15) 11).toInt ∧ (z (q + 15) 11).toInt ≤ (s (q + 15) 11).toInt + isum d 20 ∧ ∀ n : Nat, n < 20 → z (q + 21) n = -1 ∨ (1 ≤ (z (q + 21) n).toInt ∧ (z (q + 21) n).toInt ≤ (z (q + 15) 11).toInt)) 20 (by decide) (fun x z hx0 hI => ?_) (by decide) (by decide) ⟨fun k j _ _ => rfl, by decide, Int.le_refl _, by show _ ≤ _ + (0 : Int); omega, fun n hn => by omega⟩
  obtain ⟨hf, hx, s1, s2, hall⟩ := hI
  by_cases c0 : 20 ≤ x
  · have hx2 := i_le (n := 20) c0 rfl
    have e : x.toInt.toNat = 20 := by omega
    rw [e] at s2
    exact Or.inl ⟨x, z, if_pos c0, s1, s2, fun n hn => hall n (by omega)⟩
  · have hx2 := i_lt (n := 20) c0 rfl
    have hx1 : (x + 1).toInt = x.toInt + 1 := i_add1 (by omega)
    have hmono := isum_mono (f := d) (n := x.toInt.toNat + 1) 20 (fun i hi => hd0 i hi) (by omega)
    have hst : isum d (x.toInt.toNat + 1) = isum d x.toInt.toNat + d x.toInt.toNat := rfl
    have hdx := hd0 x.toInt.toNat (by omega)
    have hxe : (x + 1).toInt.toNat = x.toInt.toNat + 1 := by omega
    by_cases c1 : D_X7_hasCommon q z x = 0
    · refine Or.inr ⟨hx2, _, (if_neg c0).trans (if_pos c1), fun k j h3 h4 => by rw [up_ne h3]; exact hf k j h3 h4, by omega, by rw [up_ne (by omega)]; exact s1, by rw [up_ne (by omega), hxe]; omega, fun n hn => ?_⟩
      rw [up_ne (show q + 15 ≠ q + 21 by omega), up_at]
      by_cases c : n = x.toNatClampNeg
      · rw [if_pos ⟨rfl, c⟩]; exact Or.inl rfl
      · rw [if_neg (fun e => c e.2)]; exact hall n (by rw [tn] at c; omega)
    · obtain ⟨hr, hb⟩ := hc_z c1
      rw [hf (q + 12) 6 (by omega) (by omega)] at hb
      obtain ⟨w1, w2, w3⟩ := hcm _ (rg_nat hr).1 hb
      have ea : D_X9_align q z x = s (q + 11) x.toNatClampNeg := by
        unfold D_X9_align D_X11_isName
        rw [if_neg (n_lt hr.1), if_neg (n_le (m := 20) (n := 20) hr.2 rfl), if_neg (by decide), hf _ _ (by omega) (by omega)]
      have es : D_X9_size q z x = s (q + 10) x.toNatClampNeg := by
        unfold D_X9_size D_X11_isName
        rw [if_neg (n_lt hr.1), if_neg (n_le (m := 20) (n := 20) hr.2 rfl), if_neg (by decide), hf _ _ (by omega) (by omega)]
      refine Or.inr ⟨hx2, _, (if_neg c0).trans (if_neg c1), ?_⟩
      rw [size_up (show q + 21 ≠ q + 10 by omega), size_up (show q + 15 ≠ q + 10 by omega), size_up (show q + 21 ≠ q + 10 by omega), ea, es]
      have w3 : (s (q + 11) x.toNatClampNeg).toInt - 1 + (s (q + 10) x.toNatClampNeg).toInt ≤ d x.toInt.toNat := w3
      have hpl := w2.le
      generalize s (q + 11) x.toNatClampNeg = A at *
      generalize s (q + 10) x.toNatClampNeg = W at *
      have r := ru_at (x := z (q + 15) 11) (a := A) (by omega) (by omega) w2
      generalize D_X11_roundUp (z (q + 15) 11) A = R at *
      have erw : (R + W).toInt = R.toInt + W.toInt := by rw [Int32.toInt_add, Int.bmod_eq_of_le (by omega) (by omega)]
      have v21 : ∀ (U V : Int32) (j : Nat), (up (up (up z (q + 21) x.toNatClampNeg R) (q + 15) 12 U) (q + 15) 11 V) (q + 21) j = if j = x.toNatClampNeg then R else z (q + 21) j := fun U V j => by simp [up_at]
      have v15 : ∀ (U V : Int32), (up (up (up z (q + 21) x.toNatClampNeg R) (q + 15) 12 U) (q + 15) 11 V) (q + 15) 11 = V := fun U V => by simp [up_at]
      refine ⟨fun k j h3 h4 => by rw [up_f (by omega), up_f (by omega), up_ne h3]; exact hf k j h3 h4, by omega, by rw [v15, erw]; omega, by rw [v15, erw, hxe, hst]; omega, fun n hn => ?_⟩
      rw [v15, v21, erw]
      by_cases c : n = x.toNatClampNeg
      · rw [if_pos c]; exact Or.inr ⟨by omega, by omega⟩
      · rw [if_neg c]
        rcases hall n (by rw [tn] at c; omega) with e | ⟨e1, e2⟩
        · exact Or.inl e
        · exact Or.inr ⟨e1, by omega⟩
