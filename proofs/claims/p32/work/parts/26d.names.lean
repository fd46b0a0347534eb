/-! names placed; no jump is made long where all is near -/
theorem r24_of {q : Nat} {s : Sg} (h : Od q s s) {j : Nat} (hj : (j : Int) < (s (q + 15) 5).toInt) : rg (s (q + 16) j) 24 := ⟨(h.od j hj).2.1, by have := (h.od j hj).2.2.1; have := h.rt.st.tk.tb.ns2; omega⟩
theorem cov_at {q : Nat} {s : Sg} (h : Od q s s) (hcv : Cov q s) {k : Int32} (hk : ¬ D_X7_hasSection q s k = 0) : ∃ j : Nat, (j : Int) < (s (q + 15) 5).toInt ∧ s (q + 16) j = k := by
  obtain ⟨r1, r2⟩ := hs_z.mp hk
  obtain ⟨j, h1, h2⟩ := hcv _ (rg_nat r1).1 r2
  exact ⟨j, h1, n_inj (r24_of h h1).1 r1.1 h2⟩
theorem an_at {q : Nat} {s : Sg} (h : Od q s s) (hcv : Cov q s) (hw : ∀ j : Nat, (j : Int) < (s (q + 15) 5).toInt → Wk q s (s (q + 16) j))
    (had : ∀ j : Nat, (j : Int) < (s (q + 15) 5).toInt → 1 ≤ (s (q + 17) (s (q + 16) j).toNatClampNeg).toInt ∧ (s (q + 17) (s (q + 16) j).toNatClampNeg).toInt + isum (wz q s (s (q + 16) j)) 8 ≤ (s (q + 15) 11).toInt)
    (hnm : ∀ n : Nat, n < 20 → s (q + 21) n = -1 ∨ (1 ≤ (s (q + 21) n).toInt ∧ (s (q + 21) n).toInt ≤ (s (q + 15) 11).toInt)) (hz : (s (q + 15) 11).toInt ≤ 100000) :
    ∀ n : Nat, n < 20 → (D_X3_addressNames q s) (q + 21) n = -1 ∨ (1 ≤ ((D_X3_addressNames q s) (q + 21) n).toInt ∧ ((D_X3_addressNames q s) (q + 21) n).toInt ≤ (s (q + 15) 11).toInt) := by
  have main : (∀ k j, k ≠ q + 21 → (D_X3_addressNames q s) k j = s k j) ∧ ∀ n : Nat, n < 20 → (D_X3_addressNames q s) (q + 21) n = -1 ∨ (1 ≤ ((D_X3_addressNames q s) (q + 21) n).toInt ∧ ((D_X3_addressNames q s) (q + 21) n).toInt ≤ (s (q + 15) 11).toInt) := by
    unfold D_X3_addressNames R_X3_addressNames_69
    refine itr_inv (B := uc2 (B_X3_addressNames_2 q)) (I := fun z => (∀ k j, k ≠ q + 21 → z.2 k j = s k j) ∧ ∀ n : Nat, n < 20 → z.2 (q + 21) n = -1 ∨ (1 ≤ (z.2 (q + 21) n).toInt ∧ (z.2 (q + 21) n).toInt ≤ (s (q + 15) 11).toInt)) (fun z hz1 => ?_) BIG (0, s) ⟨fun _ _ _ => rfl, hnm⟩
    obtain ⟨x, z⟩ := z
    have hz1 : (∀ k j, k ≠ q + 21 → z k j = s k j) ∧ ∀ n : Nat, n < 20 → z (q + 21) n = -1 ∨ (1 ≤ (z (q + 21) n).toInt ∧ (z (q + 21) n).toInt ≤ (s (q + 15) 11).toInt) := hz1
    show (∀ k j, k ≠ q + 21 → (B_X3_addressNames_2 q x z).2.2 k j = s k j) ∧ ∀ n : Nat, n < 20 → (B_X3_addressNames_2 q x z).2.2 (q + 21) n = -1 ∨ (1 ≤ ((B_X3_addressNames_2 q x z).2.2 (q + 21) n).toInt ∧ ((B_X3_addressNames_2 q x z).2.2 (q + 21) n).toInt ≤ (s (q + 15) 11).toInt)
    obtain ⟨hf, hall⟩ := hz1
    unfold B_X3_addressNames_2
    by_cases c0 : 20 ≤ x
    · rw [if_pos c0]; exact ⟨hf, hall⟩
    · rw [if_neg c0]
      by_cases c1 : D_X7_hasSection q z (D_X9_sectionOf q z x) = 0
      · rw [if_pos c1]; exact ⟨hf, hall⟩
      · rw [if_neg c1]
        by_cases c2 : D_X11_isIn (D_X9_sectionOf q z x) 24 = 0
        · rw [if_pos c2]; exact ⟨hf, hall⟩
        · rw [if_neg c2]
          generalize D_X9_sectionOf q z x = k at *
          generalize D_X9_placeOf q z x = p at *
          have c1' : ¬ D_X7_hasSection q s k = 0 := by rw [hs_eq (s := z) (hf (q + 12) 5 (by omega)).symm]; exact c1
          obtain ⟨j, j1, j2⟩ := cov_at h hcv c1'
          have hwk := hw j j1
          have ha := had j j1
          rw [j2] at hwk ha
          have wse : wz q z k = wz q s k := funext fun i => by unfold wz; rw [hf _ _ (by omega)]
          have ew := wa_sum (s := z) (k := k) (a := p) (hs_z.mp c1').1 (fun i hi => by rw [wse]; exact hwk i hi)
          rw [wse] at ew
          have wb := wk_sum hwk (n := min p.toInt.toNat 8) (by omega)
          show (∀ i j, i ≠ q + 21 → (up z (q + 21) x.toNatClampNeg ((z (q + 17) k.toNatClampNeg) + (D_X3_wordsAhead q z k p))) i j = s i j) ∧ ∀ n : Nat, n < 20 → (up z (q + 21) x.toNatClampNeg ((z (q + 17) k.toNatClampNeg) + (D_X3_wordsAhead q z k p))) (q + 21) n = -1 ∨ (1 ≤ ((up z (q + 21) x.toNatClampNeg ((z (q + 17) k.toNatClampNeg) + (D_X3_wordsAhead q z k p))) (q + 21) n).toInt ∧ ((up z (q + 21) x.toNatClampNeg ((z (q + 17) k.toNatClampNeg) + (D_X3_wordsAhead q z k p))) (q + 21) n).toInt ≤ (s (q + 15) 11).toInt)
          refine ⟨fun i j hi => by rw [up_ne hi]; exact hf i j hi, fun n hn => ?_⟩
          rw [up_at]
          by_cases c : n = x.toNatClampNeg
          · rw [if_pos ⟨rfl, c⟩, hf (q + 17) _ (by omega), Int32.toInt_add, ew, Int.bmod_eq_of_le (by omega) (by omega)]
            exact Or.inr ⟨by omega, by omega⟩
          · rw [if_neg (fun e => c e.2)]; exact hall n hn
  exact main.2
theorem abs_at {d : Int32} {Z : Int} (h0 : -Z ≤ d.toInt) (h1 : d.toInt ≤ Z) (hZ : Z ≤ 100000) : (D_J9_abs_0f7a4 d).toInt ≤ Z := by
  unfold D_J9_abs_0f7a4
  by_cases c : 0 ≤ d
  · rw [if_pos c]; exact h1
  · rw [if_neg c, Int32.toInt_neg, Int.bmod_eq_of_le (by omega) (by omega)]; omega
theorem st_at {q : Nat} {s : Sg} {Z : Int} (hZ : 0 ≤ Z) (hnm : ∀ n : Nat, n < 20 → s (q + 21) n = -1 ∨ (1 ≤ (s (q + 21) n).toInt ∧ (s (q + 21) n).toInt ≤ Z)) (n : Int32) : 0 ≤ (D_X3_standsFor q s n).toInt ∧ (D_X3_standsFor q s n).toInt ≤ Z := by
  have z0 : (0 : Int32).toInt = 0 := rfl
  unfold D_X3_standsFor
  by_cases c : D_X11_isName n = 0
  · rw [if_pos c, z0]; omega
  · rw [if_neg c]
    by_cases d : s (q + 21) n.toNatClampNeg = -1
    · rw [if_pos d, z0]; omega
    · rw [if_neg d]
      rcases hnm _ (rg_nat (rg_isName c)).1 with e | ⟨e1, e2⟩
      · exact absurd e d
      · omega
theorem li_at {q : Nat} {s : Sg} {k a : Int32} {Z : Int} (hk : rg k 24) (hw : Wk q s k) (h1 : 1 ≤ (s (q + 17) k.toNatClampNeg).toInt) (h2 : (s (q + 17) k.toNatClampNeg).toInt + isum (wz q s k) 8 ≤ Z) (hst : ∀ n, 0 ≤ (D_X3_standsFor q s n).toInt ∧ (D_X3_standsFor q s n).toInt ≤ Z) (hZ : Z ≤ a.toInt) (hZ2 : Z ≤ 100000) : D_X3_lengthenIn q s k a = (0, s) := by
  have hI : ¬ D_X11_isIn k 24 = 0 := by
    unfold D_X11_isIn
    rw [if_neg (n_lt hk.1), if_neg (n_le (m := 24) (n := 24) hk.2 rfl)]; decide
  unfold D_X3_lengthenIn R_X3_lengthenIn_139
  rw [if_neg hI, uc4_2]
  have main := lq (B := fun x (z : Int32 × Int32 × Sg) => B_X3_lengthenIn_24 q k a x z.1 z.2.1 z.2.2) (I := fun x z => z.1 = 0 ∧ z.2.1.toInt = (s (q + 17) k.toNatClampNeg).toInt + isum (wz q s k) x.toInt.toNat ∧ z.2.2 = s) (J := fun z => z.1 = 0 ∧ z.2.2 = s) 8 (by decide) (fun x z hx0 hI2 => ?_) (x := 0) (s := (0, s (q + 17) k.toNatClampNeg, s)) (by decide) (by decide) ⟨rfl, by show (s (q + 17) k.toNatClampNeg).toInt = (s (q + 17) k.toNatClampNeg).toInt + (0 : Int); omega, rfl⟩
  · exact Prod.ext main.1 main.2
  · obtain ⟨z3, z4, s1⟩ := z
    have hI3 : z3 = 0 ∧ z4.toInt = (s (q + 17) k.toNatClampNeg).toInt + isum (wz q s k) x.toInt.toNat ∧ s1 = s := hI2
    clear hI2
    obtain ⟨rfl, e4, rfl⟩ := hI3
    by_cases c0 : 8 ≤ x
    · exact Or.inl ⟨x, (0, z4, s1), if_pos c0, rfl, rfl⟩
    · have hx := i_lt (n := 8) c0 rfl
      have hx1 : (x + 1).toInt = x.toInt + 1 := i_add1 (by omega)
      have rx : rg x 8 := ⟨hx0, hx⟩
      have ei := i_ma (x := k) (y := x) 8 8 rfl hk rx (by decide) (by decide)
      have ew : (s1 (q + 20) ((k * 8) + x).toNatClampNeg).toInt = wz q s1 k x.toInt.toNat := by rw [ei]; rfl
      have w := hw x.toInt.toNat (by omega)
      have wb := wk_sum hw (n := x.toInt.toNat) (by omega)
      have wb2 := wk_sum hw (n := x.toInt.toNat + 1) (by omega)
      have hst1 : isum (wz q s1 k) (x.toInt.toNat + 1) = isum (wz q s1 k) x.toInt.toNat + wz q s1 k x.toInt.toNat := rfl
      have ea : (z4 + s1 (q + 20) ((k * 8) + x).toNatClampNeg).toInt = (s1 (q + 17) k.toNatClampNeg).toInt + isum (wz q s1 k) (x + 1).toInt.toNat := by
        rw [Int32.toInt_add, ew, e4, Int.bmod_eq_of_le (by omega) (by omega), show (x + 1).toInt.toNat = x.toInt.toNat + 1 by omega, hst1]; omega
      refine Or.inr ⟨hx, ?_⟩
      have fin : (0 : Int32) = 0 ∧ (z4 + s1 (q + 20) ((k * 8) + x).toNatClampNeg).toInt = (s1 (q + 17) k.toNatClampNeg).toInt + isum (wz q s1 k) (x + 1).toInt.toNat ∧ s1 = s1 := ⟨rfl, ea, rfl⟩
      by_cases c1 : D_X8_kind s1 k x = 2
      · by_cases c2 : s1 (q + 20) ((k * 8) + x).toNatClampNeg = 2
        · have c3 : (D_J9_abs_0f7a4 ((z4 + (s1 (q + 20) ((k * 8) + x).toNatClampNeg)) - (D_X3_standsFor q s1 (D_X8_name s1 k x)))) ≤ a := by
            have t := hst (D_X8_name s1 k x)
            rw [show (x + 1).toInt.toNat = x.toInt.toNat + 1 by omega] at ea
            have ed : ((z4 + (s1 (q + 20) ((k * 8) + x).toNatClampNeg)) - (D_X3_standsFor q s1 (D_X8_name s1 k x))).toInt = (z4 + s1 (q + 20) ((k * 8) + x).toNatClampNeg).toInt - (D_X3_standsFor q s1 (D_X8_name s1 k x)).toInt := by
              rw [Int32.toInt_sub, Int.bmod_eq_of_le (by omega) (by omega)]
            exact Int32.le_iff_toInt_le.mpr (Int.le_trans (abs_at (Z := Z) (by omega) (by omega) hZ2) hZ)
          exact ⟨(0, z4 + (s1 (q + 20) ((k * 8) + x).toNatClampNeg), s1), (if_neg c0).trans ((if_pos c1).trans ((if_pos c2).trans (if_pos c3))), fin⟩
        · exact ⟨(0, z4 + (s1 (q + 20) ((k * 8) + x).toNatClampNeg), s1), (if_neg c0).trans ((if_pos c1).trans (if_neg c2)), fin⟩
      · exact ⟨(0, z4 + (s1 (q + 20) ((k * 8) + x).toNatClampNeg), s1), (if_neg c0).trans (if_neg c1), fin⟩
theorem la_at {q : Nat} {s : Sg} {a : Int32} (h : ∀ j : Nat, (j : Int) < (s (q + 15) 5).toInt → D_X3_lengthenIn q s (s (q + 16) j) a = (0, s)) : D_X3_lengthenAll q s a = (0, s) := by
  unfold D_X3_lengthenAll R_X3_lengthenAll_40
  rw [uc3_2]
  have main := lq (B := fun x (z : Int32 × Sg) => B_X3_lengthenAll_4 q a x z.1 z.2) (I := fun x z => z.1 = 0 ∧ z.2 = s) (J := fun z => z.1 = 0 ∧ z.2 = s) 24 (by decide) (fun x z hx0 hI2 => ?_) (x := 0) (s := (0, s)) (by decide) (by decide) ⟨rfl, rfl⟩
  · exact Prod.ext main.1 main.2
  · obtain ⟨z2, s1⟩ := z
    have hI3 : z2 = 0 ∧ s1 = s := hI2
    clear hI2
    obtain ⟨rfl, rfl⟩ := hI3
    by_cases c0 : s1 (q + 15) 5 ≤ x
    · exact Or.inl ⟨x, (0, s1), if_pos c0, rfl, rfl⟩
    · by_cases c1 : 24 ≤ x
      · exact Or.inl ⟨x, (0, s1), (if_neg c0).trans (if_pos c1), rfl, rfl⟩
      · have hx := i_nle c0
        have e := h x.toNatClampNeg (by rw [tn]; omega)
        have e1 : (D_X3_lengthenIn q s1 (s1 (q + 16) x.toNatClampNeg) a).1 = 0 := by rw [e]
        refine Or.inr ⟨i_lt c1 rfl, (0, (D_X3_lengthenIn q s1 (s1 (q + 16) x.toNatClampNeg) a).2), (if_neg c0).trans ((if_neg c1).trans (if_pos e1)), rfl, by rw [e]⟩
/-- what lengthening leaves: a width is as it was, or 5 -/
theorem lin_5 {q : Nat} {s : Sg} {k a : Int32} (i : Nat) : (D_X3_lengthenIn q s k a).2 (q + 20) i = s (q + 20) i ∨ (D_X3_lengthenIn q s k a).2 (q + 20) i = 5 := by
  unfold D_X3_lengthenIn R_X3_lengthenIn_139
  by_cases c : D_X11_isIn k 24 = 0
  · rw [if_pos c]; exact Or.inl rfl
  · rw [if_neg c]
    refine itr_inv (B := uc4 (B_X3_lengthenIn_24 q k a)) (I := fun z => z.2.2.2 (q + 20) i = s (q + 20) i ∨ z.2.2.2 (q + 20) i = 5) (fun z hz => ?_) BIG (0, 0, (s (q + 17) k.toNatClampNeg), s) (Or.inl rfl)
    obtain ⟨x5, x3, x4, z⟩ := z
    have hz : z (q + 20) i = s (q + 20) i ∨ z (q + 20) i = 5 := hz
    show (B_X3_lengthenIn_24 q k a x5 x3 x4 z).2.2.2.2 (q + 20) i = s (q + 20) i ∨ (B_X3_lengthenIn_24 q k a x5 x3 x4 z).2.2.2.2 (q + 20) i = 5
    unfold B_X3_lengthenIn_24
    by_cases c0 : 8 ≤ x5
    · rw [if_pos c0]; exact hz
    · rw [if_neg c0]
      by_cases c1 : D_X8_kind z k x5 = 2
      · rw [if_pos c1]
        by_cases c2 : z (q + 20) ((k * 8) + x5).toNatClampNeg = 2
        · rw [if_pos c2]
          by_cases c3 : (D_J9_abs_0f7a4 ((x4 + (z (q + 20) ((k * 8) + x5).toNatClampNeg)) - (D_X3_standsFor q z (D_X8_name z k x5)))) ≤ a
          · rw [if_pos c3]; exact hz
          · rw [if_neg c3]
            show (up (up z (q + 20) ((k * 8) + x5).toNatClampNeg 5) (q + 19) k.toNatClampNeg ((z (q + 19) k.toNatClampNeg) + 1)) (q + 20) i = s (q + 20) i ∨ (up (up z (q + 20) ((k * 8) + x5).toNatClampNeg 5) (q + 19) k.toNatClampNeg ((z (q + 19) k.toNatClampNeg) + 1)) (q + 20) i = 5
            rw [up_ne (by omega), up_at]
            by_cases c : i = ((k * 8) + x5).toNatClampNeg
            · rw [if_pos ⟨rfl, c⟩]; exact Or.inr rfl
            · rw [if_neg (fun e => c e.2)]; exact hz
        · rw [if_neg c2]; exact hz
      · rw [if_neg c1]; exact hz
theorem lall_5 {q : Nat} {s : Sg} {a : Int32} (i : Nat) : (D_X3_lengthenAll q s a).2 (q + 20) i = s (q + 20) i ∨ (D_X3_lengthenAll q s a).2 (q + 20) i = 5 := by
  unfold D_X3_lengthenAll R_X3_lengthenAll_40
  refine itr_inv (B := uc3 (B_X3_lengthenAll_4 q a)) (I := fun z => z.2.2 (q + 20) i = s (q + 20) i ∨ z.2.2 (q + 20) i = 5) (fun z hz => ?_) BIG (0, 0, s) (Or.inl rfl)
  obtain ⟨x3, x2, z⟩ := z
  have hz : z (q + 20) i = s (q + 20) i ∨ z (q + 20) i = 5 := hz
  show (B_X3_lengthenAll_4 q a x3 x2 z).2.2.2 (q + 20) i = s (q + 20) i ∨ (B_X3_lengthenAll_4 q a x3 x2 z).2.2.2 (q + 20) i = 5
  unfold B_X3_lengthenAll_4
  have hl : (D_X3_lengthenIn q z (z (q + 16) x3.toNatClampNeg) a).2 (q + 20) i = s (q + 20) i ∨ (D_X3_lengthenIn q z (z (q + 16) x3.toNatClampNeg) a).2 (q + 20) i = 5 := by
    rcases lin_5 (q := q) (s := z) (k := z (q + 16) x3.toNatClampNeg) (a := a) i with e | e
    · rw [e]; exact hz
    · exact Or.inr e
  by_cases c0 : z (q + 15) 5 ≤ x3
  · rw [if_pos c0]; exact hz
  · rw [if_neg c0]
    by_cases c1 : 24 ≤ x3
    · rw [if_pos c1]; exact hz
    · rw [if_neg c1]
      by_cases c2 : (D_X3_lengthenIn q z (z (q + 16) x3.toNatClampNeg) a).1 = 0
      · rw [if_pos c2]; exact hl
      · rw [if_neg c2]; exact hl
