theorem hs_z {q : Nat} {s : Sg} {a : Int32} : ¬ D_X7_hasSection q s a = 0 ↔ rg a 24 ∧ bt_ (s (q + 12) 5) a.toNatClampNeg = true := by
  unfold D_X7_hasSection
  by_cases c : D_X11_isIn a 24 = 0
  · rw [if_pos c]
    refine ⟨fun q => absurd rfl q, fun h => absurd c ?_⟩
    unfold D_X11_isIn
    rw [if_neg (n_lt h.1.1), if_neg (n_le (m := 24) (n := 24) h.1.2 rfl)]
    decide
  · have hr := rg_isIn c (n := 24) rfl
    have r32 : rg a 32 := ⟨hr.1, by have := hr.2; omega⟩
    rw [if_neg c]
    by_cases d : D_X11_hasBit (s (q + 12) 5) a = 0
    · rw [if_pos d]
      exact ⟨fun q => absurd rfl q, fun h => absurd d ((hb_n r32).mpr h.2)⟩
    · rw [if_neg d]
      exact ⟨fun _ => ⟨hr, (hb_n r32).mp d⟩, fun _ => by decide⟩
theorem hs_eq {q : Nat} {s t : Sg} (h : t (q + 12) 5 = s (q + 12) 5) {a : Int32} : D_X7_hasSection q t a = D_X7_hasSection q s a := by
  unfold D_X7_hasSection; rw [h]
theorem fr_append {q : Nat} {s : Sg} {a : Int32} {k j : Nat} (h : k < q + 15) : (D_X3_append q s a) k j = s k j := fw_X3_append (by omega) (by omega) (by omega) (by omega)
theorem od_append {q : Nat} (hq : q = 38 ∨ q = 60) {s t : Sg} (h : Od q s t) {a : Int32} (h0 : 0 ≤ a.toInt) (h1 : a.toInt < (s 11 8).toInt) (hb : bt_ (s (q + 12) 5) a.toNatClampNeg = true) (hnew : ∀ j : Nat, (j : Int) < (s (q + 15) 5).toInt → (s (q + 16) j).toNatClampNeg ≠ a.toNatClampNeg) :
    Od q (D_X3_append q s a) (D_X3_append q t a) ∧ (D_X3_append q s a) (q + 15) 5 = s (q + 15) 5 + 1 ∧ (s (q + 15) 5).toInt < 24 ∧ ∀ j, (D_X3_append q s a) (q + 16) j = if j = (s (q + 15) 5).toNatClampNeg then a else s (q + 16) j := by
  have tb := h.rt.st.tk.tb
  have hn1 := tb.ns1
  have hn2 := tb.ns2
  have hn0 := h.n0
  have ha : rg a 24 := ⟨h0, by omega⟩
  have haN : a.toNatClampNeg < 24 := (rg_nat ha).1
  obtain ⟨c, hc1, hc2⟩ := h.cc
  have hcf : c a.toNatClampNeg = false := by
    cases hc : c a.toNatClampNeg with
    | false => rfl
    | true =>
      obtain ⟨j, z1, z2⟩ := (hc1 _ haN).mp hc
      exact absurd z2 (hnew j z1)
  have hlt : (s (q + 15) 5).toInt < 24 := by have := cn_lt 24 c _ haN hcf; omega
  have hi : (s (q + 15) 5 + 1).toInt = (s (q + 15) 5).toInt + 1 := i_add1 (by omega)
  have hN : (s (q + 15) 5).toNatClampNeg = (s (q + 15) 5).toInt.toNat := rfl
  obtain ⟨a1, a2, a3, a4, a5⟩ := ap_at hq ha hlt
  obtain ⟨b1, b2, b3, b4, b5⟩ := ap_at hq (s := t) ha (by rw [h.n]; exact hlt)
  refine ⟨⟨h.rt.of (fun k j hk => fr_append (by omega)) (fun k j hk => fr_append (by omega)), ?_, ?_, ?_, ?_, ?_, ?_, ?_, ?_⟩, a1, hlt, a2⟩
  · rw [a1, b1, h.n]
  · rw [a1, hi]; omega
  · rw [a1, hi]; omega
  · rw [a1, hi, fr_append (k := 11) (by omega), fr_append (k := q + 12) (by omega)]
    intro j hj
    rw [a2, b2, h.n]
    by_cases e : j = (s (q + 15) 5).toNatClampNeg
    · rw [if_pos e, if_pos e]; exact ⟨rfl, h0, h1, hb⟩
    · rw [if_neg e, if_neg e]; exact h.od j (by omega)
  · rw [a1, hi]
    intro j hj
    rw [a2, a3, b3]
    by_cases e : j = (s (q + 15) 5).toNatClampNeg
    · rw [if_pos e, if_pos rfl, if_pos rfl]
    · rw [if_neg e, if_neg (hnew j (by omega)), if_neg (hnew j (by omega))]; exact h.ln j (by omega)
  · rw [a1, hi]
    intro j p hj hp
    rw [a2]
    by_cases e : j = (s (q + 15) 5).toNatClampNeg
    · rw [if_pos e, a4 p hp, b4 p hp, x8_words tb]
    · have hne := hnew j (by omega)
      rw [if_neg e, a5 _ (by omega), b5 _ (by omega)]; exact h.wi j p (by omega) hp
  · rw [a1, hi]
    intro i j hij hj
    rw [a2, a2, if_neg (show ¬ i = (s (q + 15) 5).toNatClampNeg by omega)]
    by_cases e : j = (s (q + 15) 5).toNatClampNeg
    · rw [if_pos e]
      intro q2
      exact hnew i (by omega) (by rw [q2])
    · rw [if_neg e]; exact h.di i j hij (by omega)
  · rw [a1, hi]
    refine ⟨fun k => c k || decide (k = a.toNatClampNeg), fun k hk => ?_, by rw [cn_set 24 c _ _ haN hcf (fun i _ => rfl)]; omega⟩
    show (c k || decide (k = a.toNatClampNeg)) = true ↔ _
    rw [Bool.or_eq_true, decide_eq_true_iff, hc1 k hk]
    constructor
    · rintro (⟨j, z1, z2⟩ | e)
      · exact ⟨j, by omega, by rw [a2, if_neg (show ¬ j = (s (q + 15) 5).toNatClampNeg by omega)]; exact z2⟩
      · exact ⟨(s (q + 15) 5).toNatClampNeg, by omega, by rw [a2, if_pos rfl]; exact e.symm⟩
    · rintro ⟨j, z1, z2⟩
      rw [a2] at z2
      by_cases e : j = (s (q + 15) 5).toNatClampNeg
      · rw [if_pos e] at z2; exact Or.inr z2.symm
      · rw [if_neg e] at z2; exact Or.inl ⟨j, by omega, z2⟩
theorem bt_lt {a : Int32} {k : Nat} (h : bt_ a k = true) : k < 32 := by
  by_cases c : k < 32
  · exact c
  · unfold bt_ at h
    rw [BitVec.getLsbD_of_ge _ _ (by omega)] at h
    cases h
/-- all that is reached has its place in the order -/
def Cov (q : Nat) (s : Sg) : Prop := ∀ k : Nat, k < 24 → bt_ (s (q + 12) 5) k = true → ∃ j : Nat, (j : Int) < (s (q + 15) 5).toInt ∧ (s (q + 16) j).toNatClampNeg = k
theorem od_order {q : Nat} (hq : q = 38 ∨ q = 60) {s t : Sg} (h : Rt q s t) : Od q (D_X3_orderSections q s) (D_X3_orderSections q t) ∧ Cov q (D_X3_orderSections q s) := by
  have tk := h.st.tk
  have tb := tk.tb
  have hn1 := tb.ns1
  have hn2 := tb.ns2
  have hc1 := tk.n1
  have z0 : (0 : Int32).toInt = 0 := rfl
  have start : Od q (up s (q + 15) 5 0) (up t (q + 15) 5 0) := by
    have e : ∀ z : Sg, (up z (q + 15) 5 0) (q + 15) 5 = 0 := fun z => by simp [up_at]
    refine ⟨h.of (fun k j hk => by rw [up_ne (by omega)]) (fun k j hk => by rw [up_ne (by omega)]), by rw [e, e], by rw [e]; decide, by rw [e]; decide, ?_, ?_, ?_, ?_, ⟨fun _ => false, fun k _ => ?_, by rw [e]; rfl⟩⟩
    · rw [e]; intro j hj; omega
    · rw [e]; intro j hj; omega
    · rw [e]; intro j p hj; omega
    · rw [e]; intro i j hi hj; omega
    · rw [e]
      constructor
      · intro q2; cases q2
      · rintro ⟨j, hj, _⟩; omega
  unfold D_X3_orderSections R_X3_orderSections_80
  refine lpB (I := fun x s1 t1 => Od q s1 t1 ∧ (∀ k j, k < q + 15 → s1 k j = s k j) ∧ (∀ j : Nat, (j : Int) < (s1 (q + 15) 5).toInt → ∃ i : Nat, (i : Int) < x.toInt ∧ (i : Int) < (s (q + 3) 3).toInt ∧ s (q + 4) i = s 12 (s1 (q + 16) j).toNatClampNeg) ∧ (∀ i : Nat, (i : Int) < x.toInt → (i : Int) < (s (q + 3) 3).toInt → ∀ k, k < 24 → bt_ (s (q + 12) 5) k = true → (s 12 k).toNatClampNeg = (s (q + 4) i).toNatClampNeg → ∃ j : Nat, (j : Int) < (s1 (q + 15) 5).toInt ∧ (s1 (q + 16) j).toNatClampNeg = k)) (J := fun s1 t1 => Od q s1 t1 ∧ Cov q s1) 10 (by decide) (fun x s1 t1 hx0 hI => ?_) (by decide) (by decide) ⟨start, fun k j hk => by rw [up_ne (by omega)], fun j hj => by simp only [up_at] at hj; simp at hj; omega, fun i hi => by omega⟩
  obtain ⟨hk, hf, hown, hcov⟩ := hI
  have e3 : D_X10_count q t1 = D_X10_count q s1 := hk.rt.st.tk.n
  have e3' : D_X10_count q s1 = s (q + 3) 3 := hf _ _ (by omega)
  by_cases c0 : D_X10_count q s1 ≤ x
  · refine Or.inl ⟨x, x, s1, t1, if_pos c0, if_pos (by rw [e3]; exact c0), hk, ?_⟩
    rw [e3'] at c0
    have hx : (s (q + 3) 3).toInt ≤ x.toInt := Int32.le_iff_toInt_le.mp c0
    intro k hk24 hb
    rw [hf _ _ (by omega)] at hb
    obtain ⟨w1, w2⟩ := h.bs k hk24 hb
    obtain ⟨i, v1, v2⟩ := tk.cb (s 12 k).toNatClampNeg (bt_lt w2) w2
    exact hcov i (by omega) v1 k hk24 hb v2.symm
  · have c0' : ¬ D_X10_count q t1 ≤ x := by rw [e3]; exact c0
    have hx : x.toInt < (s (q + 3) 3).toInt := by have := i_nle c0; rw [e3'] at this; exact this
    have hx1 : (x + 1).toInt = x.toInt + 1 := i_add1 (by omega)
    have hx3 : x.toInt < (s1 (q + 3) 3).toInt := by rw [hf _ _ (by omega)]; exact hx
    obtain ⟨o1, o2, o3, o4⟩ := oat hk.rt.st.tk hx0 hx3
    have ov := oat_v hk.rt.st.tk hx0 hx3
    rw [hf (q + 4) _ (by omega)] at ov
    obtain ⟨w1, w2, w3, w4⟩ := tk.ob x.toNatClampNeg (by rw [tn]; omega)
    refine Or.inr (Or.inl ⟨by omega, _, _, if_neg c0, if_neg c0', ?_⟩)
    rw [o1, ov]
    generalize hO : s (q + 4) x.toNatClampNeg = o at w1 w2 w3 w4
    refine lpB (I := fun y s2 t2 => Od q s2 t2 ∧ (∀ k j, k < q + 15 → s2 k j = s k j) ∧ (∀ j : Nat, (j : Int) < (s2 (q + 15) 5).toInt → (∃ i : Nat, (i : Int) < x.toInt ∧ (i : Int) < (s (q + 3) 3).toInt ∧ s (q + 4) i = s 12 (s2 (q + 16) j).toNatClampNeg) ∨ (o = s 12 (s2 (q + 16) j).toNatClampNeg ∧ ((s2 (q + 16) j).toNatClampNeg : Int) < y.toInt)) ∧ (∀ i : Nat, (i : Int) < x.toInt → (i : Int) < (s (q + 3) 3).toInt → ∀ k, k < 24 → bt_ (s (q + 12) 5) k = true → (s 12 k).toNatClampNeg = (s (q + 4) i).toNatClampNeg → ∃ j : Nat, (j : Int) < (s2 (q + 15) 5).toInt ∧ (s2 (q + 16) j).toNatClampNeg = k) ∧ (∀ k : Nat, k < 24 → (k : Int) < y.toInt → bt_ (s (q + 12) 5) k = true → (s 12 k).toNatClampNeg = o.toNatClampNeg → ∃ j : Nat, (j : Int) < (s2 (q + 15) 5).toInt ∧ (s2 (q + 16) j).toNatClampNeg = k))
      (J := fun s2 t2 => Od q s2 t2 ∧ (∀ k j, k < q + 15 → s2 k j = s k j) ∧ (∀ j : Nat, (j : Int) < (s2 (q + 15) 5).toInt → ∃ i : Nat, (i : Int) < (x + 1).toInt ∧ (i : Int) < (s (q + 3) 3).toInt ∧ s (q + 4) i = s 12 (s2 (q + 16) j).toNatClampNeg) ∧ (∀ i : Nat, (i : Int) < (x + 1).toInt → (i : Int) < (s (q + 3) 3).toInt → ∀ k, k < 24 → bt_ (s (q + 12) 5) k = true → (s 12 k).toNatClampNeg = (s (q + 4) i).toNatClampNeg → ∃ j : Nat, (j : Int) < (s2 (q + 15) 5).toInt ∧ (s2 (q + 16) j).toNatClampNeg = k)) 24 (by decide) (fun y s2 t2 hy0 hI2 => ?_) (by decide) (by decide) ⟨hk, hf, fun j hj => Or.inl (hown j hj), hcov, fun k _ hk0 => by omega⟩
    obtain ⟨gk, gf, gown, gcov, gnew⟩ := hI2
    have gtb := gk.rt.st.tk.tb
    have e11 := congrArg Int32.toInt (gf 11 8 (by omega))
    have fin : (s 11 8).toInt ≤ y.toInt → Od q s2 t2 ∧ (∀ k j, k < q + 15 → s2 k j = s k j) ∧ (∀ j : Nat, (j : Int) < (s2 (q + 15) 5).toInt → ∃ i : Nat, (i : Int) < (x + 1).toInt ∧ (i : Int) < (s (q + 3) 3).toInt ∧ s (q + 4) i = s 12 (s2 (q + 16) j).toNatClampNeg) ∧ (∀ i : Nat, (i : Int) < (x + 1).toInt → (i : Int) < (s (q + 3) 3).toInt → ∀ k, k < 24 → bt_ (s (q + 12) 5) k = true → (s 12 k).toNatClampNeg = (s (q + 4) i).toNatClampNeg → ∃ j : Nat, (j : Int) < (s2 (q + 15) 5).toInt ∧ (s2 (q + 16) j).toNatClampNeg = k) := fun hy => by
      refine ⟨gk, gf, fun j hj => ?_, fun i hi hi3 k hk24 hb he => ?_⟩
      · rcases gown j hj with ⟨i, z1, z2, z3⟩ | ⟨z1, z2⟩
        · exact ⟨i, by omega, z2, z3⟩
        · exact ⟨x.toNatClampNeg, by rw [tn]; omega, by rw [tn]; omega, by rw [hO]; exact z1⟩
      · by_cases e : (i : Int) < x.toInt
        · exact gcov i e hi3 k hk24 hb he
        · have ei : i = x.toNatClampNeg := by rw [tn]; omega
          rw [ei, hO] at he
          have := (h.bs k hk24 hb).1
          exact gnew k hk24 (by omega) hb he
    by_cases d0 : D_X8_count s2 ≤ y
    · have hy : (s2 11 8).toInt ≤ y.toInt := Int32.le_iff_toInt_le.mp d0
      refine Or.inr (Or.inr ⟨y, s2, if_pos d0, fun n => ?_⟩)
      rw [itr_idle (P := fun z => (s2 11 8).toInt ≤ z.toInt) (fun z hz => ?_) n y hy]
      · exact fin (by rw [← e11]; exact hy)
      · by_cases f0 : D_X8_count t2 ≤ z
        · exact ⟨false, z, if_pos f0, fun e => absurd e (by decide)⟩
        · have hz2 : z.toInt < (t2 11 8).toInt := i_nle f0
          have gn2 := gtb.ns2
          have hz3 : D_X7_hasSection q t2 z = 0 := by
            by_cases e : D_X7_hasSection q t2 z = 0
            · exact e
            · rw [hs_eq gk.rt.b5] at e
              obtain ⟨r1, r2⟩ := hs_z.mp e
              have := (gk.rt.bs _ (rg_nat r1).1 r2).1
              rw [tn] at this
              have := r1.1
              omega
          exact ⟨true, z + 1, (if_neg f0).trans (if_pos hz3), fun _ => by rw [i_add1 (by omega)]; omega⟩
    · have hy : y.toInt < (s2 11 8).toInt := i_nle d0
      have gn1 := gtb.ns1
      have gn2 := gtb.ns2
      have hy1 : (y + 1).toInt = y.toInt + 1 := i_add1 (by omega)
      have d0' : ¬ D_X8_count t2 ≤ y := fun q => by
        have hq2 : (t2 11 8).toInt ≤ y.toInt := Int32.le_iff_toInt_le.mp q
        omega
      have f1 := x8_obj gtb hy0 hy
      have f2 : D_X8_objectOf s2 y = s 12 y.toNatClampNeg := by
        unfold D_X8_objectOf
        rw [if_neg (x8_at gtb hy0 hy).1, gf 12 _ (by omega)]
      have hyN : ((y.toNatClampNeg : Nat) : Int) = y.toInt := by rw [tn]; omega
      -- nothing is appended
      have skip : (bt_ (s (q + 12) 5) y.toNatClampNeg = true → (s 12 y.toNatClampNeg).toNatClampNeg = o.toNatClampNeg → False) → Od q s2 t2 ∧ (∀ k j, k < q + 15 → s2 k j = s k j) ∧ (∀ j : Nat, (j : Int) < (s2 (q + 15) 5).toInt → (∃ i : Nat, (i : Int) < x.toInt ∧ (i : Int) < (s (q + 3) 3).toInt ∧ s (q + 4) i = s 12 (s2 (q + 16) j).toNatClampNeg) ∨ (o = s 12 (s2 (q + 16) j).toNatClampNeg ∧ ((s2 (q + 16) j).toNatClampNeg : Int) < (y + 1).toInt)) ∧ (∀ i : Nat, (i : Int) < x.toInt → (i : Int) < (s (q + 3) 3).toInt → ∀ k, k < 24 → bt_ (s (q + 12) 5) k = true → (s 12 k).toNatClampNeg = (s (q + 4) i).toNatClampNeg → ∃ j : Nat, (j : Int) < (s2 (q + 15) 5).toInt ∧ (s2 (q + 16) j).toNatClampNeg = k) ∧ (∀ k : Nat, k < 24 → (k : Int) < (y + 1).toInt → bt_ (s (q + 12) 5) k = true → (s 12 k).toNatClampNeg = o.toNatClampNeg → ∃ j : Nat, (j : Int) < (s2 (q + 15) 5).toInt ∧ (s2 (q + 16) j).toNatClampNeg = k) := fun hno => by
        refine ⟨gk, gf, fun j hj => (gown j hj).imp id (fun z => ⟨z.1, by omega⟩), gcov, fun k hk24 hky hb he => ?_⟩
        by_cases e : (k : Int) < y.toInt
        · exact gnew k hk24 e hb he
        · have ek : k = y.toNatClampNeg := by omega
          subst ek
          exact absurd (hno hb he) id
      refine Or.inr (Or.inl ⟨by omega, ?_⟩)
      by_cases d1 : D_X7_hasSection q s2 y = 0
      · refine ⟨s2, t2, (if_neg d0).trans (if_pos d1), (if_neg d0').trans (if_pos (by rw [hs_eq gk.rt.b5]; exact d1)), skip (fun hb _ => ?_)⟩
        have : ¬ D_X7_hasSection q s2 y = 0 := hs_z.mpr ⟨⟨hy0, by omega⟩, by rw [gf _ _ (by omega)]; exact hb⟩
        exact this d1
      · obtain ⟨r1, r2⟩ := hs_z.mp d1
        by_cases d2 : D_X8_objectOf s2 y = o
        · have eo : s 12 y.toNatClampNeg = o := by rw [← f2]; exact d2
          obtain ⟨p1, p2, p3, p4⟩ := od_append hq gk hy0 hy r2 (fun j hj e => by
            rcases gown j hj with ⟨i, z1, z2, z3⟩ | ⟨z1, z2⟩
            · rw [e, eo, ← hO] at z3
              exact tk.di i x.toNatClampNeg (by rw [tn]; omega) (by rw [tn]; omega) z3
            · rw [e] at z2; omega)
          have hi5 : (s2 (q + 15) 5 + 1).toInt = (s2 (q + 15) 5).toInt + 1 := i_add1 (by omega)
          have g0 := gk.n0
          have hN5 : (s2 (q + 15) 5).toNatClampNeg = (s2 (q + 15) 5).toInt.toNat := rfl
          have old : ∀ k : Nat, (∃ j : Nat, (j : Int) < (s2 (q + 15) 5).toInt ∧ (s2 (q + 16) j).toNatClampNeg = k) → ∃ j : Nat, (j : Int) < ((D_X3_append q s2 y) (q + 15) 5).toInt ∧ ((D_X3_append q s2 y) (q + 16) j).toNatClampNeg = k := fun k ⟨j, z1, z2⟩ => ⟨j, by rw [p2, hi5]; omega, by rw [p4, if_neg (show ¬ j = (s2 (q + 15) 5).toNatClampNeg by omega)]; exact z2⟩
          refine ⟨_, _, (if_neg d0).trans ((if_neg d1).trans (if_pos d2)), (if_neg d0').trans ((if_neg (by rw [hs_eq gk.rt.b5]; exact d1)).trans (if_pos (by rw [f1]; exact d2))), p1, fun k j hk2 => by rw [fr_append hk2]; exact gf k j hk2, fun j hj => ?_, fun i hi hi3 k hk24 hb he => old k (gcov i hi hi3 k hk24 hb he), fun k hk24 hky hb he => ?_⟩
          · rw [p2, hi5] at hj
            rw [p4]
            by_cases e : j = (s2 (q + 15) 5).toNatClampNeg
            · rw [if_pos e]; exact Or.inr ⟨eo.symm, by omega⟩
            · rw [if_neg e]
              exact (gown j (by omega)).imp id (fun z => ⟨z.1, by omega⟩)
          · by_cases e : (k : Int) < y.toInt
            · exact old k (gnew k hk24 e hb he)
            · exact ⟨(s2 (q + 15) 5).toNatClampNeg, by rw [p2, hi5]; omega, by rw [p4, if_pos rfl]; omega⟩
        · refine ⟨s2, t2, (if_neg d0).trans ((if_neg d1).trans (if_neg d2)), (if_neg d0').trans ((if_neg (by rw [hs_eq gk.rt.b5]; exact d1)).trans (if_neg (by rw [f1]; exact d2))), skip (fun hb he => ?_)⟩
          apply d2
          rw [f2]
          have h12 := tb.o12 y.toNatClampNeg (by omega)
          apply Int32.toInt_inj.mp
          have he2 : (s 12 y.toNatClampNeg).toInt.toNat = o.toInt.toNat := he
          omega
