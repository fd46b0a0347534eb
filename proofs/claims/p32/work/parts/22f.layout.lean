theorem pc_lall {q : Nat} (hq : q = 38 ∨ q = 60) {s t : Sg} (h : Pc q s t) {a : Int32} : (D_X3_lengthenAll q t a).1 = (D_X3_lengthenAll q s a).1 ∧ Pc q (D_X3_lengthenAll q s a).2 (D_X3_lengthenAll q t a).2 := by
  unfold D_X3_lengthenAll R_X3_lengthenAll_40
  rw [uc3_2]
  have main := lpB (B := fun x (z : Int32 × Sg) => B_X3_lengthenAll_4 q a x z.1 z.2) (B' := fun x (z : Int32 × Sg) => B_X3_lengthenAll_4 q a x z.1 z.2) (I := fun _ z y => y.1 = z.1 ∧ Pc q z.2 y.2) (J := fun z y => y.1 = z.1 ∧ Pc q z.2 y.2) 24 (by decide) (fun x z y hx0 hI2 => ?_) (x := 0) (s := (0, s)) (t := (0, t)) (by decide) (by decide) ⟨rfl, h⟩
  · exact main
  · obtain ⟨z2, s1⟩ := z
    obtain ⟨y2, t1⟩ := y
    obtain ⟨e2, hp⟩ := hI2
    have e2 : y2 = z2 := e2
    have hp : Pc q s1 t1 := hp
    subst e2
    have ho : Od q s1 t1 := hp.pl.od
    by_cases c0 : s1 (q + 15) 5 ≤ x
    · have c0' : t1 (q + 15) 5 ≤ x := by rw [ho.n]; exact c0
      exact Or.inl ⟨x, x, (y2, s1), (y2, t1), if_pos c0, if_pos c0', rfl, hp⟩
    · have c0' : ¬ t1 (q + 15) 5 ≤ x := by rw [ho.n]; exact c0
      have hx := i_nle c0
      have hn1 := ho.n1
      have c1 : ¬ 24 ≤ x := n_le (m := 24) (n := 24) (by omega) rfl
      obtain ⟨o1, o2, o3, o4⟩ := ho.od x.toNatClampNeg (by rw [tn]; omega)
      have tb : Tb s1 t1 := ho.rt.st.tk.tb
      have hn2 := tb.ns1
      have hn3 := tb.ns2
      have hs : ¬ D_X7_hasSection q s1 (s1 (q + 16) x.toNatClampNeg) = 0 := hs_z.mpr ⟨⟨o2, by omega⟩, o4⟩
      have hp1 : Pc q s1 t1 := hp
      have l := pc_lin hq hp1 (a := a) hs
      have l1 : (D_X3_lengthenIn q t1 (t1 (q + 16) x.toNatClampNeg) a).1 = (D_X3_lengthenIn q s1 (s1 (q + 16) x.toNatClampNeg) a).1 := by rw [o1]; exact l.1
      have l2 : Pc q (D_X3_lengthenIn q s1 (s1 (q + 16) x.toNatClampNeg) a).2 (D_X3_lengthenIn q t1 (t1 (q + 16) x.toNatClampNeg) a).2 := by rw [o1]; exact l.2
      refine Or.inr (Or.inl ⟨by omega, ?_⟩)
      by_cases c2 : (D_X3_lengthenIn q s1 (s1 (q + 16) x.toNatClampNeg) a).1 = 0
      · have c2' : (D_X3_lengthenIn q t1 (t1 (q + 16) x.toNatClampNeg) a).1 = 0 := by rw [l1]; exact c2
        exact ⟨(y2, (D_X3_lengthenIn q s1 (s1 (q + 16) x.toNatClampNeg) a).2), (y2, (D_X3_lengthenIn q t1 (t1 (q + 16) x.toNatClampNeg) a).2), (if_neg c0).trans ((if_neg c1).trans (if_pos c2)), (if_neg c0').trans ((if_neg c1).trans (if_pos c2')), rfl, l2⟩
      · have c2' : ¬ (D_X3_lengthenIn q t1 (t1 (q + 16) x.toNatClampNeg) a).1 = 0 := by rw [l1]; exact c2
        exact ⟨(1, (D_X3_lengthenIn q s1 (s1 (q + 16) x.toNatClampNeg) a).2), (1, (D_X3_lengthenIn q t1 (t1 (q + 16) x.toNatClampNeg) a).2), (if_neg c0).trans ((if_neg c1).trans (if_neg c2)), (if_neg c0').trans ((if_neg c1).trans (if_neg c2')), rfl, l2⟩
theorem pc_lay {q : Nat} (hq : q = 38 ∨ q = 60) {s t : Sg} (h : Rt q s t) {a : Int32} : Pc q (D_X3_layOut q s a) (D_X3_layOut q t a) := by
  obtain ⟨g1, g2⟩ := od_order hq h
  unfold D_X3_layOut R_X3_layOut_42
  have z0 : (0 : Int32).toInt = 0 := rfl
  refine lpB (I := fun x s1 t1 => Od q s1 t1 ∧ Cov q s1 ∧ (0 < x.toInt → Pc q s1 t1)) (J := fun s1 t1 => Pc q s1 t1) 193 (by decide) (fun x s1 t1 hx0 hI => ?_) (by decide) (by decide) ⟨g1, g2, fun z => by omega⟩
  obtain ⟨k1, k2, k3⟩ := hI
  by_cases c0 : 192 < x
  · have hx := Int32.lt_iff_toInt_lt.mp c0
    have z1 : (192 : Int32).toInt = 192 := rfl
    exact Or.inl ⟨x, x, s1, t1, if_pos c0, if_pos c0, k3 (by omega)⟩
  · have hx := Int32.le_iff_toInt_le.mp (Int32.not_lt.mp c0)
    have z1 : (192 : Int32).toInt = 192 := rfl
    have p1 := pl_sections hq k1
    have cv1 : Cov q (D_X3_placeSections q s1) := k2.of (fun k j hk => fw_X3_placeSections (by omega) (by omega) (by omega) (by omega))
    obtain ⟨l1, l2⟩ := pc_lall hq (pc_addr hq (pc_commons hq p1 cv1)) (a := a)
    by_cases c1 : (D_X3_lengthenAll q (D_X3_addressNames q (D_X3_placeCommons q (D_X3_placeSections q s1))) a).1 = 0
    · exact Or.inl ⟨x, x, _, _, (if_neg c0).trans (if_pos c1), (if_neg c0).trans (if_pos (by rw [l1]; exact c1)), l2⟩
    · exact Or.inr (Or.inl ⟨by omega, _, _, (if_neg c0).trans (if_neg c1), (if_neg c0).trans (if_neg (by rw [l1]; exact c1)), l2.pl.od, l2.cv, fun _ => l2⟩)
/-- all of a link but its faults -/
theorem pc_run {q : Nat} (hq : q = 38 ∨ q = 60) {s t : Sg} (h : Tb s t) {a1 a2 a3 a5 : Int32} : Pc q (D_X3_layOut q (D_X7_reachAll q (D_X9_settle q (D_X10_take q (up (up (up s q 8 a1) q 7 a2) q 6 1) a1 a5)) a1 a2) a3) (D_X3_layOut q (D_X7_reachAll q (D_X9_settle q (D_X10_take q (up (up (up t q 8 a1) q 7 a2) q 6 1) a1 a5)) a1 a2) a3) := by
  have h0 : Tb (up (up (up s q 8 a1) q 7 a2) q 6 1) (up (up (up t q 8 a1) q 7 a2) q 6 1) := h.of (fun k j hk => by rw [up_ne (by omega), up_ne (by omega), up_ne (by omega)]) (fun k j hk => by rw [up_ne (by omega), up_ne (by omega), up_ne (by omega)])
  exact pc_lay hq (rt_all hq (st_settle hq (tk_take hq h0)))
