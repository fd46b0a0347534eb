/-! one round of laying out; the size of a link; no jump is long where the reach is 500 -/
noncomputable def Rd (q : Nat) (s : Sg) : Sg := D_X3_addressNames q (D_X3_placeCommons q (D_X3_placeSections q s))
theorem rd_fr {q : Nat} {s : Sg} {k j : Nat} (h17 : k ≠ q + 17) (h18 : k ≠ q + 18) (h21 : k ≠ q + 21) (h15 : k ≠ q + 15 ∨ (j ≠ 11 ∧ j ≠ 12)) : (Rd q s) k j = s k j := by
  unfold Rd
  rw [fw_X3_addressNames h21, fw_X3_placeCommons (by omega) (by omega) h21, fw_X3_placeSections (by omega) (by omega) h17 h18]
def d8 (n : Nat) : Int := if n < 8 then 16 else 0
theorem d8_sum : isum d8 20 = 128 := by decide
theorem align_at {s : Sg} {k : Int32} (h0 : 0 ≤ k.toInt) (h1 : k.toInt < (s 11 8).toInt) (h2 : (s 11 8).toInt ≤ 24) : D_X8_align s k = s 13 k.toNatClampNeg := by
  unfold D_X8_align
  rw [if_neg (has_s h0 h1 h2)]
theorem round_at {q : Nat} (hq : q = 38 ∨ q = 60) {s : Sg} (h : Od q s s) (hcv : Cov q s) (hS : Sz s) (hv : Sv q s) (hw : ∀ j : Nat, (j : Int) < (s (q + 15) 5).toInt → Wk q s (s (q + 16) j)) (c : Nat → Int) (hc0 : ∀ k, k < 24 → 0 ≤ c k) (hC : isum c 24 ≤ 4000)
    (hco : ∀ j : Nat, (j : Int) < (s (q + 15) 5).toInt → (s 13 (s (q + 16) j).toNatClampNeg).toInt - 1 + isum (wz q s (s (q + 16) j)) 8 ≤ c (s (q + 16) j).toNatClampNeg) :
    Pc q (Rd q s) (Rd q s) ∧ 1 ≤ ((Rd q s) (q + 15) 11).toInt ∧ ((Rd q s) (q + 15) 11).toInt ≤ 129 + isum c 24 ∧ (∀ j : Nat, (j : Int) < (s (q + 15) 5).toInt → 1 ≤ ((Rd q s) (q + 17) (s (q + 16) j).toNatClampNeg).toInt ∧ ((Rd q s) (q + 17) (s (q + 16) j).toNatClampNeg).toInt + isum (wz q s (s (q + 16) j)) 8 ≤ ((Rd q s) (q + 15) 11).toInt) ∧ ∀ n : Nat, n < 20 → (Rd q s) (q + 21) n = -1 ∨ (1 ≤ ((Rd q s) (q + 21) n).toInt ∧ ((Rd q s) (q + 21) n).toInt ≤ ((Rd q s) (q + 15) 11).toInt) := by
  have tb := h.rt.st.tk.tb
  have hal : ∀ j : Nat, (j : Int) < (s (q + 15) 5).toInt → D_X8_align s (s (q + 16) j) = s 13 (s (q + 16) j).toNatClampNeg ∧ pw (s 13 (s (q + 16) j).toNatClampNeg) := fun j hj => by
    obtain ⟨_, o2, o3, _⟩ := h.od j hj
    exact ⟨align_at o2 o3 tb.ns2, hS.1 _ (by rw [tn]; omega)⟩
  obtain ⟨p1, p2, p3⟩ := ps_at hq h c hc0 hC (fun j hj => by rw [(hal j hj).1]; exact (hal j hj).2) hw (fun j hj => by rw [(hal j hj).1]; exact hco j hj)
  have f1 : ∀ k j, (k ≠ q + 15 ∨ (j ≠ 11 ∧ j ≠ 12)) → k ≠ q + 17 → k ≠ q + 18 → (D_X3_placeSections q s) k j = s k j := fun k j h1 h2 h3 => fw_X3_placeSections (by omega) (by omega) h2 h3
  have f2 : ∀ k j, (k ≠ q + 15 ∨ (j ≠ 11 ∧ j ≠ 12)) → k ≠ q + 21 → (D_X3_placeCommons q (D_X3_placeSections q s)) k j = (D_X3_placeSections q s) k j := fun k j h1 h2 => fw_X3_placeCommons (by omega) (by omega) h2
  have pl := pl_sections hq h
  have cv1 : Cov q (D_X3_placeSections q s) := hcv.of (fun k j hk => f1 k j (by omega) (by omega) (by omega))
  have pc1 := pc_commons hq pl cv1
  obtain ⟨q1, q2, q3⟩ := pcm_at hq (s := D_X3_placeSections q s) d8 (fun n _ => by unfold d8; by_cases e : n < 8 <;> simp [e]) p1 (by rw [d8_sum]; omega) (fun n hn hb => by
    rw [f1 _ _ (by omega) (by omega) (by omega)] at hb
    have hk := h.rt.bc n hn hb
    obtain ⟨v1, v2, v3, v4⟩ := hv n hn hk
    rw [f1 _ _ (by omega) (by omega) (by omega), f1 _ _ (by omega) (by omega) (by omega)]
    have v5 := v4.pw
    refine ⟨v2, v5.1, ?_⟩
    unfold d8
    rw [if_pos v1]; omega)
  rw [d8_sum] at q2
  have e5 : (D_X3_placeCommons q (D_X3_placeSections q s)) (q + 15) 5 = s (q + 15) 5 := by rw [f2 _ _ (by omega) (by omega), f1 _ _ (by omega) (by omega) (by omega)]
  have e16 : ∀ j, (D_X3_placeCommons q (D_X3_placeSections q s)) (q + 16) j = s (q + 16) j := fun j => by rw [f2 _ _ (by omega) (by omega), f1 _ _ (by omega) (by omega) (by omega)]
  have e17 : ∀ j, (D_X3_placeCommons q (D_X3_placeSections q s)) (q + 17) j = (D_X3_placeSections q s) (q + 17) j := fun j => f2 _ _ (by omega) (by omega)
  have ewz : ∀ k, wz q (D_X3_placeCommons q (D_X3_placeSections q s)) k = wz q s k := fun k => funext fun p => by unfold wz; rw [f2 _ _ (by omega) (by omega), f1 _ _ (by omega) (by omega) (by omega)]
  have had : ∀ j : Nat, (j : Int) < (s (q + 15) 5).toInt → 1 ≤ ((D_X3_placeCommons q (D_X3_placeSections q s)) (q + 17) (s (q + 16) j).toNatClampNeg).toInt ∧ ((D_X3_placeCommons q (D_X3_placeSections q s)) (q + 17) (s (q + 16) j).toNatClampNeg).toInt + isum (wz q s (s (q + 16) j)) 8 ≤ ((D_X3_placeCommons q (D_X3_placeSections q s)) (q + 15) 11).toInt := fun j hj => by
    rw [e17]
    have := p3 j hj
    omega
  have r := an_at pc1.pl.od pc1.cv (by
    rw [e5]; intro j hj; rw [e16]
    intro p hp; rw [ewz]; exact hw j hj p hp) (by
    rw [e5]; intro j hj; rw [e16, ewz]; exact had j hj) q3 (by omega)
  have g15 : (Rd q s) (q + 15) 11 = (D_X3_placeCommons q (D_X3_placeSections q s)) (q + 15) 11 := fw_X3_addressNames (by omega)
  have g17 : ∀ j, (Rd q s) (q + 17) j = (D_X3_placeCommons q (D_X3_placeSections q s)) (q + 17) j := fun j => fw_X3_addressNames (by omega)
  refine ⟨pc_addr hq pc1, by rw [g15]; omega, by rw [g15]; omega, fun j hj => by rw [g15, g17]; exact had j hj, fun n hn => by rw [g15]; exact r n hn⟩
theorem lay_size {q : Nat} (hq : q = 38 ∨ q = 60) {s : Sg} (h : Rt q s s) (hS : Sz s) (hv : Sv q s) {a : Int32} : 1 ≤ ((D_X3_layOut q s a) (q + 15) 11).toInt ∧ ((D_X3_layOut q s a) (q + 15) 11).toInt ≤ 3000 := by
  obtain ⟨g1, g2⟩ := od_order hq h
  have ow := ow_order hq (s := s)
  have z0 : (0 : Int32).toInt = 0 := rfl
  have z1 : (192 : Int32).toInt = 192 := rfl
  unfold D_X3_layOut R_X3_layOut_42
  refine lq (B := B_X3_layOut_6 q a) (I := fun x (z : Sg) => Od q z z ∧ Cov q z ∧ Sz z ∧ Sv q z ∧ (∀ j : Nat, (j : Int) < (z (q + 15) 5).toInt → Wk q z (z (q + 16) j)) ∧ (0 < x.toInt → 1 ≤ (z (q + 15) 11).toInt ∧ (z (q + 15) 11).toInt ≤ 3000)) (J := fun (z : Sg) => 1 ≤ (z (q + 15) 11).toInt ∧ (z (q + 15) 11).toInt ≤ 3000) 193 (by decide) (fun x z hx0 hI => ?_) (by decide) (by decide)
    ⟨g1, g2, hS.of (fun k j hk => ow.1 k j (by omega)), hv.of (fun k j h1 h2 => ow.1 k j (by omega)), fun j hj => (ow_wk hS ow hj (by
      have hk := g1.od j hj
      have tb := h.st.tk.tb
      have e : (D_X3_orderSections q s) 11 8 = s 11 8 := ow.1 _ _ (by omega)
      rw [e] at hk
      exact (tb.p8 _ (by rw [tn]; omega)).1)).1, fun hx => by omega⟩
  obtain ⟨k1, k2, k3, k4, k5, k6⟩ := hI
  by_cases c0 : 192 < x
  · have hx := Int32.lt_iff_toInt_lt.mp c0
    exact Or.inl ⟨x, z, if_pos c0, k6 (by omega)⟩
  · have hx := Int32.le_iff_toInt_le.mp (Int32.not_lt.mp c0)
    have tb := k1.rt.st.tk.tb
    obtain ⟨r1, r2, r3, r4, r5⟩ := round_at hq k1 k2 k3 k4 k5 (fun _ => 111) (fun _ _ => by decide) (by decide) (fun j hj => by
      have w := wk_sum (k5 j hj) (n := 8) (by omega)
      obtain ⟨_, o2, o3, _⟩ := k1.od j hj
      have := (k3.1 (z (q + 16) j).toNatClampNeg (by rw [tn]; omega)).le
      omega)
    have e111 : isum (fun _ => 111) 24 = 2664 := by decide
    rw [e111] at r3
    obtain ⟨l1, l2⟩ := pc_lall hq r1 (a := a)
    have fl : ∀ k j, k ≠ q + 19 → k ≠ q + 20 → (D_X3_lengthenAll q (Rd q z) a).2 k j = (Rd q z) k j := fun k j h1 h2 => fw_X3_lengthenAll h1 h2
    have e11 : (D_X3_lengthenAll q (Rd q z) a).2 (q + 15) 11 = (Rd q z) (q + 15) 11 := fl _ _ (by omega) (by omega)
    have hsz : 1 ≤ ((D_X3_lengthenAll q (Rd q z) a).2 (q + 15) 11).toInt ∧ ((D_X3_lengthenAll q (Rd q z) a).2 (q + 15) 11).toInt ≤ 3000 := by rw [e11]; omega
    by_cases c1 : (D_X3_lengthenAll q (Rd q z) a).1 = 0
    · exact Or.inl ⟨x, _, (if_neg c0).trans (if_pos c1), hsz⟩
    · refine Or.inr ⟨by omega, _, (if_neg c0).trans (if_neg c1), l2.pl.od, l2.cv, k3.of (fun k j hk => (fl k j (by omega) (by omega)).trans (rd_fr (by omega) (by omega) (by omega) (by omega))), k4.of (fun k j h1 h2 => (fl k j (by omega) (by omega)).trans (rd_fr (by omega) (by omega) (by omega) (by omega))), ?_, fun _ => hsz⟩
      show ∀ j : Nat, (j : Int) < ((D_X3_lengthenAll q (Rd q z) a).2 (q + 15) 5).toInt → Wk q (D_X3_lengthenAll q (Rd q z) a).2 ((D_X3_lengthenAll q (Rd q z) a).2 (q + 16) j)
      rw [fl (q + 15) 5 (by omega) (by omega), rd_fr (by omega) (by omega) (by omega) (by omega)]
      intro j hj
      rw [fl (q + 16) j (by omega) (by omega), rd_fr (by omega) (by omega) (by omega) (by omega)]
      intro p hp
      unfold wz
      rcases lall_5 (q := q) (s := Rd q z) (a := a) ((z (q + 16) j).toNatClampNeg * 8 + p) with e | e
      · rw [e, rd_fr (by omega) (by omega) (by omega) (by omega)]; exact k5 j hj p hp
      · rw [e]; decide
/-- what a section takes at most, as long as no jump is long -/
def cs (s : Sg) (k : Nat) : Int := if (k : Int) < (s 11 8).toInt then (s 13 k).toInt - 1 + 12 * (s 15 k).toInt else 0
theorem lay_near {q : Nat} (hq : q = 38 ∨ q = 60) {s : Sg} (h : Rt q s s) (hS : Sz s) (hv : Sv q s) {a : Int32} (ha : 500 ≤ a.toInt) (hsum : isum (cs s) 24 ≤ 371) (x : Int32) : D_X3_longsOf q (D_X3_layOut q s a) x = 0 := by
  obtain ⟨g1, g2⟩ := od_order hq h
  have ow := ow_order hq (s := s)
  have tb := h.st.tk.tb
  have e11 : (D_X3_orderSections q s) 11 8 = s 11 8 := ow.1 _ _ (by omega)
  have hO : ∀ j : Nat, (j : Int) < ((D_X3_orderSections q s) (q + 15) 5).toInt → 0 ≤ ((D_X3_orderSections q s) (q + 16) j).toInt ∧ ((D_X3_orderSections q s) (q + 16) j).toInt < (s 11 8).toInt := fun j hj => by
    have hk := g1.od j hj
    rw [e11] at hk
    exact ⟨hk.2.1, hk.2.2.1⟩
  have hp : ∀ j : Nat, (j : Int) < ((D_X3_orderSections q s) (q + 15) 5).toInt → 0 ≤ (s 15 ((D_X3_orderSections q s) (q + 16) j).toNatClampNeg).toInt := fun j hj => (tb.p8 _ (by rw [tn]; have := hO j hj; omega)).1
  have hc0 : ∀ k, k < 24 → 0 ≤ cs s k := fun k hk => by
    unfold cs
    by_cases e : (k : Int) < (s 11 8).toInt
    · rw [if_pos e]
      have := (hS.1 k e).le
      have := (tb.p8 k e).1
      omega
    · rw [if_neg e]; exact Int.le_refl _
  have hw : ∀ j : Nat, (j : Int) < ((D_X3_orderSections q s) (q + 15) 5).toInt → Wk q (D_X3_orderSections q s) ((D_X3_orderSections q s) (q + 16) j) := fun j hj => (ow_wk hS ow hj (hp j hj)).1
  obtain ⟨r1, r2, r3, r4, r5⟩ := round_at hq g1 g2 (hS.of (fun k j hk => ow.1 k j (by omega))) (hv.of (fun k j h1 h2 => ow.1 k j (by omega))) hw (cs s) hc0 (by omega) (fun j hj => by
    have hk := hO j hj
    have w := (ow_wk hS ow hj (hp j hj)).2
    rw [ow.1 13 _ (by omega)]
    unfold cs
    rw [if_pos (by rw [tn]; omega)]
    omega)
  generalize hZ : ((Rd q (D_X3_orderSections q s)) (q + 15) 11).toInt = Z at *
  have la : D_X3_lengthenAll q (Rd q (D_X3_orderSections q s)) a = (0, Rd q (D_X3_orderSections q s)) := by
    apply la_at
    rw [rd_fr (by omega) (by omega) (by omega) (by omega)]
    intro j hj
    rw [rd_fr (k := q + 16) (by omega) (by omega) (by omega) (by omega)]
    have ewz : wz q (Rd q (D_X3_orderSections q s)) ((D_X3_orderSections q s) (q + 16) j) = wz q (D_X3_orderSections q s) ((D_X3_orderSections q s) (q + 16) j) := funext fun p => by unfold wz; rw [rd_fr (by omega) (by omega) (by omega) (by omega)]
    have r := r4 j hj
    exact li_at (Z := Z) (r24_of g1 hj) (fun p hp => by rw [ewz]; exact hw j hj p hp) r.1 (by rw [ewz]; exact r.2) (st_at (by omega) r5) (by omega) (by omega)
  have e : D_X3_layOut q s a = Rd q (D_X3_orderSections q s) := by
    unfold D_X3_layOut R_X3_layOut_42
    obtain ⟨n, hn⟩ := big_s
    have eB : B_X3_layOut_6 q a 0 (D_X3_orderSections q s) = (false, (0, Rd q (D_X3_orderSections q s))) := by
      have la1 : (D_X3_lengthenAll q (D_X3_addressNames q (D_X3_placeCommons q (D_X3_placeSections q (D_X3_orderSections q s)))) a).1 = 0 := by
        show (D_X3_lengthenAll q (Rd q (D_X3_orderSections q s)) a).1 = 0
        rw [la]
      have la2 : (D_X3_lengthenAll q (D_X3_addressNames q (D_X3_placeCommons q (D_X3_placeSections q (D_X3_orderSections q s)))) a).2 = Rd q (D_X3_orderSections q s) := by
        show (D_X3_lengthenAll q (Rd q (D_X3_orderSections q s)) a).2 = _
        rw [la]
      unfold B_X3_layOut_6
      rw [if_neg (by decide), if_pos la1, la2]
    rw [hn, itr_e (B := uc2 (B_X3_layOut_6 q a)) (x := (0, D_X3_orderSections q s)) (y := (0, Rd q (D_X3_orderSections q s))) eB]
  rw [e]
  unfold D_X3_longsOf
  by_cases c : D_X7_hasSection q (Rd q (D_X3_orderSections q s)) x = 0
  · rw [if_pos c]
  · rw [if_neg c]
    by_cases d : D_X11_isIn x 24 = 0
    · rw [if_pos d]
    · rw [if_neg d]
      have c' : ¬ D_X7_hasSection q (D_X3_orderSections q s) x = 0 := by rw [hs_eq (s := Rd q (D_X3_orderSections q s)) (rd_fr (by omega) (by omega) (by omega) (by omega)).symm]; exact c
      obtain ⟨j, j1, j2⟩ := cov_at g1 g2 c'
      rw [rd_fr (by omega) (by omega) (by omega) (by omega), ← j2]
      exact (ow.2.2.2 j j1).2.1
/-- the size of a link -/
theorem run_size {q : Nat} (hq : q = 38 ∨ q = 60) {s : Sg} (h : Tb s s) (hS : Sz s) {a1 a2 a3 a4 a5 : Int32} : 1 ≤ (D_X3_size q (D_X5_run q s a1 a2 a3 a4 a5)).toInt ∧ (D_X3_size q (D_X5_run q s a1 a2 a3 a4 a5)).toInt ≤ 3000 := by
  have fu : ∀ k j, k < 23 → (up (up (up s q 8 a1) q 7 a2) q 6 1) k j = s k j := fun k j hk => by rw [up_ne (by omega), up_ne (by omega), up_ne (by omega)]
  have h0 : Tb (up (up (up s q 8 a1) q 7 a2) q 6 1) (up (up (up s q 8 a1) q 7 a2) q 6 1) := h.of fu fu
  have rt := rt_all hq (st_settle hq (tk_take hq h0 (a1 := a1) (a2 := a5))) (a1 := a1) (a2 := a2)
  have fT : ∀ k j, k < 23 → (D_X10_take q (up (up (up s q 8 a1) q 7 a2) q 6 1) a1 a5) k j = s k j := fun k j hk => (fw_X10_take (by omega) (by omega) (by omega) (by omega) (by omega)).trans (fu k j hk)
  have fS : ∀ k j, k < 23 → (D_X9_settle q (D_X10_take q (up (up (up s q 8 a1) q 7 a2) q 6 1) a1 a5)) k j = s k j := fun k j hk => (fw_X9_settle (by omega) (by omega) (by omega) (by omega) (by omega) (by omega) (by omega) (by omega)).trans (fT k j hk)
  have fR : ∀ k j, k < q + 12 → (D_X7_reachAll q (D_X9_settle q (D_X10_take q (up (up (up s q 8 a1) q 7 a2) q 6 1) a1 a5)) a1 a2) k j = (D_X9_settle q (D_X10_take q (up (up (up s q 8 a1) q 7 a2) q 6 1) a1 a5)) k j := fun k j hk => fw_X7_reachAll (by omega) (by omega) (by omega) (by omega) (by omega) (by omega)
  have sv := (sv_settle hq (hS.of fT)).of (fun k j h1 h2 => fR k j (by omega))
  have r := lay_size hq rt (hS.of (fun k j hk => (fR k j (by omega)).trans (fS k j hk))) sv (a := a3)
  unfold D_X3_size D_X5_run
  rw [fw_X5_tellFaults (by omega) (by omega)]
  exact r
theorem run_near {q : Nat} (hq : q = 38 ∨ q = 60) {s : Sg} (h : Tb s s) (hS : Sz s) {a1 a2 a3 a4 a5 : Int32} (ha : 500 ≤ a3.toInt) (hsum : isum (cs s) 24 ≤ 371) : D_X3_countLongs q (D_X5_run q s a1 a2 a3 a4 a5) = 0 := by
  have fu : ∀ k j, k < 23 → (up (up (up s q 8 a1) q 7 a2) q 6 1) k j = s k j := fun k j hk => by rw [up_ne (by omega), up_ne (by omega), up_ne (by omega)]
  have h0 : Tb (up (up (up s q 8 a1) q 7 a2) q 6 1) (up (up (up s q 8 a1) q 7 a2) q 6 1) := h.of fu fu
  have rt := rt_all hq (st_settle hq (tk_take hq h0 (a1 := a1) (a2 := a5))) (a1 := a1) (a2 := a2)
  have fT : ∀ k j, k < 23 → (D_X10_take q (up (up (up s q 8 a1) q 7 a2) q 6 1) a1 a5) k j = s k j := fun k j hk => (fw_X10_take (by omega) (by omega) (by omega) (by omega) (by omega)).trans (fu k j hk)
  have fS : ∀ k j, k < 23 → (D_X9_settle q (D_X10_take q (up (up (up s q 8 a1) q 7 a2) q 6 1) a1 a5)) k j = s k j := fun k j hk => (fw_X9_settle (by omega) (by omega) (by omega) (by omega) (by omega) (by omega) (by omega) (by omega)).trans (fT k j hk)
  have fR : ∀ k j, k < q + 12 → (D_X7_reachAll q (D_X9_settle q (D_X10_take q (up (up (up s q 8 a1) q 7 a2) q 6 1) a1 a5)) a1 a2) k j = (D_X9_settle q (D_X10_take q (up (up (up s q 8 a1) q 7 a2) q 6 1) a1 a5)) k j := fun k j hk => fw_X7_reachAll (by omega) (by omega) (by omega) (by omega) (by omega) (by omega)
  have sv := (sv_settle hq (hS.of fT)).of (fun k j h1 h2 => fR k j (by omega))
  have f23 : ∀ k j, k < 23 → (D_X7_reachAll q (D_X9_settle q (D_X10_take q (up (up (up s q 8 a1) q 7 a2) q 6 1) a1 a5)) a1 a2) k j = s k j := fun k j hk => (fR k j (by omega)).trans (fS k j hk)
  have ecs : cs (D_X7_reachAll q (D_X9_settle q (D_X10_take q (up (up (up s q 8 a1) q 7 a2) q 6 1) a1 a5)) a1 a2) = cs s := funext fun k => by unfold cs; rw [f23 11 8 (by omega), f23 13 k (by omega), f23 15 k (by omega)]
  have r := lay_near hq rt (hS.of f23) sv ha (by rw [ecs]; exact hsum)
  have rl : ∀ x, D_X3_longsOf q (D_X5_run q s a1 a2 a3 a4 a5) x = 0 := fun x => by
    have := r x
    unfold D_X3_longsOf at this ⊢
    unfold D_X5_run
    rw [hs_eq (fw_X5_tellFaults (by omega) (by omega)), fw_X5_tellFaults (by omega) (by omega)]
    exact this
  unfold D_X3_countLongs R_X3_countLongs_24
  refine itr_inv (B := uc2 (B_X3_countLongs_4 q (D_X5_run q s a1 a2 a3 a4 a5))) (I := fun z => z.2 = 0) (fun z hz => ?_) BIG (0, 0) rfl
  obtain ⟨x, z⟩ := z
  have hz : z = 0 := hz
  show (B_X3_countLongs_4 q (D_X5_run q s a1 a2 a3 a4 a5) x z).2.2 = 0
  unfold B_X3_countLongs_4
  by_cases c : 24 ≤ x
  · rw [if_pos c]; exact hz
  · rw [if_neg c, rl, hz]; rfl
