/-! the long jumps of a link are not fewer than none -/
section LJ
variable {q : Nat} {s : Sg}
theorem i_addn {x y : Int32} (h0 : -2147483648 ≤ x.toInt + y.toInt) (h1 : x.toInt + y.toInt < 2147483648) : (x + y).toInt = x.toInt + y.toInt := by
  rw [Int32.toInt_add]
  apply Int.bmod_eq_of_le <;> omega
theorem li_19 {S : Nat → Prop} {B : Int} {a1 a2 : Int32} (hB : B ≤ 1000000) (h : ∀ k, S k → 0 ≤ (s (q + 19) k).toInt ∧ (s (q + 19) k).toInt ≤ B) : ∀ k, S k → 0 ≤ ((D_X3_lengthenIn q s a1 a2).2 (q + 19) k).toInt ∧ ((D_X3_lengthenIn q s a1 a2).2 (q + 19) k).toInt ≤ B + 8 := by
  intro k hk
  unfold D_X3_lengthenIn
  by_cases c0 : D_X11_isIn a1 24 = 0
  · rw [if_pos c0]; have := h k hk; exact ⟨this.1, by show (s (q + 19) k).toInt ≤ _; omega⟩
  · rw [if_neg c0]
    unfold R_X3_lengthenIn_139
    have main := itr_inv (B := uc4 (B_X3_lengthenIn_24 q a1 a2)) (I := fun z => 0 ≤ z.1.toInt ∧ z.1.toInt ≤ 8 ∧ ∀ k, S k → 0 ≤ (z.2.2.2 (q + 19) k).toInt ∧ (z.2.2.2 (q + 19) k).toInt ≤ B + z.1.toInt) (fun z hz => ?_) BIG (0, 0, (s (q + 17) a1.toNatClampNeg), s) ⟨(by decide : (0 : Int) ≤ (0 : Int32).toInt), (by decide : (0 : Int32).toInt ≤ 8), fun k hk => ⟨(h k hk).1, Int.le_trans (h k hk).2 (show B ≤ B + (0 : Int32).toInt by rw [show (0 : Int32).toInt = 0 from rfl]; omega)⟩⟩
    · obtain ⟨m1, m2, m3⟩ := main
      exact ⟨(m3 k hk).1, Int.le_trans (m3 k hk).2 (by omega)⟩
    · obtain ⟨x5, x3, x4, z⟩ := z
      obtain ⟨z0, z1, z2⟩ := hz
      have z0 : 0 ≤ x5.toInt := z0
      have z1 : x5.toInt ≤ 8 := z1
      have z2 : ∀ k, S k → 0 ≤ (z (q + 19) k).toInt ∧ (z (q + 19) k).toInt ≤ B + x5.toInt := z2
      unfold uc4
      show 0 ≤ (B_X3_lengthenIn_24 q a1 a2 x5 x3 x4 z).2.1.toInt ∧ _
      unfold B_X3_lengthenIn_24
      by_cases c1 : 8 ≤ x5
      · rw [if_pos c1]; exact ⟨z0, z1, z2⟩
      · have hx := Int32.lt_iff_toInt_lt.mp (Int32.not_le.mp c1)
        have h8 : (8 : Int32).toInt = 8 := rfl
        have i1 : (x5 + 1).toInt = x5.toInt + 1 := i_add1 (by omega)
        have stay : 0 ≤ (x5 + 1).toInt ∧ (x5 + 1).toInt ≤ 8 ∧ ∀ k, S k → 0 ≤ (z (q + 19) k).toInt ∧ (z (q + 19) k).toInt ≤ B + (x5 + 1).toInt := ⟨by omega, by omega, fun k hk => by have := z2 k hk; omega⟩
        rw [if_neg c1]
        by_cases c2 : D_X8_kind z a1 x5 = 2
        · rw [if_pos c2]
          by_cases c3 : z (q + 20) ((a1 * 8) + x5).toNatClampNeg = 2
          · rw [if_pos c3]
            by_cases c4 : (D_J9_abs_0f7a4 ((x4 + (z (q + 20) ((a1 * 8) + x5).toNatClampNeg)) - (D_X3_standsFor q z (D_X8_name z a1 x5)))) ≤ a2
            · rw [if_pos c4]; exact stay
            · rw [if_neg c4]
              refine ⟨stay.1, stay.2.1, fun k hk => ?_⟩
              show 0 ≤ ((up (up z (q + 20) ((a1 * 8) + x5).toNatClampNeg 5) (q + 19) a1.toNatClampNeg ((z (q + 19) a1.toNatClampNeg) + 1)) (q + 19) k).toInt ∧ ((up (up z (q + 20) ((a1 * 8) + x5).toNatClampNeg 5) (q + 19) a1.toNatClampNeg ((z (q + 19) a1.toNatClampNeg) + 1)) (q + 19) k).toInt ≤ _
              rw [up_at]
              have hk' := z2 k hk
              by_cases e : k = a1.toNatClampNeg
              · rw [if_pos ⟨rfl, e⟩, ← e]
                have i2 : (z (q + 19) k + 1).toInt = (z (q + 19) k).toInt + 1 := i_add1 (by omega)
                rw [i2]
                show _ ∧ _ ≤ B + (x5 + 1).toInt
                omega
              · rw [if_neg (fun r => e r.2), up_ne (by omega)]; exact ⟨hk'.1, by show _ ≤ B + (x5 + 1).toInt; omega⟩
          · rw [if_neg c3]; exact stay
        · rw [if_neg c2]; exact stay
theorem la_19 {S : Nat → Prop} {B : Int} {a1 : Int32} (hB : B ≤ 900000) (h : ∀ k, S k → 0 ≤ (s (q + 19) k).toInt ∧ (s (q + 19) k).toInt ≤ B) : ∀ k, S k → 0 ≤ ((D_X3_lengthenAll q s a1).2 (q + 19) k).toInt ∧ ((D_X3_lengthenAll q s a1).2 (q + 19) k).toInt ≤ B + 192 := by
  intro k hk
  unfold D_X3_lengthenAll R_X3_lengthenAll_40
  have main := itr_inv (B := uc3 (B_X3_lengthenAll_4 q a1)) (I := fun z => 0 ≤ z.1.toInt ∧ z.1.toInt ≤ 24 ∧ ∀ k, S k → 0 ≤ (z.2.2 (q + 19) k).toInt ∧ (z.2.2 (q + 19) k).toInt ≤ B + 8 * z.1.toInt) (fun z hz => ?_) BIG (0, 0, s) ⟨(by decide : (0 : Int) ≤ (0 : Int32).toInt), (by decide : (0 : Int32).toInt ≤ 24), fun k hk => ⟨(h k hk).1, Int.le_trans (h k hk).2 (show B ≤ B + 8 * (0 : Int32).toInt by rw [show (0 : Int32).toInt = 0 from rfl]; omega)⟩⟩
  · obtain ⟨m1, m2, m3⟩ := main
    exact ⟨(m3 k hk).1, Int.le_trans (m3 k hk).2 (by omega)⟩
  · obtain ⟨x3, x2, z⟩ := z
    obtain ⟨z0, z1, z2⟩ := hz
    have z0 : 0 ≤ x3.toInt := z0
    have z1 : x3.toInt ≤ 24 := z1
    have z2 : ∀ k, S k → 0 ≤ (z (q + 19) k).toInt ∧ (z (q + 19) k).toInt ≤ B + 8 * x3.toInt := z2
    unfold uc3
    show 0 ≤ (B_X3_lengthenAll_4 q a1 x3 x2 z).2.1.toInt ∧ _
    unfold B_X3_lengthenAll_4
    by_cases c1 : z (q + 15) 5 ≤ x3
    · rw [if_pos c1]; exact ⟨z0, z1, z2⟩
    · rw [if_neg c1]
      by_cases c2 : 24 ≤ x3
      · rw [if_pos c2]; exact ⟨z0, z1, z2⟩
      · have hx := Int32.lt_iff_toInt_lt.mp (Int32.not_le.mp c2)
        have h24 : (24 : Int32).toInt = 24 := rfl
        have i1 : (x3 + 1).toInt = x3.toInt + 1 := i_add1 (by omega)
        have l := li_19 (q := q) (s := z) (S := S) (a1 := z (q + 16) x3.toNatClampNeg) (a2 := a1) (B := B + 8 * x3.toInt) (by omega) z2
        have fin : 0 ≤ (x3 + 1).toInt ∧ (x3 + 1).toInt ≤ 24 ∧ ∀ k, S k → 0 ≤ ((D_X3_lengthenIn q z (z (q + 16) x3.toNatClampNeg) a1).2 (q + 19) k).toInt ∧ ((D_X3_lengthenIn q z (z (q + 16) x3.toNatClampNeg) a1).2 (q + 19) k).toInt ≤ B + 8 * (x3 + 1).toInt := ⟨by omega, by omega, fun k hk => by have := l k hk; omega⟩
        rw [if_neg c2]
        by_cases c3 : (D_X3_lengthenIn q z (z (q + 16) x3.toNatClampNeg) a1).1 = 0
        · rw [if_pos c3]; exact fin
        · rw [if_neg c3]; exact fin
theorem lay_19 {S : Nat → Prop} {a : Int32} (h : ∀ k, S k → (D_X3_orderSections q s) (q + 19) k = 0) : ∀ k, S k → 0 ≤ ((D_X3_layOut q s a) (q + 19) k).toInt ∧ ((D_X3_layOut q s a) (q + 19) k).toInt ≤ 38000 := by
  unfold D_X3_layOut R_X3_layOut_42
  refine lq (B := B_X3_layOut_6 q a) (I := fun x (z : Sg) => x.toInt ≤ 193 ∧ ∀ k, S k → 0 ≤ (z (q + 19) k).toInt ∧ (z (q + 19) k).toInt ≤ 192 * x.toInt) (J := fun (z : Sg) => ∀ k, S k → 0 ≤ (z (q + 19) k).toInt ∧ (z (q + 19) k).toInt ≤ 38000) 193 (by decide) (fun x z hx0 hI => ?_) (by decide) (by decide) ⟨by decide, fun k hk => by rw [h k hk]; decide⟩
  have h192 : (192 : Int32).toInt = 192 := rfl
  by_cases c0 : 192 < x
  · have hx := Int32.lt_iff_toInt_lt.mp c0
    refine Or.inl ⟨x, z, if_pos c0, fun k hk => ?_⟩
    have := hI.2 k hk
    have := hI.1
    omega
  · have hx := Int32.le_iff_toInt_le.mp (Int32.not_lt.mp c0)
    have l := la_19 (q := q) (s := Rd q z) (S := S) (a1 := a) (B := 192 * x.toInt) (by omega) (fun k hk => by rw [rd_fr (by omega) (by omega) (by omega) (by omega)]; exact hI.2 k hk)
    have i1 : (x + 1).toInt = x.toInt + 1 := i_add1 (by omega)
    by_cases c1 : (D_X3_lengthenAll q (Rd q z) a).1 = 0
    · exact Or.inl ⟨x, _, (if_neg c0).trans (if_pos c1), fun k hk => ⟨(l k hk).1, Int.le_trans (l k hk).2 (by omega)⟩⟩
    · exact Or.inr ⟨by omega, _, (if_neg c0).trans (if_neg c1), by omega, fun k hk => ⟨(l k hk).1, Int.le_trans (l k hk).2 (by omega)⟩⟩
theorem run_long (hq : q = 38 ∨ q = 60) (h : Tb s s) {a1 a2 a3 a4 a5 : Int32} (x : Int32) : 0 ≤ (D_X3_longsOf q (D_X5_run q s a1 a2 a3 a4 a5) x).toInt ∧ (D_X3_longsOf q (D_X5_run q s a1 a2 a3 a4 a5) x).toInt ≤ 38000 := by
  have fu : ∀ k j, k < 23 → (up (up (up s q 8 a1) q 7 a2) q 6 1) k j = s k j := fun k j hk => by rw [up_ne (by omega), up_ne (by omega), up_ne (by omega)]
  have h0 : Tb (up (up (up s q 8 a1) q 7 a2) q 6 1) (up (up (up s q 8 a1) q 7 a2) q 6 1) := h.of fu fu
  have rt := rt_all hq (st_settle hq (tk_take hq h0 (a1 := a1) (a2 := a5))) (a1 := a1) (a2 := a2)
  unfold D_X5_run
  generalize D_X7_reachAll q (D_X9_settle q (D_X10_take q (up (up (up s q 8 a1) q 7 a2) q 6 1) a1 a5)) a1 a2 = u at *
  obtain ⟨g1, g2⟩ := od_order hq rt
  have ow := ow_order hq (s := u)
  have l := lay_19 (q := q) (s := u) (a := a3) (S := fun k => ∃ j : Nat, (j : Int) < ((D_X3_orderSections q u) (q + 15) 5).toInt ∧ ((D_X3_orderSections q u) (q + 16) j).toNatClampNeg = k) (fun k hk => by
    obtain ⟨j, j1, j2⟩ := hk
    rw [← j2]; exact (ow.2.2.2 j j1).2.1)
  unfold D_X3_longsOf
  rw [hs_eq (fw_X5_tellFaults (by omega) (by omega)), fw_X5_tellFaults (by omega) (by omega)]
  by_cases c : D_X7_hasSection q (D_X3_layOut q u a3) x = 0
  · rw [if_pos c]; decide
  · rw [if_neg c]
    by_cases d : D_X11_isIn x 24 = 0
    · rw [if_pos d]; decide
    · rw [if_neg d]
      have e1 : D_X7_hasSection q (D_X3_layOut q u a3) x = D_X7_hasSection q u x := hs_eq (fw_X3_layOut (by omega) (by omega) (by omega) (by omega) (by omega) (by omega) (by omega) (by omega) (by omega))
      have e2 : D_X7_hasSection q (D_X3_orderSections q u) x = D_X7_hasSection q u x := hs_eq (fw_X3_orderSections (by omega) (by omega) (by omega) (by omega))
      have c' : ¬ D_X7_hasSection q (D_X3_orderSections q u) x = 0 := by rw [e2, ← e1]; exact c
      obtain ⟨j, j1, j2⟩ := cov_at g1 g2 c'
      exact l _ ⟨j, j1, by rw [j2]⟩
theorem run_longs (hq : q = 38 ∨ q = 60) (h : Tb s s) {a1 a2 a3 a4 a5 : Int32} : 0 ≤ (D_X3_countLongs q (D_X5_run q s a1 a2 a3 a4 a5)).toInt := by
  have rl := fun x => run_long (s := s) hq h (a1 := a1) (a2 := a2) (a3 := a3) (a4 := a4) (a5 := a5) x
  generalize D_X5_run q s a1 a2 a3 a4 a5 = u at *
  unfold D_X3_countLongs R_X3_countLongs_24
  have main := itr_inv (B := uc2 (B_X3_countLongs_4 q u)) (I := fun z => 0 ≤ z.1.toInt ∧ z.1.toInt ≤ 24 ∧ 0 ≤ z.2.toInt ∧ z.2.toInt ≤ 38000 * z.1.toInt) (fun z hz => ?_) BIG (0, 0) ⟨(by decide : (0 : Int) ≤ (0 : Int32).toInt), (by decide : (0 : Int32).toInt ≤ 24), (by decide : (0 : Int) ≤ (0 : Int32).toInt), (by decide : (0 : Int32).toInt ≤ 38000 * (0 : Int32).toInt)⟩
  · exact main.2.2.1
  · obtain ⟨x, z⟩ := z
    obtain ⟨z0, z1, z2, z3⟩ := hz
    have z0 : 0 ≤ x.toInt := z0
    have z1 : x.toInt ≤ 24 := z1
    have z2 : 0 ≤ z.toInt := z2
    have z3 : z.toInt ≤ 38000 * x.toInt := z3
    unfold uc2
    show 0 ≤ (B_X3_countLongs_4 q u x z).2.1.toInt ∧ _
    unfold B_X3_countLongs_4
    by_cases c : 24 ≤ x
    · rw [if_pos c]; exact ⟨z0, z1, z2, z3⟩
    · have hx := Int32.lt_iff_toInt_lt.mp (Int32.not_le.mp c)
      have h24 : (24 : Int32).toInt = 24 := rfl
      have i1 : (x + 1).toInt = x.toInt + 1 := i_add1 (by omega)
      have r := rl x
      have i2 : (z + D_X3_longsOf q u x).toInt = z.toInt + (D_X3_longsOf q u x).toInt := i_addn (by omega) (by omega)
      rw [if_neg c]
      refine ⟨?_, ?_, ?_, ?_⟩
      · show 0 ≤ (x + 1).toInt; omega
      · show (x + 1).toInt ≤ 24; omega
      · show 0 ≤ (z + D_X3_longsOf q u x).toInt; omega
      · show (z + D_X3_longsOf q u x).toInt ≤ 38000 * (x + 1).toInt; omega
end LJ
