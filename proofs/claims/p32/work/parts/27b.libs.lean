/-! closed again -/
section LC
variable {s : Sg} {l n : Int32}
theorem ld_1 (h : L1 l n s) (h0 : 0 ≤ l.toInt) (h1 : l.toInt < (s 23 13).toInt) {x : Int32} (hx : 0 ≤ x.toInt) : (x = l → ¬ D_X4_isLoaded s x = 0) ∧ (¬ x = l → D_X4_isLoaded s x = 0) := by
  obtain ⟨c6, c14, c15, c33, c25, c29, c30, c31⟩ := h
  constructor
  · intro e
    subst e
    unfold D_X4_isLoaded D_X4_base
    rw [if_neg (has4 h0 h1 c6), c30, if_pos rfl]; decide
  · intro e
    unfold D_X4_isLoaded D_X4_base
    by_cases c : D_X4_has s x = 0
    · rw [if_pos c]; rfl
    · rw [if_neg c, c30, if_neg (fun q => e (n_inj hx h0 q))]; rfl
theorem loaded_1 (h : L1 l n s) (h0 : 0 ≤ l.toInt) (h1 : l.toInt < (s 23 13).toInt) : D_X4_loaded s = (0 : Int32) ||| ((1 : Int32) <<< (l &&& 31)) := by
  have c6 := h.1
  unfold D_X4_loaded R_X4_loaded_30
  refine lq (B := B_X4_loaded_4 s) (I := fun x v => (x.toInt ≤ l.toInt → v = 0) ∧ (l.toInt < x.toInt → v = (0 : Int32) ||| ((1 : Int32) <<< (l &&& 31)))) (J := fun v => v = (0 : Int32) ||| ((1 : Int32) <<< (l &&& 31))) 6 (by decide) (fun x v hx0 hI => ?_) (by decide) (by decide) ⟨fun _ => rfl, fun q => by have : (0 : Int32).toInt = 0 := rfl; omega⟩
  obtain ⟨i1, i2⟩ := hI
  by_cases c0 : 6 ≤ x
  · have hx := i_le (n := 6) c0 rfl
    exact Or.inl ⟨x, v, if_pos c0, i2 (by omega)⟩
  · have hx := i_lt (n := 6) c0 rfl
    have hx1 : (x + 1).toInt = x.toInt + 1 := i_add1 (by omega)
    by_cases e : x = l
    · subst e
      refine Or.inr ⟨hx, _, (if_neg c0).trans (if_neg ((ld_1 h h0 h1 hx0).1 rfl)), fun q => by omega, fun _ => ?_⟩
      rw [i1 (by omega)]
    · have hne : x.toInt ≠ l.toInt := fun q => e (Int32.toInt_inj.mp q)
      exact Or.inr ⟨hx, _, (if_neg c0).trans (if_pos ((ld_1 h h0 h1 hx0).2 e)), fun q => i1 (by omega), fun q => i2 (by omega)⟩
theorem opened_1 (h : L1 l n s) (h0 : 0 ≤ l.toInt) (h1 : l.toInt < (s 23 13).toInt) {x : Int32} (hx : 0 ≤ x.toInt) : (x = l → D_X4_opened s x = n) ∧ (¬ x = l → D_X4_opened s x = 0) := by
  obtain ⟨c6, c14, c15, c33, c25, c29, c30, c31⟩ := h
  constructor
  · intro e
    subst e
    unfold D_X4_opened
    rw [if_neg (has4 h0 h1 c6), c29, if_pos rfl]
  · intro e
    unfold D_X4_opened
    by_cases c : D_X4_has s x = 0
    · rw [if_pos c]
    · rw [if_neg c, c29, if_neg (fun q => e (n_inj hx h0 q))]
theorem L1.of {s' : Sg} (hf : ∀ k j, k ≠ 34 → k ≠ 23 ∨ j ≠ 12 → s' k j = s k j) (h : L1 l n s) : L1 l n s' := by
  obtain ⟨c6, c14, c15, c33, c25, c29, c30, c31⟩ := h
  refine ⟨?_, ?_, ?_, ?_, fun j => ?_, fun j => ?_, fun j => ?_, fun j => ?_⟩
  · rw [hf _ _ (by decide) (by decide)]; exact c6
  · rw [hf _ _ (by decide) (by decide)]; exact c14
  · rw [hf _ _ (by decide) (by decide)]; exact c15
  · rw [hf _ _ (by decide) (by decide)]; exact c33
  · rw [hf _ _ (by decide) (Or.inl (by decide))]; exact c25 j
  · rw [hf _ _ (by decide) (Or.inl (by decide))]; exact c29 j
  · rw [hf _ _ (by decide) (Or.inl (by decide))]; exact c30 j
  · rw [hf _ _ (by decide) (Or.inl (by decide))]; exact c31 j
/-- who stays as l is closed: l, if it was opened twice -/
theorem leave_at (h : L1 l n s) (hn : n = 1 ∨ n = 2) (h0 : 0 ≤ l.toInt) (h1 : l.toInt < (s 23 13).toInt) : (D_X4_leavingBy s l).1 = (if n = 1 then (1 : Int32) <<< (l &&& 31) else 0) ∧ (∀ k j, k ≠ 34 → k ≠ 23 ∨ j ≠ 12 → (D_X4_leavingBy s l).2 k j = s k j) := by
  have c6 := h.1
  have rl : rg l 6 := ⟨h0, by omega⟩
  obtain ⟨b1, b2, b3, b4, b5, b6, b7⟩ := bits6 rl
  refine ⟨?_, fun k j e1 e2 => fw_X4_leavingBy e2 e1⟩
  unfold D_X4_leavingBy R_X4_leavingBy_52
  rw [uc3_2]
  have main := lq (B := fun x (z : Int32 × Sg) => B_X4_leavingBy_4 l x z.1 z.2) (I := fun x z => (∀ k j, k ≠ 34 → k ≠ 23 ∨ j ≠ 12 → z.2 k j = s k j) ∧ ((x.toInt ≤ l.toInt ∨ n = 1) → z.1 = 0) ∧ (l.toInt < x.toInt → n = 2 → z.1 = (0 : Int32) ||| ((1 : Int32) <<< (l &&& 31)))) (J := fun z => (∀ k j, k ≠ 34 → k ≠ 23 ∨ j ≠ 12 → z.2 k j = s k j) ∧ (n = 1 → z.1 = 0) ∧ (n = 2 → z.1 = (0 : Int32) ||| ((1 : Int32) <<< (l &&& 31)))) 6 (by decide) (fun x z hx0 hI => ?_) (x := 0) (s := (0, s)) (by decide) (by decide) ⟨fun _ _ _ _ => rfl, fun _ => rfl, fun q => by have : (0 : Int32).toInt = 0 := rfl; omega⟩
  · generalize (itr (uc2 (fun x (z : Int32 × Sg) => B_X4_leavingBy_4 l x z.1 z.2)) BIG (0, (0, s))).2 = z at main
    obtain ⟨v, z⟩ := z
    obtain ⟨m1, m2, m3⟩ := main
    have m1 : ∀ k j, k ≠ 34 → k ≠ 23 ∨ j ≠ 12 → z k j = s k j := m1
    have m2 : n = 1 → v = 0 := m2
    have m3 : n = 2 → v = (0 : Int32) ||| ((1 : Int32) <<< (l &&& 31)) := m3
    have hz : L1 l n z := h.of m1
    have e13 : z 23 13 = s 23 13 := m1 _ _ (by decide) (by decide)
    show (D_X4_loaded z) &&& (v ^^^ (-1)) = _
    rw [loaded_1 hz h0 (by rw [e13]; exact h1)]
    rcases hn with e | e
    · rw [m2 e, if_pos e]; exact b6
    · rw [m3 e, e, b7]
      rw [b7] at b5
      exact b5
  · obtain ⟨v, z⟩ := z
    have hI2 : (∀ k j, k ≠ 34 → k ≠ 23 ∨ j ≠ 12 → z k j = s k j) ∧ ((x.toInt ≤ l.toInt ∨ n = 1) → v = 0) ∧ (l.toInt < x.toInt → n = 2 → v = (0 : Int32) ||| ((1 : Int32) <<< (l &&& 31))) := hI
    clear hI
    obtain ⟨m1, m2, m3⟩ := hI2
    have hz : L1 l n z := h.of m1
    have e13 : z 23 13 = s 23 13 := m1 _ _ (by decide) (by decide)
    by_cases c0 : 6 ≤ x
    · have hx := i_le (n := 6) c0 rfl
      exact Or.inl ⟨x, (v, z), if_pos c0, m1, fun e => m2 (Or.inr e), fun e => m3 (by omega) e⟩
    · have hx := i_lt (n := 6) c0 rfl
      have hx1 : (x + 1).toInt = x.toInt + 1 := i_add1 (by omega)
      obtain ⟨o1, o2⟩ := opened_1 hz h0 (by rw [e13]; exact h1) hx0
      refine Or.inr ⟨hx, ?_⟩
      by_cases e : x = l
      · have eo := o1 e
        rcases hn with en | en
        · have c1 : (D_X4_opened z x) - 1 ≤ 0 := by rw [eo, en]; decide
          exact ⟨(v, z), (if_neg c0).trans ((if_pos e).trans (if_pos c1)), m1, fun _ => m2 (Or.inr en), fun _ q => by rw [en] at q; exact absurd q (by decide)⟩
        · have c1 : ¬ (D_X4_opened z x) - 1 ≤ 0 := by rw [eo, en]; decide
          refine ⟨(v ||| ((D_X4_fillRow z x).2 23 12), (D_X4_fillRow z x).2), (if_neg c0).trans ((if_pos e).trans (if_neg c1)), fun k j e1 e2 => (fw_X4_fillRow e2 e1).trans (m1 k j e1 e2), fun q => ?_, fun _ _ => ?_⟩
          · rcases q with q | q
            · rw [e] at hx1; rw [e] at q; omega
            · rw [q] at en; exact absurd en (by decide)
          · show v ||| ((D_X4_fillRow z x).2 23 12) = _
            rw [m2 (Or.inl (by rw [e]; omega)), row_0 hz.2.2.2.2.1, e]
            show (0 : Int32) ||| (up (up z 34 0 l) 23 12 ((1 : Int32) <<< (l &&& 31))) 23 12 = _
            rw [rd_eq]
      · have hne : x.toInt ≠ l.toInt := fun q => e (Int32.toInt_inj.mp q)
        have c1 : (D_X4_opened z x) - 0 ≤ 0 := by rw [o2 e]; decide
        exact ⟨(v, z), (if_neg c0).trans ((if_neg e).trans (if_pos c1)), m1, fun q => m2 (by
          rcases q with q | q
          · exact Or.inl (by omega)
          · exact Or.inr q), fun q => m3 (by omega)⟩
theorem fin_row {f x : Int32} (h : ∀ j, s 31 j = -1) : (itr (uc2 (B_X4_finish_57 f x)) BIG (0, s)).2 = s := by
  refine itr_inv (B := uc2 (B_X4_finish_57 f x)) (I := fun z => z.2 = s) (fun z hz => ?_) BIG (0, s) rfl
  obtain ⟨y, z⟩ := z
  have hz : z = s := hz
  show (B_X4_finish_57 f x y z).2.2 = s
  subst hz
  unfold B_X4_finish_57
  by_cases c : 20 ≤ y
  · rw [if_pos c]
  · rw [if_neg c, if_pos (h _)]
theorem L1.nb {n' : Int32} (h : L1 l n s) {s' : Sg} (hf : ∀ k j, k ≠ 34 → k ≠ 29 → k ≠ 32 → k ≠ 33 → k ≠ 23 ∨ j ≠ 12 → s' k j = s k j) (h29 : ∀ j, s' 29 j = if j = l.toNatClampNeg then n' else 0) (h33 : s' 33 0 = l) : L1 l n' s' := by
  obtain ⟨c6, c14, c15, c33, c25, c29, c30, c31⟩ := h
  refine ⟨?_, ?_, ?_, h33, fun j => ?_, h29, fun j => ?_, fun j => ?_⟩
  · rw [hf _ _ (by decide) (by decide) (by decide) (by decide) (by decide)]; exact c6
  · rw [hf _ _ (by decide) (by decide) (by decide) (by decide) (by decide)]; exact c14
  · rw [hf _ _ (by decide) (by decide) (by decide) (by decide) (by decide)]; exact c15
  · rw [hf _ _ (by decide) (by decide) (by decide) (by decide) (Or.inl (by decide))]; exact c25 j
  · rw [hf _ _ (by decide) (by decide) (by decide) (by decide) (Or.inl (by decide))]; exact c30 j
  · rw [hf _ _ (by decide) (by decide) (by decide) (by decide) (Or.inl (by decide))]; exact c31 j
theorem wo32_0 {f : Int32} : D_X4_without_32 s 0 f = ((0 : Int32), s) := by
  unfold D_X4_without_32 R_X4_without_32_51
  obtain ⟨m, hm⟩ := big_s
  have e : uc3 (B_X4_without_32_5 0 f) ((0 : Int32), (0 : Int32), s) = (false, ((0 : Int32), (0 : Int32), s)) := by
    unfold uc3
    show B_X4_without_32_5 0 f 0 0 s = _
    unfold B_X4_without_32_5
    rw [if_pos (by decide)]
  rw [hm, itr_e e]
/-- the first of two -/
theorem close_2 (h : L1 l 2 s) (h0 : 0 ≤ l.toInt) (h1 : l.toInt < (s 23 13).toInt) : (D_X4_closeOne s l).1 = 0 ∧ L1 l 1 (D_X4_closeOne s l).2 := by
  have c6 := h.1
  obtain ⟨v1, v2⟩ := leave_at h (Or.inr rfl) h0 h1
  rw [if_neg (by decide)] at v1
  unfold D_X4_closeOne
  rw [if_neg (has4 h0 h1 c6), v1]
  refine ⟨by show D_J6_bitCount_0f7a4 0 = 0; decide +kernel, ?_⟩
  show L1 l 1 (D_X4_finish (up (D_X4_leavingBy s l).2 29 l.toNatClampNeg (((D_X4_leavingBy s l).2 29 l.toNatClampNeg) - 1)) 0)
  have hz := h.of v2
  generalize (D_X4_leavingBy s l).2 = z at *
  obtain ⟨d6, d14, d15, d33, d25, d29, d30, d31⟩ := id hz
  have e29 : (z 29 l.toNatClampNeg) - 1 = 1 := by rw [d29, if_pos rfl]; decide
  rw [e29]
  have hy : L1 l 1 (up z 29 l.toNatClampNeg 1) := hz.nb (fun k j _ e _ _ _ => up_ne e ▸ rfl) (fun j => by
    rw [up_at]
    by_cases c : j = l.toNatClampNeg
    · rw [if_pos ⟨rfl, c⟩, if_pos c]
    · rw [if_neg (fun e => c e.2), if_neg c, d29, if_neg c]) (by rw [up_ne (by decide)]; exact d33)
  generalize up z 29 l.toNatClampNeg 1 = y at *
  obtain ⟨g6, g14, g15, g33, g25, g29, g30, g31⟩ := id hy
  unfold D_X4_finish R_X4_finish_123
  rw [g14, wo32_0]
  show L1 l 1 (itr (uc2 (B_X4_finish_34 0)) BIG (0, (up (D_X4_without_33 (up y 23 14 0) (y 23 15) 0).2 23 15 (D_X4_without_33 (up y 23 14 0) (y 23 15) 0).1))).2
  rw [g15]
  have e33 : D_X4_without_33 (up y 23 14 0) 1 0 = ((1 : Int32), up (up y 23 14 0) 33 0 l) := by
    unfold D_X4_without_33 R_X4_without_33_51
    obtain ⟨m, hm⟩ : ∃ m, BIG = m + 2 := ⟨2147483646, BIG_eq⟩
    have e1 : uc3 (B_X4_without_33_5 1 0) ((0 : Int32), (0 : Int32), up y 23 14 0) = (true, ((1 : Int32), (1 : Int32), up (up y 23 14 0) 33 0 l)) := by
      unfold uc3
      show B_X4_without_33_5 1 0 0 0 (up y 23 14 0) = _
      unfold B_X4_without_33_5
      rw [if_neg (by decide), if_neg (by decide), if_pos hb_0, if_neg (by decide), show (0 : Int32).toNatClampNeg = 0 from rfl, up_ne (by decide), g33]
      rfl
    have e2 : uc3 (B_X4_without_33_5 1 0) ((1 : Int32), (1 : Int32), up (up y 23 14 0) 33 0 l) = (false, ((1 : Int32), (1 : Int32), up (up y 23 14 0) 33 0 l)) := by
      unfold uc3
      show B_X4_without_33_5 1 0 1 1 (up (up y 23 14 0) 33 0 l) = _
      unfold B_X4_without_33_5
      rw [if_pos (by decide)]
    rw [hm, itr_s e1, itr_e e2]
  rw [e33]
  show L1 l 1 (itr (uc2 (B_X4_finish_34 0)) BIG (0, (up (up (up y 23 14 0) 33 0 l) 23 15 1))).2
  have hw : L1 l 1 (up (up (up y 23 14 0) 33 0 l) 23 15 1) := by
    refine ⟨?_, ?_, ?_, ?_, fun j => ?_, fun j => ?_, fun j => ?_, fun j => ?_⟩
    · rw [up_f (by decide), up_f (by decide), up_f (by decide)]; exact g6
    · rw [up_f (by decide), up_f (by decide), rd_eq]
    · rw [rd_eq]
    · rw [up_f (by decide), rd_eq]
    · rw [up_ne (by decide), up_ne (by decide), up_ne (by decide)]; exact g25 j
    · rw [up_ne (by decide), up_ne (by decide), up_ne (by decide)]; exact g29 j
    · rw [up_ne (by decide), up_ne (by decide), up_ne (by decide)]; exact g30 j
    · rw [up_ne (by decide), up_ne (by decide), up_ne (by decide)]; exact g31 j
  generalize up (up (up y 23 14 0) 33 0 l) 23 15 1 = x at *
  have e : (itr (uc2 (B_X4_finish_34 0)) BIG (0, x)).2 = x := by
    refine itr_inv (B := uc2 (B_X4_finish_34 0)) (I := fun z => z.2 = x) (fun z hz => ?_) BIG (0, x) rfl
    obtain ⟨a, b⟩ := z
    have hz : b = x := hz
    show (B_X4_finish_34 0 a b).2.2 = x
    subst hz
    unfold B_X4_finish_34 R_X4_finish_117
    by_cases c : 6 ≤ a
    · rw [if_pos c]
    · rw [if_neg c, if_pos hb_0]
      exact fin_row hw.2.2.2.2.2.2.2
  rw [e]
  exact hw
/-- the second -/
theorem close_1 (h : L1 l 1 s) (h0 : 0 ≤ l.toInt) (h1 : l.toInt < (s 23 13).toInt) : (D_X4_closeOne s l).1 = 1 ∧ L0 (D_X4_closeOne s l).2 := by
  have c6 := h.1
  have rl : rg l 6 := ⟨h0, by omega⟩
  obtain ⟨b1, b2, b3, b4, b5, b6, b7⟩ := bits6 rl
  obtain ⟨v1, v2⟩ := leave_at h (Or.inl rfl) h0 h1
  rw [if_pos rfl] at v1
  unfold D_X4_closeOne
  rw [if_neg (has4 h0 h1 c6), v1]
  refine ⟨b2, ?_⟩
  show L0 (D_X4_finish (up (D_X4_leavingBy s l).2 29 l.toNatClampNeg (((D_X4_leavingBy s l).2 29 l.toNatClampNeg) - 1)) ((1 : Int32) <<< (l &&& 31)))
  have hz := h.of v2
  generalize (D_X4_leavingBy s l).2 = z at *
  obtain ⟨d6, d14, d15, d33, d25, d29, d30, d31⟩ := id hz
  have e29 : (z 29 l.toNatClampNeg) - 1 = 0 := by rw [d29, if_pos rfl]; decide
  rw [e29]
  have hy : L1 l 0 (up z 29 l.toNatClampNeg 0) := hz.nb (fun k j _ e _ _ _ => up_ne e ▸ rfl) (fun j => by
    rw [up_at]
    by_cases c : j = l.toNatClampNeg
    · rw [if_pos ⟨rfl, c⟩, if_pos c]
    · rw [if_neg (fun e => c e.2), if_neg c, d29, if_neg c]) (by rw [up_ne (by decide)]; exact d33)
  generalize up z 29 l.toNatClampNeg 0 = y at *
  obtain ⟨g6, g14, g15, g33, g25, g29, g30, g31⟩ := id hy
  unfold D_X4_finish R_X4_finish_123
  rw [g14, wo32_0]
  show L0 (itr (uc2 (B_X4_finish_34 ((1 : Int32) <<< (l &&& 31)))) BIG (0, (up (D_X4_without_33 (up y 23 14 0) (y 23 15) ((1 : Int32) <<< (l &&& 31))).2 23 15 (D_X4_without_33 (up y 23 14 0) (y 23 15) ((1 : Int32) <<< (l &&& 31))).1))).2
  rw [g15]
  have e33 : D_X4_without_33 (up y 23 14 0) 1 ((1 : Int32) <<< (l &&& 31)) = ((0 : Int32), up y 23 14 0) := by
    unfold D_X4_without_33 R_X4_without_33_51
    obtain ⟨m, hm⟩ : ∃ m, BIG = m + 2 := ⟨2147483646, BIG_eq⟩
    have e1 : uc3 (B_X4_without_33_5 1 ((1 : Int32) <<< (l &&& 31))) ((0 : Int32), (0 : Int32), up y 23 14 0) = (true, ((1 : Int32), (0 : Int32), up y 23 14 0)) := by
      unfold uc3
      show B_X4_without_33_5 1 ((1 : Int32) <<< (l &&& 31)) 0 0 (up y 23 14 0) = _
      unfold B_X4_without_33_5
      rw [if_neg (by decide), if_neg (by decide), show (0 : Int32).toNatClampNeg = 0 from rfl, up_ne (by decide), g33, if_neg b4]
      rfl
    have e2 : uc3 (B_X4_without_33_5 1 ((1 : Int32) <<< (l &&& 31))) ((1 : Int32), (0 : Int32), up y 23 14 0) = (false, ((1 : Int32), (0 : Int32), up y 23 14 0)) := by
      unfold uc3
      show B_X4_without_33_5 1 ((1 : Int32) <<< (l &&& 31)) 1 0 (up y 23 14 0) = _
      unfold B_X4_without_33_5
      rw [if_pos (by decide)]
    rw [hm, itr_s e1, itr_e e2]
  rw [e33]
  show L0 (itr (uc2 (B_X4_finish_34 ((1 : Int32) <<< (l &&& 31)))) BIG (0, (up (up y 23 14 0) 23 15 0))).2
  have f : ∀ k j, k ≠ 23 → (up (up y 23 14 0) 23 15 0) k j = y k j := fun k j e => by rw [up_ne e, up_ne e]
  have f13 : (up (up y 23 14 0) 23 15 0) 23 13 = y 23 13 := by rw [up_f (by decide), up_f (by decide)]
  have f14 : (up (up y 23 14 0) 23 15 0) 23 14 = 0 := by rw [up_f (by decide), rd_eq]
  have f15 : (up (up y 23 14 0) 23 15 0) 23 15 = 0 := by rw [rd_eq]
  generalize up (up y 23 14 0) 23 15 0 = x at *
  refine lq (B := B_X4_finish_34 ((1 : Int32) <<< (l &&& 31))) (I := fun a (b : Sg) => (∀ k j, k ≠ 30 → b k j = x k j) ∧ (∀ j, j ≠ l.toNatClampNeg → b 30 j = -1) ∧ (l.toInt < a.toInt → b 30 l.toNatClampNeg = -1)) (J := fun b => L0 b) 6 (by decide) (fun a b ha0 hI => ?_) (by decide) (by decide) ⟨fun _ _ _ => rfl, fun j hj => by rw [f _ _ (by decide), g30, if_neg hj], fun q => by have : (0 : Int32).toInt = 0 := rfl; omega⟩
  obtain ⟨i1, i2, i3⟩ := hI
  by_cases c0 : 6 ≤ a
  · have hx := i_le (n := 6) c0 rfl
    refine Or.inl ⟨a, b, if_pos c0, ?_, ?_, ?_, fun j => ?_, fun j => ?_, fun j => ?_, fun j => ?_⟩
    · rw [i1 _ _ (by decide), f13]; exact g6
    · rw [i1 _ _ (by decide)]; exact f14
    · rw [i1 _ _ (by decide)]; exact f15
    · rw [i1 _ _ (by decide), f _ _ (by decide)]; exact g25 j
    · rw [i1 _ _ (by decide), f _ _ (by decide), g29]
      by_cases c : j = l.toNatClampNeg
      · rw [if_pos c]
      · rw [if_neg c]
    · by_cases c : j = l.toNatClampNeg
      · rw [c]; exact i3 (by omega)
      · exact i2 j c
    · rw [i1 _ _ (by decide), f _ _ (by decide)]; exact g31 j
  · have hx := i_lt (n := 6) c0 rfl
    have hx1 : (a + 1).toInt = a.toInt + 1 := i_add1 (by omega)
    have b31 : ∀ j, b 31 j = -1 := fun j => by rw [i1 _ _ (by decide), f _ _ (by decide)]; exact g31 j
    by_cases e : a = l
    · subst e
      refine Or.inr ⟨hx, _, (if_neg c0).trans (if_neg b4), ?_⟩
      rw [fin_row (fun j => by rw [up_ne (by decide)]; exact b31 j)]
      refine ⟨fun k j hk => by rw [up_ne hk]; exact i1 k j hk, fun j hj => by rw [rd_nj hj]; exact i2 j hj, fun _ => rd_eq⟩
    · have hne : a.toInt ≠ l.toInt := fun q => e (Int32.toInt_inj.mp q)
      have ra : rg a 32 := ⟨ha0, by omega⟩
      have hb : D_X11_hasBit ((1 : Int32) <<< (l &&& 31)) a = 0 := by
        rw [hb_z ra, bt_1 ⟨h0, by have := rl.2; omega⟩ (by rw [tn]; omega)]
        exact decide_eq_false (fun q => e (n_inj ha0 h0 q))
      refine Or.inr ⟨hx, _, (if_neg c0).trans (if_pos hb), ?_⟩
      rw [fin_row b31]
      exact ⟨i1, i2, fun q => i3 (by omega)⟩
end LC
