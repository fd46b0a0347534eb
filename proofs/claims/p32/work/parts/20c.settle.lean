theorem st_most {q : Nat} (hq : q = 38 ∨ q = 60) {s t : Sg} (h : St q s t) {n : Int32} (hn : rg n 20) (hk : ¬ s (q + 6) n.toNatClampNeg = -1) {v v' w w' : Int32} (e : v' = v) (f : w' = w) : St q (up (up s (q + 10) n.toNatClampNeg v) (q + 11) n.toNatClampNeg w) (up (up t (q + 10) n.toNatClampNeg v') (q + 11) n.toNatClampNeg w') := by
  subst e; subst f
  have f1 : ∀ (z : Sg) (i j : Nat), i ≠ q + 10 → i ≠ q + 11 → (up (up z (q + 10) n.toNatClampNeg v') (q + 11) n.toNatClampNeg w') i j = z i j := fun z i j h1 h2 => by rw [up_ne h2, up_ne h1]
  refine ⟨h.tk.of (fun i j hi => f1 s i j (by omega) (by omega)) (fun i j hi => f1 t i j (by omega) (by omega)), ?_, ?_, ?_, ?_, ?_, ?_, ?_, ?_, ?_⟩
  · rw [f1 _ _ _ (by omega) (by omega), f1 _ _ _ (by omega) (by omega)]; exact h.h8
  · rw [f1 _ _ _ (by omega) (by omega), f1 _ _ _ (by omega) (by omega)]; exact h.h9
  · intro j hj; rw [f1 _ _ _ (by omega) (by omega), f1 _ _ _ (by omega) (by omega)]; exact h.k6 j hj
  · intro j hj; rw [f1 _ _ _ (by omega) (by omega), f1 _ _ _ (by omega) (by omega)]; exact h.k7 j hj
  · intro j hj; rw [f1 _ _ _ (by omega) (by omega), f1 _ _ _ (by omega) (by omega)]; exact h.k8 j hj
  · intro j hj; rw [f1 _ _ _ (by omega) (by omega), f1 _ _ _ (by omega) (by omega)]; exact h.k9 j hj
  · intro j hj hc
    rw [f1 _ _ _ (by omega) (by omega)] at hc
    simp only [up_at]
    have := h.k10 j hj hc
    by_cases c : j = n.toNatClampNeg
    · simp [c]
    · simp [c, this]
  · intro j hj hc
    rw [f1 _ _ _ (by omega) (by omega)] at hc
    simp only [up_at]
    have := h.k11 j hj hc
    by_cases c : j = n.toNatClampNeg
    · simp [c]
    · simp [c, this]
  · intro j hj
    rw [f1 _ (q + 6) _ (by omega) (by omega), f1 _ (q + 8) _ (by omega) (by omega), f1 _ 11 8 (by omega) (by omega), f1 _ (q + 3) 4 (by omega) (by omega), f1 _ 12 _ (by omega) (by omega)]
    exact h.sv j hj
theorem st_weigh {q : Nat} (hq : q = 38 ∨ q = 60) {s t : Sg} (h : St q s t) {n o : Int32} (hn : rg n 20) (ho : rg o 10) (h1 : o.toInt < (s 1 9).toInt) (hbt : bt_ (s (q + 3) 4) o.toNatClampNeg = true) : St q (D_X9_weigh q s n o) (D_X9_weigh q t n o) := by
  have tb := h.tk.tb
  have h23 : 23 ≤ q := by omega
  have hN := isName_rg hn
  have e1 := e6_kind tb ho h1 hn
  have hj : n.toNatClampNeg < 20 := by rw [tn]; have := hn.1; have := hn.2; omega
  have e2 := h.k6 n.toNatClampNeg hj
  have had : ∀ z : Sg, D_X9_adopt q z n o (D_X6_kind s o n) = ad q z n o (D_X6_kind s o n) := fun z => adopt_n h23 hN
  unfold D_X9_weigh
  rw [e1, e2, had, had]
  by_cases c0 : D_X6_kind s o n = -1
  · rw [if_pos c0, if_pos c0]; exact h
  · have hA := st_ad hq h hn ho h1 c0 hbt
    rw [if_neg c0, if_neg c0, if_neg hN, if_neg hN]
    have hB : St q (if s (q + 6) n.toNatClampNeg = -1 then ad q s n o (D_X6_kind s o n) else if s (q + 6) n.toNatClampNeg ≤ D_X6_kind s o n then s else ad q s n o (D_X6_kind s o n)) (if s (q + 6) n.toNatClampNeg = -1 then ad q t n o (D_X6_kind s o n) else if s (q + 6) n.toNatClampNeg ≤ D_X6_kind s o n then t else ad q t n o (D_X6_kind s o n)) := by
      by_cases c5 : s (q + 6) n.toNatClampNeg = -1
      · rw [if_pos c5, if_pos c5]; exact hA
      · rw [if_neg c5, if_neg c5]
        by_cases c6 : s (q + 6) n.toNatClampNeg ≤ D_X6_kind s o n
        · rw [if_pos c6, if_pos c6]; exact h
        · rw [if_neg c6, if_neg c6]; exact hA
    by_cases c1 : D_X6_kind s o n = 0
    · rw [if_pos c1, if_pos c1]
      by_cases c2 : s (q + 6) n.toNatClampNeg = 0
      · rw [if_pos c2, if_pos c2]
        exact st_twice hq h (by rw [h.h9])
      · rw [if_neg c2, if_neg c2]
        by_cases c3 : D_X6_kind s o n = 1
        · rw [c3] at c1; exact absurd c1 (by decide)
        · rw [if_neg c3, if_neg c3]; exact hB
    · rw [if_neg c1, if_neg c1]
      by_cases c3 : D_X6_kind s o n = 1
      · rw [if_pos c3, if_pos c3]
        by_cases c4 : s (q + 6) n.toNatClampNeg = 1
        · rw [if_pos c4, if_pos c4]
          have c5 : ¬ s (q + 6) n.toNatClampNeg = -1 := by rw [c4]; decide
          have e10 := h.k10 _ hj c5
          have e11 := h.k11 _ hj c5
          exact st_most hq h hn c5 (by rw [e10, e6_size tb ho h1 hn]) (by rw [e11, u6_align (by omega), u6_align (by omega), e6_align tb ho h1 hn])
        · rw [if_neg c4, if_neg c4]; exact hB
      · rw [if_neg c3, if_neg c3]; exact hB
theorem oat_v {q : Nat} {s t : Sg} (h : Tk q s t) {x : Int32} (h0 : 0 ≤ x.toInt) (h1 : x.toInt < (s (q + 3) 3).toInt) : D_X10_objectAt q s x = s (q + 4) x.toNatClampNeg := by
  have hn1 := h.n1
  unfold D_X10_objectAt
  rw [if_neg (n_lt h0), if_neg (by intro c; have := Int32.le_iff_toInt_le.mp c; omega), if_neg (n_le (m := 10) (n := 10) (by omega) rfl)]
theorem oat {q : Nat} {s t : Sg} (h : Tk q s t) {x : Int32} (h0 : 0 ≤ x.toInt) (h1 : x.toInt < (s (q + 3) 3).toInt) : D_X10_objectAt q t x = D_X10_objectAt q s x ∧ rg (D_X10_objectAt q s x) 10 ∧ (D_X10_objectAt q s x).toInt < (s 1 9).toInt ∧ bt_ (s (q + 3) 4) (D_X10_objectAt q s x).toNatClampNeg = true := by
  have hn1 := h.n1
  have e : ∀ z : Sg, z (q + 3) 3 = s (q + 3) 3 → D_X10_objectAt q z x = z (q + 4) x.toNatClampNeg := fun z hz => by
    unfold D_X10_objectAt
    rw [if_neg (n_lt h0), if_neg (by rw [hz]; intro c; have := Int32.le_iff_toInt_le.mp c; omega), if_neg (n_le (m := 10) (n := 10) (by omega) rfl)]
  obtain ⟨a1, a2, a3, a4⟩ := h.ob x.toNatClampNeg (by rw [tn]; omega)
  rw [e t h.n, e s rfl]
  have := h.tb.no1; have := h.tb.no2
  exact ⟨a1, ⟨a2, by omega⟩, a3, a4⟩
theorem fr_weigh {q : Nat} (hq : q = 38 ∨ q = 60) {s : Sg} {n o : Int32} {k j : Nat} (hk : k < q + 5) : D_X9_weigh q s n o k j = s k j := fw_X9_weigh (by omega) (by omega) (by omega) (by omega) (by omega) (by omega) (by omega) (by omega)
theorem st_settle {q : Nat} (hq : q = 38 ∨ q = 60) {s t : Sg} (h : Tk q s t) : St q (D_X9_settle q s) (D_X9_settle q t) := by
  unfold D_X9_settle R_X9_settle_50
  have hf : St q (D_X9_forget q s) (D_X9_forget q t) := by
    unfold D_X9_forget R_X9_forget_52
    refine lpB (I := fun x s1 t1 => Tk q s1 t1 ∧ (t1 (q + 5) 8 = s1 (q + 5) 8 ∧ t1 (q + 5) 9 = s1 (q + 5) 9) ∧ ∀ j : Nat, (j : Int) < x.toInt → (s1 (q + 6) j = -1 ∧ s1 (q + 7) j = -1 ∧ s1 (q + 8) j = -1 ∧ s1 (q + 9) j = -1) ∧ (t1 (q + 6) j = -1 ∧ t1 (q + 7) j = -1 ∧ t1 (q + 8) j = -1 ∧ t1 (q + 9) j = -1)) (J := fun s1 t1 => St q s1 t1) 20 (by decide) (fun x s1 t1 hx0 hI => ?_) (by decide) (by decide) ⟨h.of (fun k j hk => by rw [up_ne (by omega), up_ne (by omega)]) (fun k j hk => by rw [up_ne (by omega), up_ne (by omega)]), by simp [up_at], fun j hj => by have : (0 : Int32).toInt = 0 := rfl; omega⟩
    obtain ⟨hk, ⟨g8, g9⟩, hall⟩ := hI
    by_cases c0 : 20 ≤ x
    · have hx := i_le (n := 20) c0 rfl
      refine Or.inl ⟨x, x, s1, t1, if_pos c0, if_pos c0, hk, g8, g9, ?_, ?_, ?_, ?_, ?_, ?_, ?_⟩
      · intro j hj; obtain ⟨⟨a6, a7, a8, a9⟩, ⟨b6, b7, b8, b9⟩⟩ := hall j (by omega); rw [a6, b6]
      · intro j hj; obtain ⟨⟨a6, a7, a8, a9⟩, ⟨b6, b7, b8, b9⟩⟩ := hall j (by omega); rw [a7, b7]
      · intro j hj; obtain ⟨⟨a6, a7, a8, a9⟩, ⟨b6, b7, b8, b9⟩⟩ := hall j (by omega); rw [a8, b8]
      · intro j hj; obtain ⟨⟨a6, a7, a8, a9⟩, ⟨b6, b7, b8, b9⟩⟩ := hall j (by omega); rw [a9, b9]
      · intro j hj hc; exact absurd (hall j (by omega)).1.1 hc
      · intro j hj hc; exact absurd (hall j (by omega)).1.1 hc
      · intro j hj hc; exact absurd (hall j (by omega)).1.1 hc
    · have hx := i_lt (n := 20) c0 rfl
      have hx1 : (x + 1).toInt = x.toInt + 1 := i_add1 (by omega)
      refine Or.inr (Or.inl ⟨hx, _, _, if_neg c0, if_neg c0, ?_, ?_, ?_⟩)
      · exact hk.of (fun k j hk => by rw [up_ne (by omega), up_ne (by omega), up_ne (by omega), up_ne (by omega)]) (fun k j hk => by rw [up_ne (by omega), up_ne (by omega), up_ne (by omega), up_ne (by omega)])
      · simp only [up_at]; simpa using ⟨g8, g9⟩
      · intro j hj
        simp only [up_at]
        by_cases c : j = x.toNatClampNeg
        · simp [c]
        · have := hall j (by rw [tn] at c; omega)
          simpa [c] using this
  refine lpB (I := fun _ s1 t1 => St q s1 t1) (J := fun s1 t1 => St q s1 t1) 20 (by decide) (fun x s1 t1 hx0 hI => ?_) (by decide) (by decide) hf
  by_cases c0 : 20 ≤ x
  · exact Or.inl ⟨x, x, s1, t1, if_pos c0, if_pos c0, hI⟩
  · have hx := i_lt (n := 20) c0 rfl
    refine Or.inr (Or.inl ⟨hx, _, _, if_neg c0, if_neg c0, ?_⟩)
    refine lpB (I := fun _ s2 t2 => St q s2 t2) (J := fun s2 t2 => St q s2 t2) 10 (by decide) (fun y s2 t2 hy0 hI2 => ?_) (by decide) (by decide) hI
    have e3 : D_X10_count q t2 = D_X10_count q s2 := hI2.tk.n
    have hn1 := hI2.tk.n1
    by_cases d0 : D_X10_count q s2 ≤ y
    · exact Or.inl ⟨y, y, s2, t2, if_pos d0, if_pos (by rw [e3]; exact d0), hI2⟩
    · have hy : y.toInt < (s2 (q + 3) 3).toInt := i_nle d0
      obtain ⟨o1, o2, o3, o4⟩ := oat hI2.tk hy0 hy
      refine Or.inr (Or.inl ⟨by omega, _, _, if_neg d0, if_neg (by rw [e3]; exact d0), ?_⟩)
      rw [o1]
      exact st_weigh hq hI2 ⟨hx0, hx⟩ o2 o3 o4
