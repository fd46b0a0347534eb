theorem pc_21 {q : Nat} (hq : q = 38 ∨ q = 60) {s t : Sg} (h : Pc q s t) {i : Nat} {v w : Int32} (e : w = v) : Pc q (up s (q + 21) i v) (up t (q + 21) i w) := by
  subst e
  have f : ∀ (z : Sg) (k j : Nat), k ≠ q + 21 → (up z (q + 21) i w) k j = z k j := fun z k j e => by rw [up_ne e]
  have hk := h.pl
  refine ⟨⟨hk.od.of (fun i j hi => f _ _ _ (by omega)) (fun i j hi => f _ _ _ (by omega)), ?_, ?_, ?_, ?_⟩, h.cv.of (fun k j hk => f _ _ _ (by omega)), ?_⟩
  · rw [f _ _ _ (by omega), f _ _ _ (by omega)]; exact hk.e11
  · rw [f _ _ _ (by omega), f _ _ _ (by omega)]; exact hk.e12
  · rw [f _ _ 5 (by omega)]; intro j hj; rw [f _ (q + 16) _ (by omega), f _ _ _ (by omega), f _ _ _ (by omega)]; exact hk.a17 j hj
  · rw [f _ _ 5 (by omega)]; intro j hj; rw [f _ (q + 16) _ (by omega), f _ _ _ (by omega), f _ _ _ (by omega)]; exact hk.a18 j hj
  · intro j hj; rw [up_at, up_at, h.nm j hj]
theorem x9_place {q : Nat} {s t : Sg} (h : St q s t) {n : Int32} : D_X9_placeOf q t n = D_X9_placeOf q s n := by
  unfold D_X9_placeOf
  by_cases c : D_X11_isName n = 0
  · rw [if_pos c, if_pos c]
  · have := rg_isName c
    rw [if_neg c, if_neg c, h.k9 _ (rg_nat this).1]
/-- of a section that is reached, address and widths agree -/
theorem pc_sec {q : Nat} {s t : Sg} (h : Pc q s t) {k : Int32} (hk : ¬ D_X7_hasSection q s k = 0) : t (q + 17) k.toNatClampNeg = s (q + 17) k.toNatClampNeg ∧ t (q + 18) k.toNatClampNeg = s (q + 18) k.toNatClampNeg ∧ t (q + 19) k.toNatClampNeg = s (q + 19) k.toNatClampNeg ∧ (∀ p : Nat, p < 8 → t (q + 20) (k.toNatClampNeg * 8 + p) = s (q + 20) (k.toNatClampNeg * 8 + p)) := by
  obtain ⟨r1, r2⟩ := hs_z.mp hk
  obtain ⟨j, j1, j2⟩ := h.cv _ (rg_nat r1).1 r2
  rw [← j2]
  exact ⟨h.pl.a17 j j1, h.pl.a18 j j1, h.pl.od.ln j j1, fun p hp => h.pl.od.wi j p j1 hp⟩
theorem pc_addr {q : Nat} (hq : q = 38 ∨ q = 60) {s t : Sg} (h : Pc q s t) : Pc q (D_X3_addressNames q s) (D_X3_addressNames q t) := by
  unfold D_X3_addressNames R_X3_addressNames_69
  refine lpB (I := fun _ s1 t1 => Pc q s1 t1) (J := fun s1 t1 => Pc q s1 t1) 20 (by decide) (fun x s1 t1 hx0 hI => ?_) (by decide) (by decide) h
  have hrt := hI.pl.od.rt
  by_cases c0 : 20 ≤ x
  · exact Or.inl ⟨x, x, s1, t1, if_pos c0, if_pos c0, hI⟩
  · refine Or.inr (Or.inl ⟨i_lt c0 rfl, ?_⟩)
    have e1 : D_X9_sectionOf q t1 x = D_X9_sectionOf q s1 x := x9_sec hrt.st
    by_cases c1 : D_X7_hasSection q s1 (D_X9_sectionOf q s1 x) = 0
    · exact ⟨_, _, (if_neg c0).trans (if_pos c1), (if_neg c0).trans (if_pos (by rw [e1, hs_eq hrt.b5]; exact c1)), hI⟩
    · have c1' : ¬ D_X7_hasSection q t1 (D_X9_sectionOf q t1 x) = 0 := by rw [e1, hs_eq hrt.b5]; exact c1
      by_cases c2 : D_X11_isIn (D_X9_sectionOf q s1 x) 24 = 0
      · exact ⟨_, _, (if_neg c0).trans ((if_neg c1).trans (if_pos c2)), (if_neg c0).trans ((if_neg c1').trans (if_pos (by rw [e1]; exact c2))), hI⟩
      · obtain ⟨p1, _, _, p4⟩ := pc_sec hI c1
        refine ⟨_, _, (if_neg c0).trans ((if_neg c1).trans (if_neg c2)), (if_neg c0).trans ((if_neg c1').trans (if_neg (by rw [e1]; exact c2))), pc_21 hq hI ?_⟩
        rw [e1, p1, wa_eq p4, x9_place hrt.st]
theorem stands_eq {q : Nat} {s t : Sg} (h : Pc q s t) {n : Int32} : D_X3_standsFor q t n = D_X3_standsFor q s n := by
  unfold D_X3_standsFor
  by_cases c : D_X11_isName n = 0
  · rw [if_pos c, if_pos c]
  · rw [if_neg c, if_neg c, h.nm _ (rg_nat (rg_isName c)).1]
theorem pc_len {q : Nat} (hq : q = 38 ∨ q = 60) {s t : Sg} (h : Pc q s t) {i K : Nat} {v w : Int32} (e : w = v) : Pc q (up (up s (q + 20) i 5) (q + 19) K v) (up (up t (q + 20) i 5) (q + 19) K w) := by
  subst e
  have f : ∀ (z : Sg) (k j : Nat), k ≠ q + 20 → k ≠ q + 19 → (up (up z (q + 20) i 5) (q + 19) K w) k j = z k j := fun z k j e1 e2 => by rw [up_ne e2, up_ne e1]
  have v19 : ∀ (z : Sg) (j : Nat), (up (up z (q + 20) i 5) (q + 19) K w) (q + 19) j = if j = K then w else z (q + 19) j := fun z j => by simp [up_at]
  have v20 : ∀ (z : Sg) (j : Nat), (up (up z (q + 20) i 5) (q + 19) K w) (q + 20) j = if j = i then 5 else z (q + 20) j := fun z j => by simp [up_at]
  have hk := h.pl
  have ho := hk.od
  refine ⟨⟨⟨ho.rt.of (fun k j hk => f _ _ _ (by omega) (by omega)) (fun k j hk => f _ _ _ (by omega) (by omega)), ?_, ?_, ?_, ?_, ?_, ?_, ?_, ?_⟩, ?_, ?_, ?_, ?_⟩, h.cv.of (fun k j hk => f _ _ _ (by omega) (by omega)), ?_⟩
  · rw [f _ _ _ (by omega) (by omega), f _ _ _ (by omega) (by omega)]; exact ho.n
  · rw [f _ _ _ (by omega) (by omega)]; exact ho.n0
  · rw [f _ _ _ (by omega) (by omega)]; exact ho.n1
  · rw [f _ _ 5 (by omega) (by omega), f _ 11 8 (by omega) (by omega), f _ (q + 12) 5 (by omega) (by omega)]; intro j hj; rw [f _ _ _ (by omega) (by omega), f _ _ _ (by omega) (by omega)]; exact ho.od j hj
  · rw [f _ _ 5 (by omega) (by omega)]; intro j hj; rw [f _ (q + 16) _ (by omega) (by omega), v19, v19, ho.ln j hj]
  · rw [f _ _ 5 (by omega) (by omega)]; intro j p hj hp; rw [f _ (q + 16) _ (by omega) (by omega), v20, v20, ho.wi j p hj hp]
  · rw [f _ _ 5 (by omega) (by omega)]; intro a c h1 h2; rw [f _ _ _ (by omega) (by omega), f _ _ _ (by omega) (by omega)]; exact ho.di a c h1 h2
  · rw [f _ _ 5 (by omega) (by omega)]
    obtain ⟨z, z1, z2⟩ := ho.cc
    exact ⟨z, fun k hk => by rw [z1 k hk]; exact ⟨fun ⟨j, j1, j2⟩ => ⟨j, j1, by rw [f _ _ _ (by omega) (by omega)]; exact j2⟩, fun ⟨j, j1, j2⟩ => ⟨j, j1, by rw [f _ _ _ (by omega) (by omega)] at j2; exact j2⟩⟩, z2⟩
  · rw [f _ _ _ (by omega) (by omega), f _ _ _ (by omega) (by omega)]; exact hk.e11
  · rw [f _ _ _ (by omega) (by omega), f _ _ _ (by omega) (by omega)]; exact hk.e12
  · rw [f _ _ 5 (by omega) (by omega)]; intro j hj; rw [f _ (q + 16) _ (by omega) (by omega), f _ _ _ (by omega) (by omega), f _ _ _ (by omega) (by omega)]; exact hk.a17 j hj
  · rw [f _ _ 5 (by omega) (by omega)]; intro j hj; rw [f _ (q + 16) _ (by omega) (by omega), f _ _ _ (by omega) (by omega), f _ _ _ (by omega) (by omega)]; exact hk.a18 j hj
  · intro j hj; rw [f _ _ _ (by omega) (by omega), f _ _ _ (by omega) (by omega)]; exact h.nm j hj
theorem uc4_2 {β γ σ : Type} {B : Int32 → β → γ → σ → Bool × (Int32 × β × γ × σ)} : uc4 B = uc2 (fun x z => B x z.1 z.2.1 z.2.2) := rfl
theorem uc3_2 {β σ : Type} {B : Int32 → β → σ → Bool × (Int32 × β × σ)} : uc3 B = uc2 (fun x z => B x z.1 z.2) := rfl
theorem pc_lin {q : Nat} (hq : q = 38 ∨ q = 60) {s t : Sg} (h : Pc q s t) {k a : Int32} (hk : ¬ D_X7_hasSection q s k = 0) : (D_X3_lengthenIn q t k a).1 = (D_X3_lengthenIn q s k a).1 ∧ Pc q (D_X3_lengthenIn q s k a).2 (D_X3_lengthenIn q t k a).2 := by
  obtain ⟨r1, r2⟩ := hs_z.mp hk
  have hI : ¬ D_X11_isIn k 24 = 0 := by
    unfold D_X11_isIn
    rw [if_neg (n_lt r1.1), if_neg (n_le (m := 24) (n := 24) r1.2 rfl)]; decide
  unfold D_X3_lengthenIn R_X3_lengthenIn_139
  rw [if_neg hI, if_neg hI, uc4_2]
  have main := lpB (B := fun x (z : Int32 × Int32 × Sg) => B_X3_lengthenIn_24 q k a x z.1 z.2.1 z.2.2) (B' := fun x (z : Int32 × Int32 × Sg) => B_X3_lengthenIn_24 q k a x z.1 z.2.1 z.2.2) (I := fun _ z y => y.1 = z.1 ∧ y.2.1 = z.2.1 ∧ Pc q z.2.2 y.2.2 ∧ z.2.2 (q + 12) 5 = s (q + 12) 5) (J := fun z y => y.1 = z.1 ∧ Pc q z.2.2 y.2.2) 8 (by decide) (fun x z y hx0 hI2 => ?_) (x := 0) (s := (0, s (q + 17) k.toNatClampNeg, s)) (t := (0, t (q + 17) k.toNatClampNeg, t)) (by decide) (by decide) ⟨rfl, (pc_sec h hk).1, h, rfl⟩
  · exact main
  · obtain ⟨z3, z4, s1⟩ := z
    obtain ⟨y3, y4, t1⟩ := y
    obtain ⟨e3, e4, hp, eb⟩ := hI2
    have e3 : y3 = z3 := e3
    have e4 : y4 = z4 := e4
    have hp : Pc q s1 t1 := hp
    have eb : s1 (q + 12) 5 = s (q + 12) 5 := eb
    subst e3; subst e4
    have hk1 : ¬ D_X7_hasSection q s1 k = 0 := by rw [hs_eq eb]; exact hk
    obtain ⟨p1, p2, p3, p4⟩ := pc_sec hp hk1
    have tb : Tb s1 t1 := hp.pl.od.rt.st.tk.tb
    by_cases c0 : 8 ≤ x
    · exact Or.inl ⟨x, x, (y3, y4, s1), (y3, y4, t1), if_pos c0, if_pos c0, rfl, hp⟩
    · have hx := i_lt (n := 8) c0 rfl
      have ei := i_ma (x := k) (y := x) 8 8 rfl r1 ⟨hx0, hx⟩ (by decide) (by decide)
      have ew : t1 (q + 20) ((k * 8) + x).toNatClampNeg = s1 (q + 20) ((k * 8) + x).toNatClampNeg := by rw [ei]; exact p4 _ (rg_nat (show rg x 8 from ⟨hx0, hx⟩)).1
      have ek : D_X8_kind t1 k x = D_X8_kind s1 k x := x8_kind tb
      have en : D_X8_name t1 k x = D_X8_name s1 k x := x8_name tb
      have eq4 : ∀ n, D_X3_standsFor q t1 n = D_X3_standsFor q s1 n := fun n => stands_eq hp
      refine Or.inr (Or.inl ⟨hx, ?_⟩)
      by_cases c1 : D_X8_kind s1 k x = 2
      · have c1' : D_X8_kind t1 k x = 2 := by rw [ek]; exact c1
        by_cases c2 : s1 (q + 20) ((k * 8) + x).toNatClampNeg = 2
        · have c2' : t1 (q + 20) ((k * 8) + x).toNatClampNeg = 2 := by rw [ew]; exact c2
          have e3 : (D_J9_abs_0f7a4 ((y4 + (t1 (q + 20) ((k * 8) + x).toNatClampNeg)) - (D_X3_standsFor q t1 (D_X8_name t1 k x)))) = (D_J9_abs_0f7a4 ((y4 + (s1 (q + 20) ((k * 8) + x).toNatClampNeg)) - (D_X3_standsFor q s1 (D_X8_name s1 k x)))) := by rw [ew, en, eq4]
          by_cases c3 : (D_J9_abs_0f7a4 ((y4 + (s1 (q + 20) ((k * 8) + x).toNatClampNeg)) - (D_X3_standsFor q s1 (D_X8_name s1 k x)))) ≤ a
          · have c3' : (D_J9_abs_0f7a4 ((y4 + (t1 (q + 20) ((k * 8) + x).toNatClampNeg)) - (D_X3_standsFor q t1 (D_X8_name t1 k x)))) ≤ a := by rw [e3]; exact c3
            exact ⟨(y3, y4 + (s1 (q + 20) ((k * 8) + x).toNatClampNeg), s1), (y3, y4 + (t1 (q + 20) ((k * 8) + x).toNatClampNeg), t1), (if_neg c0).trans ((if_pos c1).trans ((if_pos c2).trans (if_pos c3))), (if_neg c0).trans ((if_pos c1').trans ((if_pos c2').trans (if_pos c3'))), rfl, by show y4 + _ = y4 + _; rw [ew], hp, eb⟩
          · have c3' : ¬ (D_J9_abs_0f7a4 ((y4 + (t1 (q + 20) ((k * 8) + x).toNatClampNeg)) - (D_X3_standsFor q t1 (D_X8_name t1 k x)))) ≤ a := by rw [e3]; exact c3
            exact ⟨(1, y4 + (s1 (q + 20) ((k * 8) + x).toNatClampNeg), _), (1, y4 + (t1 (q + 20) ((k * 8) + x).toNatClampNeg), _), (if_neg c0).trans ((if_pos c1).trans ((if_pos c2).trans (if_neg c3))), (if_neg c0).trans ((if_pos c1').trans ((if_pos c2').trans (if_neg c3'))), rfl, by show y4 + _ = y4 + _; rw [ew], pc_len hq hp (by rw [p3]), by show (up (up s1 _ _ _) _ _ _) (q + 12) 5 = _; rw [up_ne (by omega), up_ne (by omega)]; exact eb⟩
        · have c2' : ¬ t1 (q + 20) ((k * 8) + x).toNatClampNeg = 2 := by rw [ew]; exact c2
          exact ⟨(y3, y4 + (s1 (q + 20) ((k * 8) + x).toNatClampNeg), s1), (y3, y4 + (t1 (q + 20) ((k * 8) + x).toNatClampNeg), t1), (if_neg c0).trans ((if_pos c1).trans (if_neg c2)), (if_neg c0).trans ((if_pos c1').trans (if_neg c2')), rfl, by show y4 + _ = y4 + _; rw [ew], hp, eb⟩
      · have c1' : ¬ D_X8_kind t1 k x = 2 := by rw [ek]; exact c1
        exact ⟨(y3, y4 + (s1 (q + 20) ((k * 8) + x).toNatClampNeg), s1), (y3, y4 + (t1 (q + 20) ((k * 8) + x).toNatClampNeg), t1), (if_neg c0).trans (if_neg c1), (if_neg c0).trans (if_neg c1'), rfl, by show y4 + _ = y4 + _; rw [ew], hp, eb⟩
