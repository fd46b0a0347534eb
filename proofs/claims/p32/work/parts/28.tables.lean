/-! the tables as the law fills them -/
def Ti (c : Int) (s : Sg) : Prop :=
  (0 ≤ (s 1 9).toInt) ∧
  ((s 1 9).toInt ≤ 10) ∧
  (0 ≤ (s 11 8).toInt) ∧
  ((s 11 8).toInt ≤ 24) ∧
  (0 ≤ (s 20 2).toInt) ∧
  ((s 20 2).toInt ≤ 8) ∧
  (∀ j : Nat, 0 ≤ (s 15 j).toInt ∧ (s 15 j).toInt ≤ 8) ∧
  (∀ j : Nat, (s 11 8).toInt ≤ j → s 15 j = 0) ∧
  (∀ j : Nat, (s 11 8).toInt ≤ j → s 14 j = 0) ∧
  (∀ j : Nat, (j : Int) < (s 11 8).toInt → 0 ≤ (s 12 j).toInt ∧ (s 12 j).toInt < 5) ∧
  (∀ o n : Nat, (o : Int) < (s 1 9).toInt → n < 20 → bt_ (s 2 o) n = true → ¬ s 5 (o * 20 + n) = 1 → 0 ≤ (s 6 (o * 20 + n)).toInt ∧ (s 6 (o * 20 + n)).toInt < (s 11 8).toInt ∧ (s 12 (s 6 (o * 20 + n)).toNatClampNeg).toInt = o) ∧
  (∀ i : Nat, (i : Int) < (s 20 2).toInt → ∀ o : Nat, o < 10 → bt_ (s 21 i) o = true → (o : Int) < (s 1 9).toInt) ∧
  (∀ i j : Nat, (i : Int) < (s 20 2).toInt → (j : Int) < (s 20 2).toInt → ∀ o : Nat, o < 10 → bt_ (s 21 i) o = true → bt_ (s 21 j) o = true → i = j) ∧
  (Sz s) ∧
  (isum (cs s) 24 ≤ c) ∧
  (∀ o : Nat, (s 1 9).toInt ≤ o → s 2 o = 0)
theorem Ti.no0 {c : Int} {s : Sg} (h : Ti c s) : 0 ≤ (s 1 9).toInt := h.1
theorem Ti.no1 {c : Int} {s : Sg} (h : Ti c s) : (s 1 9).toInt ≤ 10 := h.2.1
theorem Ti.ns0 {c : Int} {s : Sg} (h : Ti c s) : 0 ≤ (s 11 8).toInt := h.2.2.1
theorem Ti.ns1 {c : Int} {s : Sg} (h : Ti c s) : (s 11 8).toInt ≤ 24 := h.2.2.2.1
theorem Ti.ni0 {c : Int} {s : Sg} (h : Ti c s) : 0 ≤ (s 20 2).toInt := h.2.2.2.2.1
theorem Ti.ni1 {c : Int} {s : Sg} (h : Ti c s) : (s 20 2).toInt ≤ 8 := h.2.2.2.2.2.1
theorem Ti.p8 {c : Int} {s : Sg} (h : Ti c s) : ∀ j : Nat, 0 ≤ (s 15 j).toInt ∧ (s 15 j).toInt ≤ 8 := h.2.2.2.2.2.2.1
theorem Ti.pz {c : Int} {s : Sg} (h : Ti c s) : ∀ j : Nat, (s 11 8).toInt ≤ j → s 15 j = 0 := h.2.2.2.2.2.2.2.1
theorem Ti.kz {c : Int} {s : Sg} (h : Ti c s) : ∀ j : Nat, (s 11 8).toInt ≤ j → s 14 j = 0 := h.2.2.2.2.2.2.2.2.1
theorem Ti.ow {c : Int} {s : Sg} (h : Ti c s) : ∀ j : Nat, (j : Int) < (s 11 8).toInt → 0 ≤ (s 12 j).toInt ∧ (s 12 j).toInt < 5 := h.2.2.2.2.2.2.2.2.2.1
theorem Ti.vs {c : Int} {s : Sg} (h : Ti c s) : ∀ o n : Nat, (o : Int) < (s 1 9).toInt → n < 20 → bt_ (s 2 o) n = true → ¬ s 5 (o * 20 + n) = 1 → 0 ≤ (s 6 (o * 20 + n)).toInt ∧ (s 6 (o * 20 + n)).toInt < (s 11 8).toInt ∧ (s 12 (s 6 (o * 20 + n)).toNatClampNeg).toInt = o := h.2.2.2.2.2.2.2.2.2.2.1
theorem Ti.it {c : Int} {s : Sg} (h : Ti c s) : ∀ i : Nat, (i : Int) < (s 20 2).toInt → ∀ o : Nat, o < 10 → bt_ (s 21 i) o = true → (o : Int) < (s 1 9).toInt := h.2.2.2.2.2.2.2.2.2.2.2.1
theorem Ti.dj {c : Int} {s : Sg} (h : Ti c s) : ∀ i j : Nat, (i : Int) < (s 20 2).toInt → (j : Int) < (s 20 2).toInt → ∀ o : Nat, o < 10 → bt_ (s 21 i) o = true → bt_ (s 21 j) o = true → i = j := h.2.2.2.2.2.2.2.2.2.2.2.2.1
theorem Ti.sz {c : Int} {s : Sg} (h : Ti c s) : Sz s := h.2.2.2.2.2.2.2.2.2.2.2.2.2.1
theorem Ti.sm {c : Int} {s : Sg} (h : Ti c s) : isum (cs s) 24 ≤ c := h.2.2.2.2.2.2.2.2.2.2.2.2.2.2.1
theorem Ti.dz {c : Int} {s : Sg} (h : Ti c s) : ∀ o : Nat, (s 1 9).toInt ≤ o → s 2 o = 0 := h.2.2.2.2.2.2.2.2.2.2.2.2.2.2.2
section TI
variable {c : Int} {s : Sg}
theorem Ti.tb (h : Ti c s) : Tb s s :=
  ⟨fun _ => rfl, fun _ => rfl, fun _ => rfl, fun _ => rfl, fun _ => rfl, fun _ => rfl, fun _ => rfl, rfl, fun _ => rfl, fun _ => rfl, h.ns0, Int.le_refl _, h.ns1, h.no0, Int.le_refl _, h.no1, fun _ _ => rfl, fun _ _ => rfl, fun _ _ => rfl, fun j hj _ => h.kz j hj, fun _ _ => rfl, fun _ _ => rfl, fun _ _ => rfl, fun _ _ => rfl, fun _ _ => rfl, fun _ _ => rfl, fun _ _ => rfl, h.ni0, h.ni1, h.it, fun j _ => h.p8 j, fun j hj => (h.ow j hj).1, h.vs, h.dj⟩
theorem cs_cg {s s' : Sg} (h11 : s' 11 8 = s 11 8) (h13 : ∀ j, s' 13 j = s 13 j) (h15 : ∀ j, s' 15 j = s 15 j) : cs s' = cs s := funext fun k => by unfold cs; rw [h11, h13, h15]
theorem Ti.of {s' : Sg} (hs : ∀ k j, k < 23 → k ≠ 3 → k ≠ 4 → k ≠ 7 → k ≠ 10 → s' k j = s k j) (h : Ti c s) : Ti c s' := by
  have e1 := hs 1 9 (by decide) (by decide) (by decide) (by decide) (by decide)
  have e11 := hs 11 8 (by decide) (by decide) (by decide) (by decide) (by decide)
  have e20 := hs 20 2 (by decide) (by decide) (by decide) (by decide) (by decide)
  have e2 := fun j => hs 2 j (by decide) (by decide) (by decide) (by decide) (by decide)
  have e5 := fun j => hs 5 j (by decide) (by decide) (by decide) (by decide) (by decide)
  have e6 := fun j => hs 6 j (by decide) (by decide) (by decide) (by decide) (by decide)
  have e8 := fun j => hs 8 j (by decide) (by decide) (by decide) (by decide) (by decide)
  have e9 := fun j => hs 9 j (by decide) (by decide) (by decide) (by decide) (by decide)
  have e12 := fun j => hs 12 j (by decide) (by decide) (by decide) (by decide) (by decide)
  have e13 := fun j => hs 13 j (by decide) (by decide) (by decide) (by decide) (by decide)
  have e14 := fun j => hs 14 j (by decide) (by decide) (by decide) (by decide) (by decide)
  have e15 := fun j => hs 15 j (by decide) (by decide) (by decide) (by decide) (by decide)
  have e16 := fun j => hs 16 j (by decide) (by decide) (by decide) (by decide) (by decide)
  have e17 := fun j => hs 17 j (by decide) (by decide) (by decide) (by decide) (by decide)
  have e21 := fun j => hs 21 j (by decide) (by decide) (by decide) (by decide) (by decide)
  refine ⟨by rw [e1]; exact h.no0, by rw [e1]; exact h.no1, by rw [e11]; exact h.ns0, by rw [e11]; exact h.ns1, by rw [e20]; exact h.ni0, by rw [e20]; exact h.ni1, fun j => by rw [e15]; exact h.p8 j, ?_, ?_, ?_, ?_, ?_, ?_, ⟨?_, ?_, ?_⟩, ?_, ?_⟩
  · rw [e11]; intro j hj; rw [e15]; exact h.pz j hj
  · rw [e11]; intro j hj; rw [e14]; exact h.kz j hj
  · rw [e11]; intro j hj; rw [e12]; exact h.ow j hj
  · rw [e1, e11]; intro o n ho hn; rw [e2, e5, e6, e12]; exact h.vs o n ho hn
  · rw [e20, e1]; intro i hi o ho; rw [e21]; exact h.it i hi o ho
  · rw [e20]; intro i j hi hj o ho; rw [e21, e21]; exact h.dj i j hi hj o ho
  · rw [e11]; intro j hj; rw [e13]; exact h.sz.1 j hj
  · intro j p hj hp; rw [e15, e16, e17]; exact h.sz.2.1 j p hj hp
  · rw [e1]; intro o n ho h10 hn; rw [e2, e5, e8, e9]; exact h.sz.2.2 o n ho h10 hn
  · rw [cs_cg e11 e13 e15]; exact h.sm
  · rw [e1]; intro o ho; rw [e2]; exact h.dz o ho
theorem Ti.le {d : Int} (h : Ti c s) (hd : c ≤ d) : Ti d s := ⟨h.no0, h.no1, h.ns0, h.ns1, h.ni0, h.ni1, h.p8, h.pz, h.kz, h.ow, h.vs, h.it, h.dj, h.sz, by have := h.sm; omega, h.dz⟩
/-- an object more -/
theorem t_object (h : Ti c s) (hc : (s 1 9).toInt < 10) : T_X11_object s = true ∧ D_X11_object s = (s 1 9, up s 1 9 (s 1 9 + 1)) ∧ Ti c (up s 1 9 (s 1 9 + 1)) := by
  have e : D_X6_isFull s = 0 := by
    unfold D_X6_isFull; rw [if_pos (Int32.lt_iff_toInt_lt.mpr (by rw [show (10 : Int32).toInt = 10 from rfl]; exact hc))]
  have hi : (s 1 9 + 1).toInt = (s 1 9).toInt + 1 := i_add1 (by omega)
  have f : ∀ k j, k ≠ 1 → (up s 1 9 (s 1 9 + 1)) k j = s k j := fun k j hk => by rw [up_ne hk]
  have e1 : (up s 1 9 (s 1 9 + 1)) 1 9 = s 1 9 + 1 := rd_eq
  have h0 := h.no0
  have hz := h.dz (s 1 9).toInt.toNat (by omega)
  refine ⟨by unfold T_X11_object; rw [if_pos e], by unfold D_X11_object; rw [if_pos e]; rfl, ?_⟩
  refine ⟨by rw [e1, hi]; omega, by rw [e1, hi]; omega, by rw [f _ _ (by decide)]; exact h.ns0, by rw [f _ _ (by decide)]; exact h.ns1, by rw [f _ _ (by decide)]; exact h.ni0, by rw [f _ _ (by decide)]; exact h.ni1, fun j => by rw [f _ _ (by decide)]; exact h.p8 j, ?_, ?_, ?_, ?_, ?_, ?_, ⟨?_, ?_, ?_⟩, ?_, ?_⟩
  · rw [f 11 _ (by decide)]; intro j hj; rw [f _ _ (by decide)]; exact h.pz j hj
  · rw [f 11 _ (by decide)]; intro j hj; rw [f _ _ (by decide)]; exact h.kz j hj
  · rw [f 11 _ (by decide)]; intro j hj; rw [f _ _ (by decide)]; exact h.ow j hj
  · rw [e1, hi, f 11 _ (by decide)]; intro o n ho hn; rw [f 2 _ (by decide), f 5 _ (by decide), f 6 _ (by decide), f 12 _ (by decide)]
    intro hb
    by_cases co : o = (s 1 9).toInt.toNat
    · rw [co, hz, bt_0] at hb; cases hb
    · exact h.vs o n (by omega) hn hb
  · rw [e1, hi, f 20 _ (by decide)]; intro i hi2 o ho; rw [f 21 _ (by decide)]; intro hb; have := h.it i hi2 o ho hb; omega
  · rw [f 20 _ (by decide)]; intro i j hi hj o ho; rw [f 21 _ (by decide), f 21 _ (by decide)]; exact h.dj i j hi hj o ho
  · rw [f 11 _ (by decide)]; intro j hj; rw [f 13 _ (by decide)]; exact h.sz.1 j hj
  · intro j p hj hp; rw [f 15 _ (by decide), f 16 _ (by decide), f 17 _ (by decide)]; exact h.sz.2.1 j p hj hp
  · rw [e1, hi]; intro o n ho h10 hn; rw [f 2 _ (by decide), f 5 _ (by decide), f 8 _ (by decide), f 9 _ (by decide)]
    intro hb
    by_cases co : o = (s 1 9).toInt.toNat
    · rw [co, hz, bt_0] at hb; cases hb
    · exact h.sz.2.2 o n (by omega) h10 hn hb
  · rw [cs_cg (f _ _ (by decide)) (fun j => f _ _ (by decide)) (fun j => f _ _ (by decide))]; exact h.sm
  · rw [e1, hi]; intro o ho; rw [f _ _ (by decide)]; exact h.dz o (by omega)
theorem isum_at {f g : Nat → Int} {a n : Nat} (ha : a < n) (h : ∀ i, i < n → i ≠ a → g i = f i) : isum g n = isum f n - f a + g a := by
  rw [isum_hole (c := g) (a := a) n ha, isum_hole (c := f) (a := a) n ha, isum_cg (f := fun k => if k = a then 0 else g k) (g := fun k => if k = a then 0 else f k) n (fun i hi => by
    show (if i = a then 0 else g i) = if i = a then 0 else f i
    by_cases e : i = a
    · rw [if_pos e, if_pos e]
    · rw [if_neg e, if_neg e, h i hi e])]
  omega
theorem align_ok {a : Int32} (h : pw a) : ¬ D_X11_isAlign a = 0 := by
  rcases h with rfl | rfl | rfl | rfl | rfl <;> decide
theorem has6 {a : Int32} (h0 : 0 ≤ a.toInt) (h1 : a.toInt < (s 1 9).toInt) (h2 : (s 1 9).toInt ≤ 10) : ¬ D_X6_has s a = 0 := has_no ⟨h0, by omega⟩ h1
/-- a section more -/
theorem t_section (h : Ti c s) (hc : (s 11 8).toInt < 24) {o al k : Int32} (ho : 0 ≤ o.toInt) (ho1 : o.toInt < 5) (ho2 : o.toInt < (s 1 9).toInt) (hal : pw al) : T_X11_section s o al k = true ∧ D_X11_section s o al k = (s 11 8, up (up (up (up s 12 (s 11 8).toNatClampNeg o) 13 (s 11 8).toNatClampNeg al) 14 (s 11 8).toNatClampNeg k) 11 8 (s 11 8 + 1)) ∧ Ti (c + al.toInt - 1) (up (up (up (up s 12 (s 11 8).toNatClampNeg o) 13 (s 11 8).toNatClampNeg al) 14 (s 11 8).toNatClampNeg k) 11 8 (s 11 8 + 1)) := by
  have e : D_X8_isFull s = 0 := by
    unfold D_X8_isFull; rw [if_pos (Int32.lt_iff_toInt_lt.mpr (by rw [show (24 : Int32).toInt = 24 from rfl]; exact hc))]
  have hi : (s 11 8 + 1).toInt = (s 11 8).toInt + 1 := i_add1 (by omega)
  have h6 := has6 ho ho2 h.no1
  have hA := align_ok hal
  refine ⟨by unfold T_X11_section; rw [if_neg h6, if_neg hA, if_pos e], by unfold D_X11_section D_X8_add; rw [if_neg h6, if_neg hA, if_pos e, if_pos e, Int32.add_sub_cancel], ?_⟩
  have h0 := h.ns0
  have hN : (s 11 8).toNatClampNeg = (s 11 8).toInt.toNat := rfl
  generalize (s 11 8).toNatClampNeg = N at *
  have f : ∀ i j, i ≠ 11 → i ≠ 12 → i ≠ 13 → i ≠ 14 → (up (up (up (up s 12 N o) 13 N al) 14 N k) 11 8 (s 11 8 + 1)) i j = s i j := fun i j e1 e2 e3 e4 => by rw [up_ne e1, up_ne e4, up_ne e3, up_ne e2]
  have v11 : (up (up (up (up s 12 N o) 13 N al) 14 N k) 11 8 (s 11 8 + 1)) 11 8 = s 11 8 + 1 := rd_eq
  have v12 : ∀ j, (up (up (up (up s 12 N o) 13 N al) 14 N k) 11 8 (s 11 8 + 1)) 12 j = if j = N then o else s 12 j := fun j => by simp [up_at]
  have v13 : ∀ j, (up (up (up (up s 12 N o) 13 N al) 14 N k) 11 8 (s 11 8 + 1)) 13 j = if j = N then al else s 13 j := fun j => by simp [up_at]
  have v14 : ∀ j, (up (up (up (up s 12 N o) 13 N al) 14 N k) 11 8 (s 11 8 + 1)) 14 j = if j = N then k else s 14 j := fun j => by simp [up_at]
  generalize up (up (up (up s 12 N o) 13 N al) 14 N k) 11 8 (s 11 8 + 1) = t at *
  refine ⟨by rw [f _ _ (by decide) (by decide) (by decide) (by decide)]; exact h.no0, by rw [f _ _ (by decide) (by decide) (by decide) (by decide)]; exact h.no1, by rw [v11, hi]; omega, by rw [v11, hi]; omega, by rw [f _ _ (by decide) (by decide) (by decide) (by decide)]; exact h.ni0, by rw [f _ _ (by decide) (by decide) (by decide) (by decide)]; exact h.ni1, fun j => by rw [f _ _ (by decide) (by decide) (by decide) (by decide)]; exact h.p8 j, ?_, ?_, ?_, ?_, ?_, ?_, ⟨?_, ?_, ?_⟩, ?_, ?_⟩
  · rw [v11, hi]; intro j hj; rw [f _ _ (by decide) (by decide) (by decide) (by decide)]; exact h.pz j (by omega)
  · rw [v11, hi]; intro j hj; rw [v14, if_neg (by omega)]; exact h.kz j (by omega)
  · rw [v11, hi]; intro j hj; rw [v12]
    by_cases e2 : j = N
    · rw [if_pos e2]; exact ⟨ho, ho1⟩
    · rw [if_neg e2]; exact h.ow j (by omega)
  · rw [f 1 _ (by decide) (by decide) (by decide) (by decide), v11, hi]; intro a n ha hn
    rw [f 2 _ (by decide) (by decide) (by decide) (by decide), f 5 _ (by decide) (by decide) (by decide) (by decide), f 6 _ (by decide) (by decide) (by decide) (by decide), v12]
    intro hb hk
    obtain ⟨w1, w2, w3⟩ := h.vs a n ha hn hb hk
    rw [if_neg (by rw [tn]; omega)]
    exact ⟨w1, by omega, w3⟩
  · rw [f 20 _ (by decide) (by decide) (by decide) (by decide), f 1 _ (by decide) (by decide) (by decide) (by decide)]; intro i hi2 a ha; rw [f 21 _ (by decide) (by decide) (by decide) (by decide)]; exact h.it i hi2 a ha
  · rw [f 20 _ (by decide) (by decide) (by decide) (by decide)]; intro i j hi hj a ha; rw [f 21 _ (by decide) (by decide) (by decide) (by decide), f 21 _ (by decide) (by decide) (by decide) (by decide)]; exact h.dj i j hi hj a ha
  · rw [v11, hi]; intro j hj; rw [v13]
    by_cases e2 : j = N
    · rw [if_pos e2]; exact hal
    · rw [if_neg e2]; exact h.sz.1 j (by omega)
  · intro j p hj hp; rw [f 15 _ (by decide) (by decide) (by decide) (by decide), f 16 _ (by decide) (by decide) (by decide) (by decide), f 17 _ (by decide) (by decide) (by decide) (by decide)]; exact h.sz.2.1 j p hj hp
  · rw [f 1 _ (by decide) (by decide) (by decide) (by decide)]; intro a n ha h10 hn; rw [f 2 _ (by decide) (by decide) (by decide) (by decide), f 5 _ (by decide) (by decide) (by decide) (by decide), f 8 _ (by decide) (by decide) (by decide) (by decide), f 9 _ (by decide) (by decide) (by decide) (by decide)]; exact h.sz.2.2 a n ha h10 hn
  · have hs := h.sm
    have hpz := h.pz N (by omega)
    have z0 : (0 : Int32).toInt = 0 := rfl
    rw [isum_at (f := cs s) (g := cs t) (a := N) (n := 24) (by omega) (fun i hi2 hne => by
      unfold cs
      rw [v11, hi, v13, if_neg hne, f 15 _ (by decide) (by decide) (by decide) (by decide)]
      by_cases e2 : (i : Int) < (s 11 8).toInt
      · rw [if_pos e2, if_pos (by omega)]
      · rw [if_neg e2, if_neg (by omega)])]
    have c1 : cs s N = 0 := by unfold cs; rw [if_neg (by omega)]
    have c2 : cs t N = al.toInt - 1 := by unfold cs; rw [v11, hi, if_pos (by omega), v13, if_pos rfl, f 15 _ (by decide) (by decide) (by decide) (by decide), hpz, z0]; omega
    rw [c1, c2]; omega
  · rw [f 1 _ (by decide) (by decide) (by decide) (by decide)]; intro a ha; rw [f 2 _ (by decide) (by decide) (by decide) (by decide)]; exact h.dz a ha
end TI
