section TK
variable {c : Int} {s : Sg}
theorem t_define (h : Ti c s) {a n z d : Int32} (h0 : 0 ≤ a.toInt) (h1 : a.toInt < (s 11 8).toInt) (hn0 : 0 ≤ n.toInt) (hn1 : n.toInt < 8) (ho2 : (s 12 a.toNatClampNeg).toInt < (s 1 9).toInt) (hb : bt_ (s 2 (s 12 a.toNatClampNeg).toNatClampNeg) n.toNatClampNeg = false) :
    T_X11_define s a n z d = true ∧ ∃ t : Sg, D_X11_define s a n z d = (s 15 a.toNatClampNeg, t) ∧ Ti c t ∧ (∀ i j, i ≠ 2 → i ≠ 3 → i ≠ 5 → i ≠ 6 → i ≠ 7 → i ≠ 10 → t i j = s i j) ∧ (∀ j, t 2 j = if j = (s 12 a.toNatClampNeg).toNatClampNeg then s 2 (s 12 a.toNatClampNeg).toNatClampNeg ||| (1 <<< (n &&& 31)) else s 2 j) := by
  obtain ⟨w1, w2⟩ := h.ow a.toNatClampNeg (by rw [tn]; omega)
  have ro : rg (s 12 a.toNatClampNeg) 10 := ⟨w1, by omega⟩
  have rn : rg n 20 := ⟨hn0, by omega⟩
  have hN := name_8 hn0 (by omega : n.toInt < 20)
  have hO : D_X8_objectOf s a = s 12 a.toNatClampNeg := by unfold D_X8_objectOf; rw [if_neg (has8 h h0 h1)]
  have hP : D_X8_pieces s a = s 15 a.toNatClampNeg := by unfold D_X8_pieces; rw [if_neg (has8 h h0 h1)]
  have hK : D_X6_kind s (s 12 a.toNatClampNeg) n = -1 := kind_m1 rn hb
  have h6 := has6 w1 ho2 h.no1
  have hT : T_X11_define s a n z d = true := by
    unfold T_X11_define
    rw [if_neg (has8 h h0 h1), if_neg hN, hO, if_pos hK]
    by_cases cz : z = 0
    · rw [if_pos cz]; by_cases cd : d = 0
      · rw [if_pos cd]
      · rw [if_neg cd]
    · rw [if_neg cz]; by_cases cd : d = 0
      · rw [if_pos cd]
      · rw [if_neg cd]
  refine ⟨hT, ?_⟩
  generalize hOO : s 12 a.toNatClampNeg = o at *
  have main : ∀ k : Int32, ¬ k = 1 → ∀ t : Sg, (∀ i j, i ≠ 10 → t i j = (D_X6_addDefinition s o n k a (s 15 a.toNatClampNeg)) i j) → Ti c t ∧ (∀ i j, i ≠ 2 → i ≠ 3 → i ≠ 5 → i ≠ 6 → i ≠ 7 → i ≠ 10 → t i j = s i j) ∧ (∀ j, t 2 j = if j = o.toNatClampNeg then s 2 o.toNatClampNeg ||| (1 <<< (n &&& 31)) else s 2 j) := fun k hk t ht => by
    obtain ⟨f, f2, f5, f6⟩ := add_def (s := s) (o := o) (n := n) (k := k) (g := a) (p := s 15 a.toNatClampNeg) h6 hN ro rn
    have g2 : ∀ j, t 2 j = if j = o.toNatClampNeg then s 2 o.toNatClampNeg ||| (1 <<< (n &&& 31)) else s 2 j := fun j => by rw [ht _ _ (by decide)]; exact f2 j
    exact ⟨ti_def h (t := t) (o := o) (n := n) (k := k) (g := a) ro ho2 rn (fun i j _ a1 a2 a3 a4 a5 a6 a7 a8 => (ht i j a8).trans (f i j a1 a2 a3 a4 a5)) g2 (fun j => (ht _ _ (by decide)).trans (f5 j)) (fun j => (ht _ _ (by decide)).trans (f6 j)) (fun j _ => (ht _ _ (by decide)).trans (f _ _ (by decide) (by decide) (by decide) (by decide) (by decide))) (fun j _ => (ht _ _ (by decide)).trans (f _ _ (by decide) (by decide) (by decide) (by decide) (by decide))) (fun _ => ⟨h0, h1, hOO⟩) (fun q => absurd q hk), fun i j a1 a2 a3 a4 a5 a6 => (ht i j a6).trans (f i j a1 a2 a3 a4 a5), g2⟩
  have hide : ∀ (z : Sg) (i j : Nat), i ≠ 10 → (D_X6_hide z o n) i j = z i j := fun z i j hi => by
    unfold D_X6_hide
    by_cases e : D_X6_has z o = 0
    · rw [if_pos e]
    · rw [if_neg e, up_ne hi]
  unfold D_X11_define
  rw [if_neg (has8 h h0 h1), if_neg hN, hO, if_pos hK, hP]
  by_cases cz : z = 0
  · rw [if_pos cz]
    by_cases cd : d = 0
    · rw [if_pos cd]; exact ⟨_, rfl, main 0 (by decide) _ (fun i j _ => rfl)⟩
    · rw [if_neg cd]; exact ⟨_, rfl, main 0 (by decide) _ (fun i j hi => hide _ i j hi)⟩
  · rw [if_neg cz]
    by_cases cd : d = 0
    · rw [if_pos cd]; exact ⟨_, rfl, main 2 (by decide) _ (fun i j _ => rfl)⟩
    · rw [if_neg cd]; exact ⟨_, rfl, main 2 (by decide) _ (fun i j hi => hide _ i j hi)⟩
theorem t_common (h : Ti c s) {o n m al : Int32} (h0 : 0 ≤ o.toInt) (h1 : o.toInt < (s 1 9).toInt) (hn0 : 0 ≤ n.toInt) (hn1 : n.toInt < 8) (hm0 : 1 ≤ m.toInt) (hm1 : m.toInt ≤ 9) (hal : al8 al) (hb : bt_ (s 2 o.toNatClampNeg) n.toNatClampNeg = false) :
    T_X11_common s o n m al = true ∧ ∃ t : Sg, D_X11_common s o n m al = (D_J6_bitCount_0f7a4 (s 2 o.toNatClampNeg ||| (1 <<< (n &&& 31))), t) ∧ Ti c t ∧ (∀ i j, i ≠ 2 → i ≠ 3 → i ≠ 5 → i ≠ 6 → i ≠ 7 → i ≠ 8 → i ≠ 9 → t i j = s i j) ∧ (∀ j, t 2 j = if j = o.toNatClampNeg then s 2 o.toNatClampNeg ||| (1 <<< (n &&& 31)) else s 2 j) ∧ (∀ i j, i ≠ 2 → j ≠ o.toNatClampNeg → j ≠ o.toNatClampNeg * 20 + n.toNatClampNeg → t i j = s i j) ∧ (∀ i j, i ≠ 2 → i ≠ 3 → j ≠ o.toNatClampNeg * 20 + n.toNatClampNeg → t i j = s i j) := by
  have ro : rg o 10 := ⟨h0, by have := h.no1; omega⟩
  have rn : rg n 20 := ⟨hn0, by omega⟩
  have hN := name_8 hn0 (by omega : n.toInt < 20)
  have h6 := has6 h0 h1 h.no1
  have hK : D_X6_kind s o n = -1 := kind_m1 rn hb
  have c1 : ¬ m < 1 := fun q => by have := i_lt2 (n := 1) q rfl; omega
  have c2 : ¬ 40 < m := fun q => by have := Int32.lt_iff_toInt_lt.mp q; have z : (40 : Int32).toInt = 40 := rfl; omega
  have hA := align_ok hal.pw.1
  obtain ⟨f, f2, f5, f6⟩ := add_def (s := s) (o := o) (n := n) (k := 1) (g := -1) (p := -1) h6 hN ro rn
  have eT : D_X6_addCommon s o n m al = up (up (D_X6_addDefinition s o n 1 (-1) (-1)) 8 (o.toNatClampNeg * 20 + n.toNatClampNeg) m) 9 (o.toNatClampNeg * 20 + n.toNatClampNeg) al := by
    unfold D_X6_addCommon
    rw [if_neg h6, if_neg hN, on_at ro rn]
  have fd : ∀ i j, i ≠ 2 → i ≠ 3 → j ≠ o.toNatClampNeg * 20 + n.toNatClampNeg → (D_X6_addDefinition s o n 1 (-1) (-1)) i j = s i j := fun i j a1 a2 a3 => by
    unfold D_X6_addDefinition
    rw [if_neg h6, if_neg hN, on_at ro rn, if_neg (by decide), up_ne a2, up_ne a1, up_f (Or.inr a3), up_f (Or.inr a3), up_f (Or.inr a3)]
  have fd3 : ∀ j, j ≠ o.toNatClampNeg → (D_X6_addDefinition s o n 1 (-1) (-1)) 3 j = s 3 j := fun j a1 => by
    unfold D_X6_addDefinition
    rw [if_neg h6, if_neg hN, if_neg (by decide), up_f (Or.inr a1), up_ne (by decide), up_ne (by decide), up_ne (by decide), up_ne (by decide)]
  generalize D_X6_addDefinition s o n 1 (-1) (-1) = u at *
  generalize hS : o.toNatClampNeg * 20 + n.toNatClampNeg = S at *
  have g2 : ∀ j, (up (up u 8 S m) 9 S al) 2 j = if j = o.toNatClampNeg then s 2 o.toNatClampNeg ||| (1 <<< (n &&& 31)) else s 2 j := fun j => by rw [up_ne (by decide), up_ne (by decide)]; exact f2 j
  have hd : D_X6_defined (up (up u 8 S m) 9 S al) o = s 2 o.toNatClampNeg ||| (1 <<< (n &&& 31)) := by
    unfold D_X6_defined
    rw [if_neg (n_lt h0), if_neg (n_le (m := 10) (n := 10) ro.2 rfl), g2, if_pos rfl]
  refine ⟨by unfold T_X11_common; rw [if_neg h6, if_neg hN, if_neg c1, if_neg c2, if_neg hA, if_pos hK], _, by unfold D_X11_common; rw [if_neg h6, if_neg hN, if_neg c1, if_neg c2, if_neg hA, if_pos hK, eT, hd], ?_, ?_, g2, ?_, ?_⟩
  · exact ti_def h (o := o) (n := n) (k := 1) (g := -1) ro h1 rn (fun i j _ a1 a2 a3 a4 a5 a6 a7 a8 => by rw [up_ne a7, up_ne a6]; exact f i j a1 a2 a3 a4 a5) g2 (fun j => by rw [hS, up_ne (by decide), up_ne (by decide)]; exact f5 j) (fun j => by rw [hS, up_ne (by decide), up_ne (by decide)]; exact f6 j) (fun j hj => by rw [hS] at hj; rw [up_ne (by decide), rd_nj hj]; exact f _ _ (by decide) (by decide) (by decide) (by decide) (by decide)) (fun j hj => by rw [hS] at hj; rw [rd_nj hj, up_ne (by decide)]; exact f _ _ (by decide) (by decide) (by decide) (by decide) (by decide)) (fun q => absurd rfl q) (fun _ => by rw [hS, up_ne (by decide), rd_eq, rd_eq]; exact ⟨hn1, by omega, hm1, hal⟩)
  · intro i j a1 a2 a3 a4 a5 a6 a7; rw [up_ne a7, up_ne a6]; exact f i j a1 a2 a3 a4 a5
  · intro i j a1 a2 a3
    rw [up_f (Or.inr a3), up_f (Or.inr a3)]
    by_cases e : i = 3
    · rw [e]; exact fd3 j a2
    · exact fd i j a1 e a3
  · intro i j a1 a2 a3
    rw [up_f (Or.inr a3), up_f (Or.inr a3)]; exact fd i j a1 a2 a3
/-- other items alone -/
theorem ti_items (h : Ti c s) {t : Sg} (hf : ∀ i j, i < 23 → i ≠ 20 → i ≠ 21 → i ≠ 22 → t i j = s i j) (hi0 : 0 ≤ (t 20 2).toInt) (hi1 : (t 20 2).toInt ≤ 8) (hit : ∀ i : Nat, (i : Int) < (t 20 2).toInt → ∀ o : Nat, o < 10 → bt_ (t 21 i) o = true → (o : Int) < (s 1 9).toInt)
    (hdj : ∀ i j : Nat, (i : Int) < (t 20 2).toInt → (j : Int) < (t 20 2).toInt → ∀ o : Nat, o < 10 → bt_ (t 21 i) o = true → bt_ (t 21 j) o = true → i = j) : Ti c t := by
  have g' : ∀ i, i < 20 → ∀ j, t i j = s i j := fun i a1 j => hf i j (by omega) (by omega) (by omega) (by omega)
  have e1 := g' 1 (by decide)
  have e11 := g' 11 (by decide)
  refine ⟨by rw [e1]; exact h.no0, by rw [e1]; exact h.no1, by rw [e11]; exact h.ns0, by rw [e11]; exact h.ns1, hi0, hi1, fun j => by rw [g' 15 (by decide)]; exact h.p8 j, ?_, ?_, ?_, ?_, by rw [e1]; exact hit, hdj, ⟨?_, ?_, ?_⟩, ?_, ?_⟩
  · rw [e11]; intro j hj; rw [g' 15 (by decide)]; exact h.pz j hj
  · rw [e11]; intro j hj; rw [g' 14 (by decide)]; exact h.kz j hj
  · rw [e11]; intro j hj; rw [g' 12 (by decide)]; exact h.ow j hj
  · rw [e1, e11]; intro o n ho hn; rw [g' 2 (by decide), g' 5 (by decide), g' 6 (by decide), g' 12 (by decide)]; exact h.vs o n ho hn
  · rw [e11]; intro j hj; rw [g' 13 (by decide)]; exact h.sz.1 j hj
  · intro j p hj hp; rw [g' 15 (by decide), g' 16 (by decide), g' 17 (by decide)]; exact h.sz.2.1 j p hj hp
  · rw [e1]; intro o n ho h10 hn; rw [g' 2 (by decide), g' 5 (by decide), g' 8 (by decide), g' 9 (by decide)]; exact h.sz.2.2 o n ho h10 hn
  · rw [cs_cg (e11 8) (g' 13 (by decide)) (g' 15 (by decide))]; exact h.sm
  · rw [e1]; intro o ho; rw [g' 2 (by decide)]; exact h.dz o ho
theorem t_clear (h : Ti c s) : D_X11_clear s = (s 20 2, up s 20 2 0) ∧ Ti c (up s 20 2 0) := by
  have e20 : (up s 20 2 0) 20 2 = 0 := rd_eq
  have z0 : (0 : Int32).toInt = 0 := rfl
  refine ⟨rfl, ti_items h (fun i j _ e _ _ => by rw [up_ne e]) (by rw [e20]; decide) (by rw [e20]; decide) ?_ ?_⟩
  · rw [e20]; intro i hi; omega
  · rw [e20]; intro i j hi; omega
theorem sets_a : ∀ lo : Nat, lo < 5 → (∀ v : Nat, v < 2 ^ lo → (Int32.ofInt (v : Int)) &&& ((1 : Int32) <<< (Int32.ofInt (lo : Int) &&& 31)) = 0) ∧ 1 ≤ ((1 : Int32) <<< (Int32.ofInt (lo : Int) &&& 31)).toInt ∧ ((1 : Int32) <<< (Int32.ofInt (lo : Int) &&& 31)).toInt < 2 ^ (lo + 1) := by decide +kernel
theorem sets_b : ∀ lo : Nat, lo < 4 → (∀ v : Nat, v < 2 ^ lo → (Int32.ofInt (v : Int)) &&& (((1 : Int32) <<< (Int32.ofInt (lo : Int) &&& 31)) ||| ((1 : Int32) <<< (Int32.ofInt ((lo + 1 : Nat) : Int) &&& 31))) = 0) ∧ 1 ≤ (((1 : Int32) <<< (Int32.ofInt (lo : Int) &&& 31)) ||| ((1 : Int32) <<< (Int32.ofInt ((lo + 1 : Nat) : Int) &&& 31))).toInt ∧ (((1 : Int32) <<< (Int32.ofInt (lo : Int) &&& 31)) ||| ((1 : Int32) <<< (Int32.ofInt ((lo + 1 : Nat) : Int) &&& 31))).toInt < 2 ^ (lo + 2) := by decide +kernel
theorem small_bits : ∀ v : Nat, v < 32 → (∀ o : Nat, o < 10 → bt_ (Int32.ofInt (v : Int)) o = true → o < 5) ∧ ∀ k : Nat, k < 11 → 5 ≤ k → (Int32.ofInt (v : Int)) >>> (Int32.ofInt (k : Int) &&& 31) = 0 := by decide +kernel
theorem as_nat {a : Int32} {m : Int} (h0 : 0 ≤ a.toInt) (h1 : a.toInt < m) : ∃ v : Nat, (v : Int) < m ∧ a = Int32.ofInt (v : Int) := ⟨a.toInt.toNat, by omega, by rw [Int.toNat_of_nonneg h0]; exact (Int32.ofInt_toInt a).symm⟩
/-- an item more, of objects that are in none -/
theorem t_item (h : Ti c s) {a k : Int32} (h5 : 5 ≤ (s 1 9).toInt) (ha0 : 1 ≤ a.toInt) (ha1 : a.toInt < 32) (hk0 : 0 ≤ k.toInt) (hk1 : k.toInt ≤ 2) (hi : (s 20 2).toInt < 8) (hno : ∀ i : Nat, (i : Int) < (s 20 2).toInt → (s 21 i) &&& a = 0) :
    T_X11_item s a k = true ∧ D_X11_item s a k = (s 20 2, up (up (up s 21 (s 20 2).toNatClampNeg a) 22 (s 20 2).toNatClampNeg k) 20 2 (s 20 2 + 1)) ∧ Ti c (up (up (up s 21 (s 20 2).toNatClampNeg a) 22 (s 20 2).toNatClampNeg k) 20 2 (s 20 2 + 1)) := by
  have no1 := h.no1
  have ni0 := h.ni0
  have c1 : ¬ a < 1 := fun q => by have := i_lt2 (n := 1) q rfl; omega
  obtain ⟨v, hv, rfl⟩ := as_nat (by omega : 0 ≤ a.toInt) ha1
  obtain ⟨kk, hkk, ek⟩ := as_nat (a := s 1 9) (m := 11) (by omega) (by omega)
  have hkv : (s 1 9).toInt = kk := by
    have : kk < 11 := by omega
    rw [ek]
    exact (by decide : ∀ k : Nat, k < 11 → (Int32.ofInt (k : Int)).toInt = k) kk this
  obtain ⟨sb1, sb2⟩ := small_bits v (by omega)
  have c2 : ¬ D_X6_hasAll s (Int32.ofInt (v : Int)) = 0 := by
    unfold D_X6_hasAll
    rw [ek, if_pos (sb2 kk (by omega) (by omega))]; decide
  have c3 : ¬ k < 0 := n_lt hk0
  have c4 : k ≤ 2 := le_mk hk1 rfl
  have c5 : D_X2_isFull s = 0 := by unfold D_X2_isFull; rw [if_pos (lt_mk hi rfl)]
  have c6 : D_X2_hasAny s (Int32.ofInt (v : Int)) = 0 := by
    unfold D_X2_hasAny R_X2_hasAny_35
    have e : ∀ (n : Nat) (x : Int32), 0 ≤ x.toInt → itf (B_X2_hasAny_2 s (Int32.ofInt (v : Int))) n x = none := by
      intro n
      induction n with
      | zero => intro x _; rfl
      | succ n ih =>
        intro x hx
        by_cases d0 : s 20 2 ≤ x
        · exact itf_h (B := B_X2_hasAny_2 s (Int32.ofInt (v : Int))) (x := x) (z := none) (y := x) (if_pos d0)
        · have d0' := i_nle d0
          by_cases d1 : 8 ≤ x
          · exact itf_h (B := B_X2_hasAny_2 s (Int32.ofInt (v : Int))) (x := x) (z := none) (y := x) ((if_neg d0).trans (if_pos d1))
          · rw [itf_n (B := B_X2_hasAny_2 s (Int32.ofInt (v : Int))) (x := x) (y := x + 1) ((if_neg d0).trans ((if_neg d1).trans (if_pos (hno x.toNatClampNeg (by rw [tn]; omega)))))]
            exact ih (x + 1) (by rw [i_add1 (by omega)]; omega)
    rw [e BIG 0 (by decide)]
  refine ⟨by unfold T_X11_item; rw [if_neg c1, if_neg c2, if_neg c3, if_pos c4, if_pos c5, if_pos c6], by unfold D_X11_item D_X2_add; rw [if_neg c1, if_neg c2, if_neg c3, if_pos c4, if_pos c5, if_pos c6, if_pos c5, Int32.add_sub_cancel], ?_⟩
  have hi1 : (s 20 2 + 1).toInt = (s 20 2).toInt + 1 := i_add1 (by omega)
  have hN : (s 20 2).toNatClampNeg = (s 20 2).toInt.toNat := rfl
  generalize (s 20 2).toNatClampNeg = N at *
  have v20 : (up (up (up s 21 N (Int32.ofInt (v : Int))) 22 N k) 20 2 (s 20 2 + 1)) 20 2 = s 20 2 + 1 := rd_eq
  have v21 : ∀ j, (up (up (up s 21 N (Int32.ofInt (v : Int))) 22 N k) 20 2 (s 20 2 + 1)) 21 j = if j = N then Int32.ofInt (v : Int) else s 21 j := fun j => by simp [up_at]
  have no : ∀ (i o : Nat), (i : Int) < (s 20 2).toInt → bt_ (s 21 i) o = true → bt_ (Int32.ofInt (v : Int)) o = true → False := fun i o hi2 q1 q2 => by
    have e := hno i hi2
    have : bt_ ((s 21 i) &&& Int32.ofInt (v : Int)) o = true := by rw [bt_and, q1, q2]; rfl
    rw [e, bt_0] at this; cases this
  refine ti_items h (fun i j _ a1 a2 a3 => by rw [up_ne a1, up_ne a3, up_ne a2]) (by rw [v20, hi1]; omega) (by rw [v20, hi1]; omega) ?_ ?_
  · rw [v20, hi1]; intro i hi2 o ho; rw [v21]
    by_cases e : i = N
    · rw [if_pos e]; intro hb; have := sb1 o ho hb; omega
    · rw [if_neg e]; exact h.it i (by omega) o ho
  · rw [v20, hi1]; intro i j hi2 hj2 o ho; rw [v21, v21]
    by_cases e : i = N
    · by_cases e2 : j = N
      · intro _ _; omega
      · rw [if_pos e, if_neg e2]; intro q1 q2; exact (no j o (by omega) q2 q1).elim
    · by_cases e2 : j = N
      · rw [if_neg e, if_pos e2]; intro q1 q2; exact (no i o (by omega) q1 q2).elim
      · rw [if_neg e, if_neg e2]; exact h.dj i j (by omega) (by omega) o ho
/-! like tables, as the law adds to them -/
theorem tb_section {t : Sg} (h : Tb s t) (hc : (t 11 8).toInt < 24) {o al : Int32} : Tb s (up (up (up (up t 12 (t 11 8).toNatClampNeg o) 13 (t 11 8).toNatClampNeg al) 14 (t 11 8).toNatClampNeg 0) 11 8 (t 11 8 + 1)) := by
  have hi : (t 11 8 + 1).toInt = (t 11 8).toInt + 1 := i_add1 (by omega)
  have h0 := h.ns0; have h1 := h.ns1
  have hN : (t 11 8).toNatClampNeg = (t 11 8).toInt.toNat := rfl
  generalize (t 11 8).toNatClampNeg = N at *
  have f : ∀ i j, i ≠ 11 → i ≠ 12 → i ≠ 13 → i ≠ 14 → (up (up (up (up t 12 N o) 13 N al) 14 N 0) 11 8 (t 11 8 + 1)) i j = t i j := fun i j e1 e2 e3 e4 => by rw [up_ne e1, up_ne e4, up_ne e3, up_ne e2]
  have v11 : (up (up (up (up t 12 N o) 13 N al) 14 N 0) 11 8 (t 11 8 + 1)) 11 8 = t 11 8 + 1 := rd_eq
  have v12 : ∀ j, (up (up (up (up t 12 N o) 13 N al) 14 N 0) 11 8 (t 11 8 + 1)) 12 j = if j = N then o else t 12 j := fun j => by simp [up_at]
  have v13 : ∀ j, (up (up (up (up t 12 N o) 13 N al) 14 N 0) 11 8 (t 11 8 + 1)) 13 j = if j = N then al else t 13 j := fun j => by simp [up_at]
  have v14 : ∀ j, (up (up (up (up t 12 N o) 13 N al) 14 N 0) 11 8 (t 11 8 + 1)) 14 j = if j = N then 0 else t 14 j := fun j => by simp [up_at]
  generalize up (up (up (up t 12 N o) 13 N al) 14 N 0) 11 8 (t 11 8 + 1) = u at *
  refine ⟨?_, ?_, ?_, ?_, ?_, ?_, ?_, ?_, ?_, ?_, h.ns0, by rw [v11, hi]; omega, by rw [v11, hi]; omega, h.no0, ?_, ?_, ?_, ?_, ?_, ?_, ?_, ?_, ?_, ?_, ?_, ?_, ?_, h.it0, h.it1, h.it, h.p8, h.o12, h.vs, h.dj⟩
  all_goals first
    | (intro j; rw [f _ _ (by decide) (by decide) (by decide) (by decide)]; first | exact h.c4 j | exact h.c10 j | exact h.c15 j | exact h.c16 j | exact h.c17 j | exact h.c18 j | exact h.c19 j | exact h.c21 j | exact h.c22 j)
    | (rw [f _ _ (by decide) (by decide) (by decide) (by decide)]; first | exact h.c20 | exact h.no1 | exact h.no2)
    | (intro j hj; rw [f _ _ (by decide) (by decide) (by decide) (by decide)]; first | exact h.r2 j hj | exact h.r3 j hj | exact h.r5 j hj | exact h.r6 j hj | exact h.r7 j hj | exact h.r8 j hj | exact h.r9 j hj)
    | (intro j hj; rw [v12, if_neg (by omega)]; exact h.r12 j hj)
    | (intro j hj; rw [v13, if_neg (by omega)]; exact h.r13 j hj)
    | (intro j hj; rw [v14, if_neg (by omega)]; exact h.r14 j hj)
    | (intro j hj hk; rw [v14]; by_cases e : j = N
       · rw [if_pos e]
       · rw [if_neg e]; exact h.e14 j hj hk)
theorem tb_object {t : Sg} (h : Tb s t) (hc : (t 1 9).toInt < 10) : Tb s (up t 1 9 (t 1 9 + 1)) := by
  have hi : (t 1 9 + 1).toInt = (t 1 9).toInt + 1 := i_add1 (by omega)
  have h1 := h.no1
  have f : ∀ i j, i ≠ 1 → (up t 1 9 (t 1 9 + 1)) i j = t i j := fun i j e => by rw [up_ne e]
  have v1 : (up t 1 9 (t 1 9 + 1)) 1 9 = t 1 9 + 1 := rd_eq
  generalize up t 1 9 (t 1 9 + 1) = u at *
  refine ⟨?_, ?_, ?_, ?_, ?_, ?_, ?_, ?_, ?_, ?_, h.ns0, ?_, ?_, h.no0, by rw [v1, hi]; omega, by rw [v1, hi]; omega, ?_, ?_, ?_, ?_, ?_, ?_, ?_, ?_, ?_, ?_, ?_, h.it0, h.it1, h.it, h.p8, h.o12, h.vs, h.dj⟩
  all_goals first
    | (intro j; rw [f _ _ (by decide)]; first | exact h.c4 j | exact h.c10 j | exact h.c15 j | exact h.c16 j | exact h.c17 j | exact h.c18 j | exact h.c19 j | exact h.c21 j | exact h.c22 j)
    | (rw [f _ _ (by decide)]; first | exact h.c20 | exact h.ns1 | exact h.ns2)
    | (intro j hj; rw [f _ _ (by decide)]; first | exact h.r2 j hj | exact h.r3 j hj | exact h.r5 j hj | exact h.r6 j hj | exact h.r7 j hj | exact h.r8 j hj | exact h.r9 j hj | exact h.r12 j hj | exact h.r13 j hj | exact h.r14 j hj | exact h.e14 j hj)
theorem tb_common {t u : Sg} (h : Tb s t) {o S : Nat} (ho : (s 1 9).toInt ≤ o) (hS : 20 * (s 1 9).toInt ≤ S) (hf : ∀ i j, i ≠ 2 → i ≠ 3 → i ≠ 5 → i ≠ 6 → i ≠ 7 → i ≠ 8 → i ≠ 9 → u i j = t i j) (h2 : ∀ j, j ≠ o → u 2 j = t 2 j) (h3 : ∀ j, j ≠ o → j ≠ S → u 3 j = t 3 j) (hg : ∀ i j, i ≠ 2 → i ≠ 3 → j ≠ S → u i j = t i j) : Tb s u := by
  have h0 := h.no0
  refine ⟨?_, ?_, ?_, ?_, ?_, ?_, ?_, ?_, ?_, ?_, h.ns0, ?_, ?_, h.no0, ?_, ?_, ?_, ?_, ?_, ?_, ?_, ?_, ?_, ?_, ?_, ?_, ?_, h.it0, h.it1, h.it, h.p8, h.o12, h.vs, h.dj⟩
  all_goals first
    | (intro j; rw [hf _ _ (by decide) (by decide) (by decide) (by decide) (by decide) (by decide) (by decide)]; first | exact h.c4 j | exact h.c10 j | exact h.c15 j | exact h.c16 j | exact h.c17 j | exact h.c18 j | exact h.c19 j | exact h.c21 j | exact h.c22 j)
    | (rw [hf _ _ (by decide) (by decide) (by decide) (by decide) (by decide) (by decide) (by decide)]; first | exact h.c20 | exact h.ns1 | exact h.ns2 | exact h.no1 | exact h.no2)
    | (intro j hj; rw [hf _ _ (by decide) (by decide) (by decide) (by decide) (by decide) (by decide) (by decide)]; first | exact h.r12 j hj | exact h.r13 j hj | exact h.r14 j hj | exact h.e14 j hj)
    | (intro j hj; rw [h2 _ (by omega)]; exact h.r2 j hj)
    | (intro j hj; rw [h3 _ (by omega) (by omega)]; exact h.r3 j hj)
    | (intro j hj; rw [hg _ _ (by decide) (by decide) (by omega)]; first | exact h.r5 j hj | exact h.r6 j hj | exact h.r7 j hj | exact h.r8 j hj | exact h.r9 j hj)
end TK
