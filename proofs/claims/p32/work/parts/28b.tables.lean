/-! pieces, definitions, items -/
section TJ
variable {c : Int} {s : Sg}
theorem has8 {a : Int32} (h : Ti c s) (h0 : 0 ≤ a.toInt) (h1 : a.toInt < (s 11 8).toInt) : ¬ D_X8_has s a = 0 := has_s h0 h1 h.ns1
theorem lt_mk {a m : Int32} {n : Int} (h : a.toInt < n) (hm : m.toInt = n) : a < m := Int32.lt_iff_toInt_lt.mpr (by omega)
theorem le_mk {a m : Int32} {n : Int} (h : a.toInt ≤ n) (hm : m.toInt = n) : a ≤ m := Int32.le_iff_toInt_le.mpr (by omega)
theorem filled_0 {a : Int32} (h : Ti c s) (h0 : 0 ≤ a.toInt) (h1 : a.toInt < (s 11 8).toInt) (h8 : (s 15 a.toNatClampNeg).toInt < 8) : D_X8_isFilled s a = 0 := by
  unfold D_X8_isFilled D_X8_pieces
  rw [if_neg (has8 h h0 h1), if_pos (lt_mk h8 rfl)]
/-- a piece more -/
theorem t_add (h : Ti c s) {a k v d w : Int32} (h0 : 0 ≤ a.toInt) (h1 : a.toInt < (s 11 8).toInt) (h8 : (s 15 a.toNatClampNeg).toInt < 8) (hk : k = 0 → 0 ≤ v.toInt ∧ v.toInt ≤ 12) : ∃ t : Sg, D_X8_addPiece s a k v d w = (s 15 a.toNatClampNeg, t) ∧ Ti (c + 12) t ∧ (∀ i j, i < 15 ∨ 20 ≤ i → t i j = s i j) ∧ (∀ j, t 15 j = if j = a.toNatClampNeg then s 15 a.toNatClampNeg + 1 else s 15 j) := by
  have hns := h.ns1
  have p0 := (h.p8 a.toNatClampNeg).1
  have ra : rg a 24 := ⟨h0, by omega⟩
  have rp : rg (s 15 a.toNatClampNeg) 8 := ⟨p0, h8⟩
  have hi : (s 15 a.toNatClampNeg + 1).toInt = (s 15 a.toNatClampNeg).toInt + 1 := i_add1 (by omega)
  have ei := i_ma 8 8 rfl ra rp (by decide) (by decide)
  have hP : (s 15 a.toNatClampNeg).toNatClampNeg = (s 15 a.toNatClampNeg).toInt.toNat := rfl
  refine ⟨_, by unfold D_X8_addPiece; rw [if_neg (has8 h h0 h1), if_pos (filled_0 h h0 h1 h8)], ?_⟩
  rw [ei]
  generalize hS : a.toNatClampNeg * 8 + (s 15 a.toNatClampNeg).toNatClampNeg = S at *
  have hA : a.toNatClampNeg = a.toInt.toNat := rfl
  generalize a.toNatClampNeg = A at *
  have f : ∀ i j, i < 15 ∨ 20 ≤ i → (up (up (up (up (up s 16 S k) 17 S v) 18 S d) 19 S w) 15 A (s 15 A + 1)) i j = s i j := fun i j e => by rw [up_ne (by omega), up_ne (by omega), up_ne (by omega), up_ne (by omega), up_ne (by omega)]
  have v15 : ∀ j, (up (up (up (up (up s 16 S k) 17 S v) 18 S d) 19 S w) 15 A (s 15 A + 1)) 15 j = if j = A then s 15 A + 1 else s 15 j := fun j => by simp [up_at]
  have v16 : ∀ j, (up (up (up (up (up s 16 S k) 17 S v) 18 S d) 19 S w) 15 A (s 15 A + 1)) 16 j = if j = S then k else s 16 j := fun j => by simp [up_at]
  have v17 : ∀ j, (up (up (up (up (up s 16 S k) 17 S v) 18 S d) 19 S w) 15 A (s 15 A + 1)) 17 j = if j = S then v else s 17 j := fun j => by simp [up_at]
  generalize up (up (up (up (up s 16 S k) 17 S v) 18 S d) 19 S w) 15 A (s 15 A + 1) = t at *
  refine ⟨⟨by rw [f _ _ (by decide)]; exact h.no0, by rw [f _ _ (by decide)]; exact h.no1, by rw [f _ _ (by decide)]; exact h.ns0, by rw [f _ _ (by decide)]; exact h.ns1, by rw [f _ _ (by decide)]; exact h.ni0, by rw [f _ _ (by decide)]; exact h.ni1, ?_, ?_, ?_, ?_, ?_, ?_, ?_, ⟨?_, ?_, ?_⟩, ?_, ?_⟩, f, v15⟩
  · intro j; rw [v15]
    by_cases e : j = A
    · rw [if_pos e, hi]; omega
    · rw [if_neg e]; exact h.p8 j
  · rw [f 11 _ (by decide)]; intro j hj; rw [v15, if_neg (by omega)]; exact h.pz j hj
  · rw [f 11 _ (by decide)]; intro j hj; rw [f _ _ (by decide)]; exact h.kz j hj
  · rw [f 11 _ (by decide)]; intro j hj; rw [f _ _ (by decide)]; exact h.ow j hj
  · rw [f 1 _ (by decide), f 11 _ (by decide)]; intro o n ho hn; rw [f 2 _ (by decide), f 5 _ (by decide), f 6 _ (by decide), f 12 _ (by decide)]; exact h.vs o n ho hn
  · rw [f 20 _ (by decide), f 1 _ (by decide)]; intro i hi2 o ho; rw [f 21 _ (by decide)]; exact h.it i hi2 o ho
  · rw [f 20 _ (by decide)]; intro i j hi2 hj o ho; rw [f 21 _ (by decide), f 21 _ (by decide)]; exact h.dj i j hi2 hj o ho
  · rw [f 11 _ (by decide)]; intro j hj; rw [f 13 _ (by decide)]; exact h.sz.1 j hj
  · intro j p hj hp; rw [v15, v16, v17]
    by_cases e : j * 8 + p = S
    · rw [if_pos e, if_pos e]; intro _ hk0; exact hk hk0
    · rw [if_neg e, if_neg e]
      by_cases e2 : j = A
      · rw [if_pos e2, hi]; intro hp2
        rw [e2]
        exact h.sz.2.1 A p (by omega) hp (by rw [e2] at e; omega)
      · rw [if_neg e2]; exact h.sz.2.1 j p hj hp
  · rw [f 1 _ (by decide)]; intro o n ho h10 hn; rw [f 2 _ (by decide), f 5 _ (by decide), f 8 _ (by decide), f 9 _ (by decide)]; exact h.sz.2.2 o n ho h10 hn
  · have hs := h.sm
    rw [isum_at (f := cs s) (g := cs t) (a := A) (n := 24) (by omega) (fun i hi2 hne => by
      unfold cs
      rw [f 11 _ (by decide), f 13 _ (by decide), v15, if_neg hne])]
    have c2 : cs t A = cs s A + 12 := by
      unfold cs
      rw [f 11 _ (by decide), if_pos (by omega), if_pos (by omega), f 13 _ (by decide), v15, if_pos rfl, hi]; omega
    rw [c2]; omega
  · rw [f 1 _ (by decide)]; intro o ho; rw [f 2 _ (by decide)]; exact h.dz o ho
theorem t_fill (h : Ti c s) {a v : Int32} (h0 : 0 ≤ a.toInt) (h1 : a.toInt < (s 11 8).toInt) (h8 : (s 15 a.toNatClampNeg).toInt < 8) (hv0 : 1 ≤ v.toInt) (hv1 : v.toInt ≤ 12) : T_X11_fill s a v = true ∧ ∃ t : Sg, D_X11_fill s a v = (s 15 a.toNatClampNeg, t) ∧ Ti (c + 12) t ∧ (∀ i j, i < 15 ∨ 20 ≤ i → i ≠ 4 → t i j = s i j) ∧ (∀ j, t 15 j = if j = a.toNatClampNeg then s 15 a.toNatClampNeg + 1 else s 15 j) := by
  have c1 : ¬ v < 1 := fun q => by have := i_lt2 (n := 1) q rfl; omega
  have c2 : v ≤ 40 := le_mk (n := 40) (by omega) rfl
  obtain ⟨t, e, ht, hf, h15⟩ := t_add h (k := 0) (v := v) (d := 0) (w := 0) h0 h1 h8 (fun _ => ⟨by omega, hv1⟩)
  refine ⟨by unfold T_X11_fill; rw [if_neg (has8 h h0 h1), if_neg c1, if_pos c2, if_pos (filled_0 h h0 h1 h8)], t, ?_, ht, fun i j e1 _ => hf i j e1, h15⟩
  unfold D_X11_fill
  rw [if_neg (has8 h h0 h1), if_neg c1, if_pos c2, if_pos (filled_0 h h0 h1 h8), e]
theorem t_ref (h : Ti c s) {a k n d w : Int32} (h0 : 0 ≤ a.toInt) (h1 : a.toInt < (s 11 8).toInt) (h8 : (s 15 a.toNatClampNeg).toInt < 8) (hk : ¬ k = 0) : ∃ t : Sg, D_X11_addReference s a k n d w = (s 15 a.toNatClampNeg, t) ∧ Ti (c + 12) t ∧ (∀ i j, i < 15 ∨ 20 ≤ i → i ≠ 4 → t i j = s i j) ∧ (∀ j, t 15 j = if j = a.toNatClampNeg then s 15 a.toNatClampNeg + 1 else s 15 j) := by
  unfold D_X11_addReference
  by_cases cw : w = 0
  · rw [if_pos cw]
    have fn : ∀ i j, i ≠ 4 → (D_X6_need s (D_X8_objectOf s a) n) i j = s i j := fun i j hi => by
      unfold D_X6_need
      by_cases e : D_X6_has s (D_X8_objectOf s a) = 0
      · rw [if_pos e]
      · rw [if_neg e, up_ne hi]
    have hT : Ti c (D_X6_need s (D_X8_objectOf s a) n) := h.of (fun i j _ _ e4 _ _ => fn i j e4)
    obtain ⟨t, e, ht, hf, h15⟩ := t_add hT (k := k) (v := n) (d := d) (w := w) h0 (by rw [fn _ _ (by decide)]; exact h1) (by rw [fn _ _ (by decide)]; exact h8) (fun q => absurd q hk)
    rw [fn 15 _ (by decide)] at e h15
    refine ⟨t, by rw [e], ht, fun i j e1 e2 => (hf i j e1).trans (fn i j e2), fun j => by rw [h15, fn 15 _ (by decide)]⟩
  · rw [if_neg cw]
    obtain ⟨t, e, ht, hf, h15⟩ := t_add h (k := k) (v := n) (d := d) (w := w) h0 h1 h8 (fun q => absurd q hk)
    exact ⟨t, by rw [e], ht, fun i j e1 _ => hf i j e1, h15⟩
theorem name_8 {n : Int32} (h0 : 0 ≤ n.toInt) (h1 : n.toInt < 20) : ¬ D_X11_isName n = 0 := isName_rg ⟨h0, h1⟩
theorem t_word (h : Ti c s) {a n d w : Int32} (h0 : 0 ≤ a.toInt) (h1 : a.toInt < (s 11 8).toInt) (h8 : (s 15 a.toNatClampNeg).toInt < 8) (hn0 : 0 ≤ n.toInt) (hn1 : n.toInt < 8) (hd0 : -50 ≤ d.toInt) (hd1 : d.toInt ≤ 50) : T_X11_word s a n d w = true ∧ ∃ t : Sg, D_X11_word s a n d w = (s 15 a.toNatClampNeg, t) ∧ Ti (c + 12) t ∧ (∀ i j, i < 15 ∨ 20 ≤ i → i ≠ 4 → t i j = s i j) ∧ (∀ j, t 15 j = if j = a.toNatClampNeg then s 15 a.toNatClampNeg + 1 else s 15 j) := by
  have c1 : ¬ d < -50 := fun q => by have := i_lt2 (n := -50) q rfl; omega
  have c2 : d ≤ 50 := le_mk (n := 50) (by omega) rfl
  have hN := name_8 hn0 (by omega : n.toInt < 20)
  obtain ⟨t, e, r⟩ := t_ref h (k := 1) (n := n) (d := d) (w := w) h0 h1 h8 (by decide)
  refine ⟨by unfold T_X11_word; rw [if_neg (has8 h h0 h1), if_neg hN, if_neg c1, if_pos c2, if_pos (filled_0 h h0 h1 h8)], t, ?_, r⟩
  unfold D_X11_word
  rw [if_neg (has8 h h0 h1), if_neg hN, if_neg c1, if_pos c2, if_pos (filled_0 h h0 h1 h8), e]
theorem t_jump (h : Ti c s) {a n w : Int32} (h0 : 0 ≤ a.toInt) (h1 : a.toInt < (s 11 8).toInt) (h8 : (s 15 a.toNatClampNeg).toInt < 8) (hn0 : 0 ≤ n.toInt) (hn1 : n.toInt < 8) : T_X11_jump s a n w = true ∧ ∃ t : Sg, D_X11_jump s a n w = (s 15 a.toNatClampNeg, t) ∧ Ti (c + 12) t ∧ (∀ i j, i < 15 ∨ 20 ≤ i → i ≠ 4 → t i j = s i j) ∧ (∀ j, t 15 j = if j = a.toNatClampNeg then s 15 a.toNatClampNeg + 1 else s 15 j) := by
  have hN := name_8 hn0 (by omega : n.toInt < 20)
  obtain ⟨t, e, r⟩ := t_ref h (k := 2) (n := n) (d := 0) (w := w) h0 h1 h8 (by decide)
  refine ⟨by unfold T_X11_jump; rw [if_neg (has8 h h0 h1), if_neg hN, if_pos (filled_0 h h0 h1 h8)], t, ?_, r⟩
  unfold D_X11_jump
  rw [if_neg (has8 h h0 h1), if_neg hN, if_pos (filled_0 h h0 h1 h8), e]
/-- what a new definition does to the tables: of the object o, the name n, its slot S; the kind k, the section g -/
theorem ti_def (h : Ti c s) {t : Sg} {o n : Int32} {k g : Int32} (ho : rg o 10) (ho1 : o.toInt < (s 1 9).toInt) (hn : rg n 20)
    (hf : ∀ i j, i < 23 → i ≠ 2 → i ≠ 3 → i ≠ 5 → i ≠ 6 → i ≠ 7 → i ≠ 8 → i ≠ 9 → i ≠ 10 → t i j = s i j)
    (h2 : ∀ j, t 2 j = if j = o.toNatClampNeg then s 2 o.toNatClampNeg ||| (1 <<< (n &&& 31)) else s 2 j)
    (h5 : ∀ j, t 5 j = if j = o.toNatClampNeg * 20 + n.toNatClampNeg then k else s 5 j) (h6 : ∀ j, t 6 j = if j = o.toNatClampNeg * 20 + n.toNatClampNeg then g else s 6 j)
    (h8 : ∀ j, j ≠ o.toNatClampNeg * 20 + n.toNatClampNeg → t 8 j = s 8 j) (h9 : ∀ j, j ≠ o.toNatClampNeg * 20 + n.toNatClampNeg → t 9 j = s 9 j)
    (hk : ¬ k = 1 → 0 ≤ g.toInt ∧ g.toInt < (s 11 8).toInt ∧ s 12 g.toNatClampNeg = o) (hk1 : k = 1 → n.toInt < 8 ∧ 0 ≤ (t 8 (o.toNatClampNeg * 20 + n.toNatClampNeg)).toInt ∧ (t 8 (o.toNatClampNeg * 20 + n.toNatClampNeg)).toInt ≤ 9 ∧ al8 (t 9 (o.toNatClampNeg * 20 + n.toNatClampNeg))) : Ti c t := by
  have r32 : rg n 32 := ⟨hn.1, by have := hn.2; omega⟩
  have hO : o.toNatClampNeg = o.toInt.toNat := rfl
  have hM : n.toNatClampNeg = n.toInt.toNat := rfl
  have ho0 := ho.1; have hn0 := hn.1; have hn2 := hn.2; have ho10 := ho.2
  have g' : ∀ i, i < 23 → i ≠ 2 → i ≠ 3 → i ≠ 5 → i ≠ 6 → i ≠ 7 → i ≠ 8 → i ≠ 9 → i ≠ 10 → ∀ j, t i j = s i j := fun i a1 a2 a3 a4 a5 a6 a7 a8 a9 j => hf i j a1 a2 a3 a4 a5 a6 a7 a8 a9
  have e1 := g' 1 (by decide) (by decide) (by decide) (by decide) (by decide) (by decide) (by decide) (by decide) (by decide)
  have e11 := g' 11 (by decide) (by decide) (by decide) (by decide) (by decide) (by decide) (by decide) (by decide) (by decide)
  have e12 := g' 12 (by decide) (by decide) (by decide) (by decide) (by decide) (by decide) (by decide) (by decide) (by decide)
  have e13 := g' 13 (by decide) (by decide) (by decide) (by decide) (by decide) (by decide) (by decide) (by decide) (by decide)
  have e14 := g' 14 (by decide) (by decide) (by decide) (by decide) (by decide) (by decide) (by decide) (by decide) (by decide)
  have e15 := g' 15 (by decide) (by decide) (by decide) (by decide) (by decide) (by decide) (by decide) (by decide) (by decide)
  have e16 := g' 16 (by decide) (by decide) (by decide) (by decide) (by decide) (by decide) (by decide) (by decide) (by decide)
  have e17 := g' 17 (by decide) (by decide) (by decide) (by decide) (by decide) (by decide) (by decide) (by decide) (by decide)
  have e20 := g' 20 (by decide) (by decide) (by decide) (by decide) (by decide) (by decide) (by decide) (by decide) (by decide)
  have e21 := g' 21 (by decide) (by decide) (by decide) (by decide) (by decide) (by decide) (by decide) (by decide) (by decide)
  generalize o.toNatClampNeg = O at *
  generalize hMM : n.toNatClampNeg = M at *
  have slot : ∀ a b : Nat, b < 20 → (a * 20 + b = O * 20 + M ↔ a = O ∧ b = M) := fun a b hb => by omega
  have bit : ∀ a b : Nat, b < 20 → bt_ (t 2 a) b = true → bt_ (s 2 a) b = true ∨ (a = O ∧ b = M) := fun a b hb => by
    rw [h2]
    by_cases e : a = O
    · rw [if_pos e, bt_set r32 (by omega), e, hMM]
      intro q
      rcases (Bool.or_eq_true _ _).mp q with q | q
      · exact Or.inl q
      · exact Or.inr ⟨rfl, of_decide_eq_true q⟩
    · rw [if_neg e]; exact Or.inl
  refine ⟨by rw [e1]; exact h.no0, by rw [e1]; exact h.no1, by rw [e11]; exact h.ns0, by rw [e11]; exact h.ns1, by rw [e20]; exact h.ni0, by rw [e20]; exact h.ni1, fun j => by rw [e15]; exact h.p8 j, ?_, ?_, ?_, ?_, ?_, ?_, ⟨?_, ?_, ?_⟩, ?_, ?_⟩
  · rw [e11]; intro j hj; rw [e15]; exact h.pz j hj
  · rw [e11]; intro j hj; rw [e14]; exact h.kz j hj
  · rw [e11]; intro j hj; rw [e12]; exact h.ow j hj
  · rw [e1, e11]; intro a b ha hb hbt
    by_cases e : a = O ∧ b = M
    · rw [h5, if_pos ((slot a b hb).mpr e), h6, if_pos ((slot a b hb).mpr e), e12]
      intro q
      obtain ⟨w1, w2, w3⟩ := hk q
      exact ⟨w1, w2, by rw [w3]; omega⟩
    · rw [h5, if_neg (fun q => e ((slot a b hb).mp q)), h6, if_neg (fun q => e ((slot a b hb).mp q)), e12]
      rcases bit a b hb hbt with q | q
      · exact h.vs a b ha hb q
      · exact absurd q e
  · rw [e20, e1]; intro i hi2 a ha; rw [e21]; exact h.it i hi2 a ha
  · rw [e20]; intro i j hi hj a ha; rw [e21, e21]; exact h.dj i j hi hj a ha
  · rw [e11]; intro j hj; rw [e13]; exact h.sz.1 j hj
  · intro j p hj hp; rw [e15, e16, e17]; exact h.sz.2.1 j p hj hp
  · rw [e1]; intro a b ha h10 hb hbt
    by_cases e : a = O ∧ b = M
    · rw [(slot a b hb).mpr e, h5, if_pos rfl]
      intro q
      have := hk1 q
      exact ⟨by omega, this.2⟩
    · have hne : a * 20 + b ≠ O * 20 + M := fun q => e ((slot a b hb).mp q)
      rw [h5, if_neg hne, h8 _ hne, h9 _ hne]
      rcases bit a b hb hbt with q | q
      · exact h.sz.2.2 a b ha h10 hb q
      · exact absurd q e
  · rw [cs_cg (e11 8) e13 e15]; exact h.sm
  · rw [e1]; intro a ha; rw [h2, if_neg (by omega)]; exact h.dz a ha
theorem kind_m1 {o n : Int32} (hn : rg n 20) (hb : bt_ (s 2 o.toNatClampNeg) n.toNatClampNeg = false) : D_X6_kind s o n = -1 := by
  have r32 : rg n 32 := ⟨hn.1, by have := hn.2; omega⟩
  unfold D_X6_kind
  by_cases c0 : D_X6_has s o = 0
  · rw [if_pos c0]
  · rw [if_neg c0, if_neg (isName_rg hn), if_pos ((hb_z r32).mpr hb)]
theorem add_def {o n k g p : Int32} (h6 : ¬ D_X6_has s o = 0) (hn : ¬ D_X11_isName n = 0) (ho : rg o 10) (hn2 : rg n 20) :
    (∀ i j, i ≠ 2 → i ≠ 3 → i ≠ 5 → i ≠ 6 → i ≠ 7 → (D_X6_addDefinition s o n k g p) i j = s i j) ∧ (∀ j, (D_X6_addDefinition s o n k g p) 2 j = if j = o.toNatClampNeg then s 2 o.toNatClampNeg ||| (1 <<< (n &&& 31)) else s 2 j) ∧ (∀ j, (D_X6_addDefinition s o n k g p) 5 j = if j = o.toNatClampNeg * 20 + n.toNatClampNeg then k else s 5 j) ∧ (∀ j, (D_X6_addDefinition s o n k g p) 6 j = if j = o.toNatClampNeg * 20 + n.toNatClampNeg then g else s 6 j) := by
  unfold D_X6_addDefinition
  rw [if_neg h6, if_neg hn, on_at ho hn2]
  by_cases e : k = 2
  · rw [if_pos e]
    refine ⟨fun i j a1 a2 a3 a4 a5 => by rw [up_ne a1, up_ne a5, up_ne a4, up_ne a3], fun j => by simp [up_at], fun j => by simp [up_at], fun j => by simp [up_at]⟩
  · rw [if_neg e]
    refine ⟨fun i j a1 a2 a3 a4 a5 => by rw [up_ne a2, up_ne a1, up_ne a5, up_ne a4, up_ne a3], fun j => by simp [up_at], fun j => by simp [up_at], fun j => by simp [up_at]⟩
end TJ
