theorem itf_n {σ : Type} {B : σ → Option (Option Int32) × σ} {n : Nat} {x y : σ} (h : B x = (none, y)) : itf B (n + 1) x = itf B n y := by
  show (match (B x).1 with | none => itf B n (B x).2 | some z => z) = _
  rw [h]
theorem itf_h {σ : Type} {B : σ → Option (Option Int32) × σ} {n : Nat} {x y : σ} {z : Option Int32} (h : B x = (some z, y)) : itf B (n + 1) x = z := by
  show (match (B x).1 with | none => itf B n (B x).2 | some z => z) = _
  rw [h]
theorem joins_eq {s t : Sg} (h : Tb s t) {x : Int32} : D_X2_joinsAhead t x = D_X2_joinsAhead s x := by
  unfold D_X2_joinsAhead; rw [h.c20, h.c22, h.c22]
theorem plain_eq {s t : Sg} (h : Tb s t) {x : Int32} : D_X2_isPlain t x = D_X2_isPlain s x := by
  unfold D_X2_isPlain; rw [h.c20, h.c22]
theorem set_eq {s t : Sg} (h : Tb s t) {x : Int32} : D_X2_set t x = D_X2_set s x := by
  unfold D_X2_set; rw [h.c20, h.c21]
theorem gend_eq {s t : Sg} (h : Tb s t) {x : Int32} : D_X2_groupEnd t x = D_X2_groupEnd s x := by
  have e : B_X2_groupEnd_4 t = B_X2_groupEnd_4 s := by
    funext x
    unfold B_X2_groupEnd_4
    rw [h.c20, joins_eq h]
  unfold D_X2_groupEnd R_X2_groupEnd_28
  rw [e, h.c20]
theorem joins_2 {s : Sg} {x : Int32} (h : ¬ D_X2_joinsAhead s x = 0) : ¬ s 22 x.toNatClampNeg = 0 := by
  intro e
  apply h
  unfold D_X2_joinsAhead
  rw [e]
  by_cases c0 : x < 1
  · exact if_pos c0
  · by_cases c1 : (s 20 2) ≤ x
    · exact (if_neg c0).trans (if_pos c1)
    · by_cases c2 : 8 ≤ x
      · exact (if_neg c0).trans ((if_neg c1).trans (if_pos c2))
      · exact (if_neg c0).trans ((if_neg c1).trans ((if_neg c2).trans (if_neg (by decide))))
theorem gend_spec {s : Sg} {a : Int} (h0 : 0 ≤ a) : ∀ (n : Nat) (x : Int32), a < x.toInt → (s 20 2).toInt < x.toInt + n → x.toInt ≤ (s 20 2).toInt → (∀ y : Nat, a < y → (y : Int) < x.toInt → ¬ s 22 y = 0) →
    (match itf (B_X2_groupEnd_4 s) n x with | some v => v | none => s 20 2).toInt ≤ (s 20 2).toInt ∧ ∀ y : Nat, a < y → (y : Int) < (match itf (B_X2_groupEnd_4 s) n x with | some v => v | none => s 20 2).toInt → ¬ s 22 y = 0 := by
  intro n
  induction n with
  | zero =>
    intro x h1 h2 h3
    omega
  | succ n ih =>
    intro x h1 h2 h3 hy
    by_cases c0 : (s 20 2) ≤ x
    · rw [itf_h (show B_X2_groupEnd_4 s x = (some none, x) from if_pos c0)]
      have h4 := Int32.le_iff_toInt_le.mp c0
      exact ⟨by show (s 20 2).toInt ≤ _; omega, fun y hy1 hy2 => hy y hy1 (by have hy2 : (y : Int) < (s 20 2).toInt := hy2; omega)⟩
    · by_cases c1 : D_X2_joinsAhead s x = 0
      · rw [itf_h (show B_X2_groupEnd_4 s x = (some (some x), x) from (if_neg c0).trans (if_pos c1))]
        exact ⟨h3, hy⟩
      · rw [itf_n (show B_X2_groupEnd_4 s x = (none, x + 1) from (if_neg c0).trans (if_neg c1))]
        have h5 := i_nle c0
        have h7 := Int32.toInt_lt (s 20 2)
        have h6 : (x + 1).toInt = x.toInt + 1 := i_add1 (by omega)
        refine ih (x + 1) (by omega) (by omega) (by omega) (fun y hy1 hy2 => ?_)
        by_cases e : (y : Int) = x.toInt
        · have h8 := joins_2 c1
          rw [show x.toNatClampNeg = y by rw [tn]; omega] at h8
          exact h8
        · exact hy y hy1 (by omega)
theorem gend_at {s : Sg} {a : Int32} (h0 : 0 ≤ a.toInt) (h1 : a.toInt < (s 20 2).toInt) : (D_X2_groupEnd s a).toInt ≤ (s 20 2).toInt ∧ ∀ y : Nat, a.toInt < y → (y : Int) < (D_X2_groupEnd s a).toInt → ¬ s 22 y = 0 := by
  unfold D_X2_groupEnd R_X2_groupEnd_28
  have h7 := Int32.toInt_lt (s 20 2)
  have h6 : (a + 1).toInt = a.toInt + 1 := i_add1 (by omega)
  exact gend_spec h0 BIG (a + 1) (by omega) (by rw [BIG_eq]; omega) (by omega) (fun y hy1 hy2 => by omega)
theorem set_bt {s : Sg} {x : Int32} {o : Nat} (h : bt_ (D_X2_set s x) o = true) : 0 ≤ x.toInt ∧ x.toInt < (s 20 2).toInt ∧ bt_ (s 21 x.toNatClampNeg) o = true := by
  unfold D_X2_set at h
  by_cases c0 : x < 0
  · rw [if_pos c0, bt_0] at h; cases h
  · by_cases c1 : (s 20 2) ≤ x
    · rw [if_neg c0, if_pos c1, bt_0] at h; cases h
    · by_cases c2 : 8 ≤ x
      · rw [if_neg c0, if_neg c1, if_pos c2, bt_0] at h; cases h
      · rw [if_neg c0, if_neg c1, if_neg c2] at h
        exact ⟨i_ge c0 rfl, i_nle c1, h⟩
/-- the tables are left as they are -/
def Fr (s1 s : Sg) : Prop := ∀ k j, k < 23 → s1 k j = s k j
theorem fr_wanted {q : Nat} (hq : q = 38 ∨ q = 60) {s1 s : Sg} {a : Int32} (h : Fr s1 s) : Fr (D_X10_takeWanted q s1 a) s := fun k j hk => (fw_X10_takeWanted (by omega) (by omega) (by omega) (by omega) (by omega)).trans (h k j hk)
theorem fr_all {q : Nat} (hq : q = 38 ∨ q = 60) {s1 s : Sg} {a : Int32} (h : Fr s1 s) : Fr (D_X10_takeAll q s1 a) s := fun k j hk => (fw_X10_takeAll (by omega) (by omega) (by omega) (by omega) (by omega)).trans (h k j hk)
theorem fr_group {q : Nat} (hq : q = 38 ∨ q = 60) {s1 s : Sg} {a c : Int32} (h : Fr s1 s) : Fr (D_X10_takeGroup q s1 a c) s := fun k j hk => (fw_X10_takeGroup (by omega) (by omega) (by omega) (by omega) (by omega)).trans (h k j hk)
theorem tk_group {q : Nat} (hq : q = 38 ∨ q = 60) {s t : Sg} (h : Tk q s t) {a1 a2 : Int32} (h0 : 0 ≤ a1.toInt) (h1 : a1.toInt < (s 20 2).toInt) :
    Tk q (D_X10_takeGroup q s a1 a2) (D_X10_takeGroup q t a1 a2) ∧ ∀ o : Nat, o < 10 → bt_ ((D_X10_takeGroup q s a1 a2) (q + 3) 4) o = true → bt_ (s (q + 3) 4) o = true ∨ ∃ i : Nat, a1.toInt ≤ i ∧ (i : Int) < (D_X2_groupEnd s a1).toInt ∧ bt_ (s 21 i) o = true := by
  obtain ⟨g1, g2⟩ := gend_at h0 h1
  have hit1 := h.tb.it1
  unfold D_X10_takeGroup R_X10_takeGroup_73
  rw [gend_eq h.tb]
  generalize D_X2_groupEnd s a1 = a3 at g1 g2 ⊢
  refine lpB (I := fun x s1 t1 => Tk q s1 t1 ∧ Fr s1 s ∧ ∀ o : Nat, o < 10 → bt_ (s1 (q + 3) 4) o = true → bt_ (s (q + 3) 4) o = true ∨ ∃ i : Nat, a1.toInt ≤ i ∧ (i : Int) < a3.toInt ∧ bt_ (s 21 i) o = true) (J := fun s1 t1 => Tk q s1 t1 ∧ ∀ o : Nat, o < 10 → bt_ (s1 (q + 3) 4) o = true → bt_ (s (q + 3) 4) o = true ∨ ∃ i : Nat, a1.toInt ≤ i ∧ (i : Int) < a3.toInt ∧ bt_ (s 21 i) o = true) 11 (by decide) (fun x s1 t1 hx0 hI => ?_) (by decide) (by decide) ⟨h, fun _ _ _ => rfl, fun o ho hb => Or.inl hb⟩
  obtain ⟨hk, hf, hb⟩ := hI
  by_cases c0 : 10 < x
  · exact Or.inl ⟨x, x, s1, t1, if_pos c0, if_pos c0, hk, hb⟩
  · have hx : x.toInt < 11 := by
      have := Int32.le_iff_toInt_le.mp (Int32.not_lt.mp c0)
      have e : (10 : Int32).toInt = 10 := rfl
      omega
    have hin : Tk q (itr (uc2 (B_X10_takeGroup_28 q a1 a2 a3 x (s1 (q + 3) 3))) BIG (a1, s1)).2 (itr (uc2 (B_X10_takeGroup_28 q a1 a2 a3 x (t1 (q + 3) 3))) BIG (a1, t1)).2 ∧ Fr (itr (uc2 (B_X10_takeGroup_28 q a1 a2 a3 x (s1 (q + 3) 3))) BIG (a1, s1)).2 s ∧ ∀ o : Nat, o < 10 → bt_ ((itr (uc2 (B_X10_takeGroup_28 q a1 a2 a3 x (s1 (q + 3) 3))) BIG (a1, s1)).2 (q + 3) 4) o = true → bt_ (s (q + 3) 4) o = true ∨ ∃ i : Nat, a1.toInt ≤ i ∧ (i : Int) < a3.toInt ∧ bt_ (s 21 i) o = true := by
      refine lpB (I := fun y s2 t2 => (Tk q s2 t2 ∧ Fr s2 s ∧ ∀ o : Nat, o < 10 → bt_ (s2 (q + 3) 4) o = true → bt_ (s (q + 3) 4) o = true ∨ ∃ i : Nat, a1.toInt ≤ i ∧ (i : Int) < a3.toInt ∧ bt_ (s 21 i) o = true) ∧ a1.toInt ≤ y.toInt) (J := fun s2 t2 => Tk q s2 t2 ∧ Fr s2 s ∧ ∀ o : Nat, o < 10 → bt_ (s2 (q + 3) 4) o = true → bt_ (s (q + 3) 4) o = true ∨ ∃ i : Nat, a1.toInt ≤ i ∧ (i : Int) < a3.toInt ∧ bt_ (s 21 i) o = true) 8 (by decide) (fun y s2 t2 hy0 hI => ?_) h0 (by omega) ⟨⟨hk, hf, hb⟩, by omega⟩
      obtain ⟨⟨hk2, hf2, hb2⟩, hy1⟩ := hI
      by_cases d0 : a3 ≤ y
      · exact Or.inl ⟨y, y, s2, t2, if_pos d0, if_pos d0, hk2, hf2, hb2⟩
      · have hy := i_nle d0
        have e20 := hf2 20 2 (by decide)
        have hy1' : (y + 1).toInt = y.toInt + 1 := i_add1 (by omega)
        have key : ∀ o : Nat, o < 10 → bt_ ((D_X2_set s2 y) &&& a2) o = true → bt_ (s 21 y.toNatClampNeg) o = true := fun o ho hbo => by
          rw [bt_and, Bool.and_eq_true] at hbo
          have := (set_bt hbo.1).2.2
          rw [hf2 21 _ (by decide)] at this
          exact this
        have hw := tk_wanted hq hk2 (a := (D_X2_set s2 y) &&& a2) (fun o ho hbo => by
          rw [hf2 1 9 (by decide)]
          exact h.tb.it y.toNatClampNeg (by rw [tn]; omega) o ho (key o ho hbo))
        refine Or.inr (Or.inl ⟨by omega, _, _, if_neg d0, if_neg d0, ⟨?_, fr_wanted hq hf2, ?_⟩, by omega⟩)
        · rw [set_eq hk2.tb]; exact hw.1
        · intro o ho hbo
          rcases hw.2 o ho hbo with z | z
          · exact hb2 o ho z
          · exact Or.inr ⟨y.toNatClampNeg, by rw [tn]; omega, by rw [tn]; omega, key o ho z⟩
    obtain ⟨i1, i2, i3⟩ := hin
    by_cases c1 : (itr (uc2 (B_X10_takeGroup_28 q a1 a2 a3 x (s1 (q + 3) 3))) BIG (a1, s1)).2 (q + 3) 3 = s1 (q + 3) 3
    · exact Or.inl ⟨x, x, _, _, (if_neg c0).trans (if_pos c1), (if_neg c0).trans (if_pos (by rw [i1.n, hk.n]; rw [hk.n] at i1; exact c1)), i1, i3⟩
    · exact Or.inr (Or.inl ⟨hx, _, _, (if_neg c0).trans (if_neg c1), (if_neg c0).trans (if_neg (by rw [i1.n, hk.n]; rw [hk.n] at i1; exact c1)), i1, i2, i3⟩)
/-- which objects a link takes so far: of plain items ahead of x, of the others of any place -/
def TkB (q : Nat) (s0 s1 : Sg) (x : Int) : Prop := ∀ o : Nat, o < 10 → bt_ (s1 (q + 3) 4) o = true → ∃ i : Nat, (i : Int) < (s0 20 2).toInt ∧ bt_ (s0 21 i) o = true ∧ ((i : Int) < x ∨ ¬ s0 22 i = 0)
theorem tk_start {q : Nat} (hq : q = 38 ∨ q = 60) {s t : Sg} (h : Tb s t) {v : Int32} : Tk q (up (up (up (up s (q + 3) 3 0) (q + 3) 4 0) (q + 3) 5 v) (q + 3) 6 0) (up (up (up (up t (q + 3) 3 0) (q + 3) 4 0) (q + 3) 5 v) (q + 3) 6 0) ∧ Fr (up (up (up (up s (q + 3) 3 0) (q + 3) 4 0) (q + 3) 5 v) (q + 3) 6 0) s ∧ TkB q s (up (up (up (up s (q + 3) 3 0) (q + 3) 4 0) (q + 3) 5 v) (q + 3) 6 0) 0 := by
  have fr : ∀ z : Sg, Fr (up (up (up (up z (q + 3) 3 0) (q + 3) 4 0) (q + 3) 5 v) (q + 3) 6 0) z := fun z k j hk => by
    rw [up_ne (by omega), up_ne (by omega), up_ne (by omega), up_ne (by omega)]
  have e3 : ∀ z : Sg, (up (up (up (up z (q + 3) 3 0) (q + 3) 4 0) (q + 3) 5 v) (q + 3) 6 0) (q + 3) 3 = 0 := fun z => by simp [up_at]
  have e4 : ∀ z : Sg, (up (up (up (up z (q + 3) 3 0) (q + 3) 4 0) (q + 3) 5 v) (q + 3) 6 0) (q + 3) 4 = 0 := fun z => by simp [up_at]
  have e5 : ∀ z : Sg, (up (up (up (up z (q + 3) 3 0) (q + 3) 4 0) (q + 3) 5 v) (q + 3) 6 0) (q + 3) 5 = v := fun z => by simp [up_at]
  have e6 : ∀ z : Sg, (up (up (up (up z (q + 3) 3 0) (q + 3) 4 0) (q + 3) 5 v) (q + 3) 6 0) (q + 3) 6 = 0 := fun z => by simp [up_at]
  have z0 : (0 : Int32).toInt = 0 := rfl
  refine ⟨⟨h.of (fr s) (fr t), by rw [e3, e3], by rw [e4, e4], by rw [e5, e5], by rw [e6, e6], by rw [e3]; decide, by rw [e3]; decide, ?_, ?_, ?_⟩, fr s, ?_⟩
  · rw [e3]; intro j hj; omega
  · rw [e3]; intro i j hi hj; omega
  · rw [e4]; intro o ho hb; rw [bt_0] at hb; cases hb
  · intro o ho hb
    rw [e4, bt_0] at hb; cases hb
theorem tk_loop {q : Nat} (hq : q = 38 ∨ q = 60) {s t s0 : Sg} (h : Tk q s t ∧ Fr s s0 ∧ TkB q s0 s 0) {m : Int32} : Tk q (itr (uc2 (B_X10_take_40 q m)) BIG (0, s)).2 (itr (uc2 (B_X10_take_40 q m)) BIG (0, t)).2 := by
  refine lpB (I := fun x s1 t1 => Tk q s1 t1 ∧ Fr s1 s0 ∧ TkB q s0 s1 x.toInt) (J := fun s1 t1 => Tk q s1 t1) 8 (by decide) (fun x s1 t1 hx0 hI => ?_) (by decide) (by decide) h
  obtain ⟨hk, hf, hb⟩ := hI
  have e20 := congrArg Int32.toInt (hf 20 2 (by decide))
  have hit1 := hk.tb.it1
  by_cases c0 : (D_X2_count s1) ≤ x
  · exact Or.inl ⟨x, x, s1, t1, if_pos c0, if_pos (by show t1 20 2 ≤ x; rw [hk.tb.c20]; exact c0), hk⟩
  · have c0' : ¬ (D_X2_count t1) ≤ x := by show ¬ t1 20 2 ≤ x; rw [hk.tb.c20]; exact c0
    have hx : x.toInt < (s1 20 2).toInt := i_nle c0
    have hx1 : (x + 1).toInt = x.toInt + 1 := i_add1 (by omega)
    refine Or.inr (Or.inl ⟨by omega, ?_⟩)
    by_cases c1 : (D_X2_isPlain s1 x) = 0
    · have c1' : (D_X2_isPlain t1 x) = 0 := by rw [plain_eq hk.tb]; exact c1
      by_cases c2 : (D_X2_joinsAhead s1 x) = 0
      · have c2' : (D_X2_joinsAhead t1 x) = 0 := by rw [joins_eq hk.tb]; exact c2
        obtain ⟨w1, w2⟩ := tk_group hq hk (a1 := x) (a2 := m) hx0 hx
        obtain ⟨g1, g2⟩ := gend_at hx0 hx
        refine ⟨_, _, (if_neg c0).trans ((if_pos c1).trans (if_pos c2)), (if_neg c0').trans ((if_pos c1').trans (if_pos c2')), w1, fr_group hq hf, fun o ho hbo => ?_⟩
        rcases w2 o ho hbo with z | ⟨i, z1, z2, z3⟩
        · obtain ⟨i, y1, y2, y3⟩ := hb o ho z
          exact ⟨i, y1, y2, y3.imp (fun y => by omega) id⟩
        · rw [hf 21 _ (by decide)] at z3
          refine ⟨i, by omega, z3, ?_⟩
          by_cases e : x.toInt < i
          · have := g2 i e z2
            rw [hf 22 _ (by decide)] at this
            exact Or.inr this
          · exact Or.inl (by omega)
      · have c2' : ¬ (D_X2_joinsAhead t1 x) = 0 := by rw [joins_eq hk.tb]; exact c2
        refine ⟨_, _, (if_neg c0).trans ((if_pos c1).trans (if_neg c2)), (if_neg c0').trans ((if_pos c1').trans (if_neg c2')), hk, hf, fun o ho hbo => ?_⟩
        obtain ⟨i, y1, y2, y3⟩ := hb o ho hbo
        exact ⟨i, y1, y2, y3.imp (fun y => by omega) id⟩
    · have c1' : ¬ (D_X2_isPlain t1 x) = 0 := by rw [plain_eq hk.tb]; exact c1
      have hp : s0 22 x.toNatClampNeg = 0 := by
        rw [← hf 22 _ (by decide)]
        unfold D_X2_isPlain at c1
        by_cases d0 : x < 0
        · rw [if_pos d0] at c1; exact absurd rfl c1
        · by_cases d1 : s1 20 2 ≤ x
          · rw [if_neg d0, if_pos d1] at c1; exact absurd rfl c1
          · by_cases d2 : 8 ≤ x
            · rw [if_neg d0, if_neg d1, if_pos d2] at c1; exact absurd rfl c1
            · by_cases d3 : s1 22 x.toNatClampNeg = 0
              · exact d3
              · rw [if_neg d0, if_neg d1, if_neg d2, if_neg d3] at c1; exact absurd rfl c1
      have key : ∀ o : Nat, o < 10 → bt_ ((D_X2_set s1 x) &&& m) o = true → bt_ (s1 21 x.toNatClampNeg) o = true := fun o ho hbo => by
        rw [bt_and, Bool.and_eq_true] at hbo
        exact (set_bt hbo.1).2.2
      obtain ⟨w1, w2⟩ := tk_all hq hk (a := (D_X2_set s1 x) &&& m) (fun o ho hbo => by
        have k1 := key o ho hbo
        refine ⟨hk.tb.it x.toNatClampNeg (by rw [tn]; omega) o ho k1, ?_⟩
        cases hc : bt_ (s1 (q + 3) 4) o with
        | false => rfl
        | true =>
          obtain ⟨i, y1, y2, y3⟩ := hb o ho hc
          rw [← hf 21 _ (by decide)] at y2
          have e := hk.tb.dj i x.toNatClampNeg (by omega) (by rw [tn]; omega) o ho y2 k1
          subst e
          rcases y3 with y | y
          · rw [tn] at y; omega
          · exact absurd hp y)
      refine ⟨_, _, (if_neg c0).trans (if_neg c1), (if_neg c0').trans ((if_neg c1').trans (by rw [set_eq hk.tb])), w1, fr_all hq hf, fun o ho hbo => ?_⟩
      rcases w2 o ho hbo with z | z
      · obtain ⟨i, y1, y2, y3⟩ := hb o ho z
        exact ⟨i, y1, y2, y3.imp (fun y => by omega) id⟩
      · have k1 := key o ho z
        rw [hf 21 _ (by decide)] at k1
        exact ⟨x.toNatClampNeg, by rw [tn]; omega, k1, Or.inl (by rw [tn]; omega)⟩
/-- what a link takes: the same in both -/
theorem tk_take {q : Nat} (hq : q = 38 ∨ q = 60) {s t : Sg} (h : Tb s t) {a1 a2 : Int32} : Tk q (D_X10_take q s a1 a2) (D_X10_take q t a1 a2) := by
  unfold D_X10_take R_X10_take_107
  by_cases c : a2 = (-1)
  · rw [if_pos c, if_pos c]
    exact tk_loop hq (tk_start hq h)
  · rw [if_neg c, if_neg c]
    exact tk_loop hq (tk_start hq h)
