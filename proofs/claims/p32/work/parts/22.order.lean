/-! the order of sections -/
def cn : Nat → (Nat → Bool) → Nat
  | 0, _ => 0
  | n + 1, c => cn n c + (if c n = true then 1 else 0)
theorem cn_le : ∀ (n : Nat) (c : Nat → Bool), cn n c ≤ n := by
  intro n c
  induction n with
  | zero => exact Nat.le_refl _
  | succ n ih => unfold cn; split <;> omega
theorem cn_lt : ∀ (n : Nat) (c : Nat → Bool) (k : Nat), k < n → c k = false → cn n c < n := by
  intro n c k
  induction n with
  | zero => intro h; omega
  | succ n ih =>
    intro h hc
    unfold cn
    have := cn_le n c
    by_cases e : k = n
    · subst e; rw [hc]; simp; omega
    · have := ih (by omega) hc
      split <;> omega
theorem cn_eq : ∀ (n : Nat) (c d : Nat → Bool), (∀ k, k < n → c k = d k) → cn n c = cn n d := by
  intro n c d
  induction n with
  | zero => intro _; rfl
  | succ n ih =>
    intro h
    unfold cn
    rw [ih (fun k hk => h k (by omega)), h n (by omega)]
theorem cn_set : ∀ (n : Nat) (c d : Nat → Bool) (k : Nat), k < n → c k = false → (∀ i, i < n → d i = (c i || decide (i = k))) → cn n d = cn n c + 1 := by
  intro n c d k
  induction n with
  | zero => intro h; omega
  | succ n ih =>
    intro h hc hd
    unfold cn
    by_cases e : k = n
    · subst e
      rw [cn_eq k d c (fun i hi => by rw [hd i (by omega), decide_eq_false (by omega), Bool.or_false]), hd k (by omega), hc]
      simp
    · rw [ih (by omega) hc (fun i hi => hd i (by omega)), hd n (by omega), decide_eq_false (by omega), Bool.or_false]
      omega
def Od (q : Nat) (s t : Sg) : Prop :=
  (Rt q s t) ∧
  (t (q + 15) 5 = s (q + 15) 5) ∧
  (0 ≤ (s (q + 15) 5).toInt) ∧
  ((s (q + 15) 5).toInt ≤ 24) ∧
  (∀ j : Nat, (j : Int) < (s (q + 15) 5).toInt → t (q + 16) j = s (q + 16) j ∧ 0 ≤ (s (q + 16) j).toInt ∧ (s (q + 16) j).toInt < (s 11 8).toInt ∧ bt_ (s (q + 12) 5) (s (q + 16) j).toNatClampNeg = true) ∧
  (∀ j : Nat, (j : Int) < (s (q + 15) 5).toInt → t (q + 19) (s (q + 16) j).toNatClampNeg = s (q + 19) (s (q + 16) j).toNatClampNeg) ∧
  (∀ j p : Nat, (j : Int) < (s (q + 15) 5).toInt → p < 8 → t (q + 20) ((s (q + 16) j).toNatClampNeg * 8 + p) = s (q + 20) ((s (q + 16) j).toNatClampNeg * 8 + p)) ∧
  (∀ i j : Nat, i < j → (j : Int) < (s (q + 15) 5).toInt → s (q + 16) i ≠ s (q + 16) j) ∧
  (∃ c : Nat → Bool, (∀ k, k < 24 → (c k = true ↔ ∃ j : Nat, (j : Int) < (s (q + 15) 5).toInt ∧ (s (q + 16) j).toNatClampNeg = k)) ∧ (s (q + 15) 5).toInt = (cn 24 c : Nat))
theorem Od.rt {q : Nat} {s t : Sg} (h : Od q s t) : Rt q s t := h.1
theorem Od.n {q : Nat} {s t : Sg} (h : Od q s t) : t (q + 15) 5 = s (q + 15) 5 := h.2.1
theorem Od.n0 {q : Nat} {s t : Sg} (h : Od q s t) : 0 ≤ (s (q + 15) 5).toInt := h.2.2.1
theorem Od.n1 {q : Nat} {s t : Sg} (h : Od q s t) : (s (q + 15) 5).toInt ≤ 24 := h.2.2.2.1
theorem Od.od {q : Nat} {s t : Sg} (h : Od q s t) : ∀ j : Nat, (j : Int) < (s (q + 15) 5).toInt → t (q + 16) j = s (q + 16) j ∧ 0 ≤ (s (q + 16) j).toInt ∧ (s (q + 16) j).toInt < (s 11 8).toInt ∧ bt_ (s (q + 12) 5) (s (q + 16) j).toNatClampNeg = true := h.2.2.2.2.1
theorem Od.ln {q : Nat} {s t : Sg} (h : Od q s t) : ∀ j : Nat, (j : Int) < (s (q + 15) 5).toInt → t (q + 19) (s (q + 16) j).toNatClampNeg = s (q + 19) (s (q + 16) j).toNatClampNeg := h.2.2.2.2.2.1
theorem Od.wi {q : Nat} {s t : Sg} (h : Od q s t) : ∀ j p : Nat, (j : Int) < (s (q + 15) 5).toInt → p < 8 → t (q + 20) ((s (q + 16) j).toNatClampNeg * 8 + p) = s (q + 20) ((s (q + 16) j).toNatClampNeg * 8 + p) := h.2.2.2.2.2.2.1
theorem Od.di {q : Nat} {s t : Sg} (h : Od q s t) : ∀ i j : Nat, i < j → (j : Int) < (s (q + 15) 5).toInt → s (q + 16) i ≠ s (q + 16) j := h.2.2.2.2.2.2.2.1
theorem Od.cc {q : Nat} {s t : Sg} (h : Od q s t) : ∃ c : Nat → Bool, (∀ k, k < 24 → (c k = true ↔ ∃ j : Nat, (j : Int) < (s (q + 15) 5).toInt ∧ (s (q + 16) j).toNatClampNeg = k)) ∧ (s (q + 15) 5).toInt = (cn 24 c : Nat) := h.2.2.2.2.2.2.2.2
/-- what appending a section does -/
theorem ap_at {q : Nat} (hq : q = 38 ∨ q = 60) {s : Sg} {a : Int32} (ha : rg a 24) (hc : (s (q + 15) 5).toInt < 24) :
    (D_X3_append q s a) (q + 15) 5 = s (q + 15) 5 + 1 ∧ (∀ j, (D_X3_append q s a) (q + 16) j = if j = (s (q + 15) 5).toNatClampNeg then a else s (q + 16) j) ∧ (∀ j, (D_X3_append q s a) (q + 19) j = if j = a.toNatClampNeg then 0 else s (q + 19) j) ∧
    (∀ p : Nat, p < 8 → (D_X3_append q s a) (q + 20) (a.toNatClampNeg * 8 + p) = D_X8_words s a (Int32.ofInt (p : Int))) ∧ (∀ i : Nat, (i < a.toNatClampNeg * 8 ∨ a.toNatClampNeg * 8 + 8 ≤ i) → (D_X3_append q s a) (q + 20) i = s (q + 20) i) := by
  have hI : ¬ D_X11_isIn a 24 = 0 := by
    unfold D_X11_isIn
    rw [if_neg (n_lt ha.1), if_neg (n_le (m := 24) (n := 24) ha.2 rfl)]; decide
  have h24 : ¬ 24 ≤ s (q + 15) 5 := n_le (m := 24) (n := 24) hc rfl
  have hw : ∀ z : Sg, Fr z s → ∀ p, D_X8_words z a p = D_X8_words s a p := fun z hz p => by
    unfold D_X8_words D_X8_hasPiece
    rw [hz 15 _ (by decide), hz 16 _ (by decide), hz 17 _ (by decide)]
  unfold D_X3_append R_X3_append_80
  rw [if_neg h24, if_neg hI]
  refine lq (I := fun x z => Fr z s ∧ (z (q + 15) 5 = s (q + 15) 5 + 1 ∧ (∀ j, z (q + 16) j = if j = (s (q + 15) 5).toNatClampNeg then a else s (q + 16) j) ∧ (∀ j, z (q + 19) j = if j = a.toNatClampNeg then 0 else s (q + 19) j)) ∧ (∀ p : Nat, (p : Int) < x.toInt → z (q + 20) (a.toNatClampNeg * 8 + p) = D_X8_words s a (Int32.ofInt (p : Int))) ∧ (∀ i : Nat, (i < a.toNatClampNeg * 8 ∨ a.toNatClampNeg * 8 + 8 ≤ i) → z (q + 20) i = s (q + 20) i))
    (J := fun z => z (q + 15) 5 = s (q + 15) 5 + 1 ∧ (∀ j, z (q + 16) j = if j = (s (q + 15) 5).toNatClampNeg then a else s (q + 16) j) ∧ (∀ j, z (q + 19) j = if j = a.toNatClampNeg then 0 else s (q + 19) j) ∧ (∀ p : Nat, p < 8 → z (q + 20) (a.toNatClampNeg * 8 + p) = D_X8_words s a (Int32.ofInt (p : Int))) ∧ (∀ i : Nat, (i < a.toNatClampNeg * 8 ∨ a.toNatClampNeg * 8 + 8 ≤ i) → z (q + 20) i = s (q + 20) i)) 8 (by decide) (fun x z hx0 hI => ?_) (by decide) (by decide) ⟨fun k j hk => by rw [up_ne (by omega), up_ne (by omega), up_ne (by omega)], ⟨by simp [up_at], fun j => by simp [up_at], fun j => by simp [up_at]⟩, fun p hp => by have : (0 : Int32).toInt = 0 := rfl; omega, fun i _ => by rw [up_ne (by omega), up_ne (by omega), up_ne (by omega)]⟩
  obtain ⟨hf, ⟨h1, h2, h3⟩, h4, h5⟩ := hI
  by_cases c0 : 8 ≤ x
  · have hx := i_le (n := 8) c0 rfl
    exact Or.inl ⟨x, z, if_pos c0, h1, h2, h3, fun p hp => h4 p (by omega), h5⟩
  · have hx := i_lt (n := 8) c0 rfl
    have hx1 : (x + 1).toInt = x.toInt + 1 := i_add1 (by omega)
    have e := i_ma (x := a) (y := x) 8 8 rfl ha ⟨hx0, hx⟩ (by decide) (by decide)
    refine Or.inr ⟨hx, _, if_neg c0, ?_, ⟨?_, ?_, ?_⟩, ?_, ?_⟩
    · intro k j hk; rw [up_ne (by omega)]; exact hf k j hk
    · rw [up_ne (by omega)]; exact h1
    · intro j; rw [up_ne (by omega)]; exact h2 j
    · intro j; rw [up_ne (by omega)]; exact h3 j
    · intro p hp
      rw [e, up_at, hw z hf]
      by_cases c : p = x.toNatClampNeg
      · rw [if_pos ⟨rfl, by rw [c]⟩]
        congr 1
        rw [c, tn, Int.toNat_of_nonneg hx0]
        exact (Int32.ofInt_toInt x).symm
      · rw [if_neg (fun q => c (by have := q.2; omega))]
        exact h4 p (by rw [tn] at c; omega)
    · intro i hi
      rw [e, up_at, if_neg (fun q => by have := q.2; rw [tn (x := x)] at this; omega)]
      exact h5 i hi
