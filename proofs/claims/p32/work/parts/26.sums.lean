/-! sums; rounding up -/
def isum (f : Nat → Int) : Nat → Int
  | 0 => 0
  | n + 1 => isum f n + f n
theorem isum_le {f g : Nat → Int} : ∀ n, (∀ i, i < n → f i ≤ g i) → isum f n ≤ isum g n := by
  intro n
  induction n with
  | zero => exact fun _ => Int.le_refl _
  | succ n ih =>
    intro h
    have h1 := ih (fun i hi => h i (by omega))
    have h2 := h n (by omega)
    show isum f n + f n ≤ isum g n + g n
    omega
theorem isum_cg {f g : Nat → Int} : ∀ n, (∀ i, i < n → f i = g i) → isum f n = isum g n := by
  intro n
  induction n with
  | zero => exact fun _ => rfl
  | succ n ih =>
    intro h
    have h1 := ih (fun i hi => h i (by omega))
    have h2 := h n (by omega)
    show isum f n + f n = isum g n + g n
    omega
theorem isum_nn {f : Nat → Int} : ∀ n, (∀ i, i < n → 0 ≤ f i) → 0 ≤ isum f n := by
  intro n
  induction n with
  | zero => exact fun _ => Int.le_refl _
  | succ n ih =>
    intro h
    have h1 := ih (fun i hi => h i (by omega))
    have h2 := h n (by omega)
    show 0 ≤ isum f n + f n
    omega
theorem isum_12 {f : Nat → Int} : ∀ n : Nat, (∀ i, i < n → f i ≤ 12) → isum f n ≤ 12 * n := by
  intro n
  induction n with
  | zero => exact fun _ => Int.le_refl _
  | succ n ih =>
    intro h
    have h1 := ih (fun i hi => h i (by omega))
    have h2 := h n (by omega)
    show isum f n + f n ≤ 12 * (n + 1 : Nat)
    omega
theorem isum_mono {f : Nat → Int} {n : Nat} : ∀ m, (∀ i, i < m → 0 ≤ f i) → n ≤ m → isum f n ≤ isum f m := by
  intro m
  induction m with
  | zero => intro _ h; rw [Nat.le_zero.mp h]; exact Int.le_refl _
  | succ m ih =>
    intro h hn
    by_cases c : n = m + 1
    · rw [c]; exact Int.le_refl _
    · have h1 := ih (fun i hi => h i (by omega)) (by omega)
      have h2 := h m (by omega)
      show isum f n ≤ isum f m + f m
      omega
theorem isum_hole {c : Nat → Int} {a : Nat} : ∀ n, a < n → isum c n = isum (fun k => if k = a then 0 else c k) n + c a := by
  intro n
  induction n with
  | zero => intro h; omega
  | succ n ih =>
    intro h
    show isum c n + c n = isum (fun k => if k = a then 0 else c k) n + (if n = a then 0 else c n) + c a
    by_cases e : n = a
    · rw [if_pos e, ← e, isum_cg (f := c) (g := fun k => if k = n then 0 else c k) n (fun i hi => by show c i = if i = n then 0 else c i; rw [if_neg (by omega)])]
      omega
    · rw [if_neg e, ih (by omega)]; omega
theorem isum_inj {n : Nat} {g : Nat → Nat} : ∀ (m : Nat) (c : Nat → Int), (∀ k, k < n → 0 ≤ c k) → (∀ i, i < m → g i < n) → (∀ i j, i < j → j < m → g i ≠ g j) → isum (fun i => c (g i)) m ≤ isum c n := by
  intro m
  induction m with
  | zero => exact fun c h _ _ => isum_nn n h
  | succ m ih =>
    intro c h0 hg hd
    have h1 := ih (fun k => if k = g m then 0 else c k) (fun k hk => by
      show 0 ≤ if k = g m then 0 else c k
      by_cases e : k = g m
      · rw [if_pos e]; exact Int.le_refl _
      · rw [if_neg e]; exact h0 k hk) (fun i hi => hg i (by omega)) (fun i j hij hj => hd i j hij (by omega))
    have h2 := isum_hole (c := c) (a := g m) n (hg m (by omega))
    have h3 : isum (fun i => (fun k => if k = g m then 0 else c k) (g i)) m = isum (fun i => c (g i)) m := isum_cg m (fun i hi => by
      show (if g i = g m then 0 else c (g i)) = c (g i)
      rw [if_neg (hd i m hi (by omega))])
    rw [h3] at h1
    show isum (fun i => c (g i)) m + c (g m) ≤ isum c n
    omega
def pw (a : Int32) : Prop := a = 1 ∨ a = 2 ∨ a = 4 ∨ a = 8 ∨ a = 16
def al8 (a : Int32) : Prop := a = 1 ∨ a = 2 ∨ a = 4 ∨ a = 8
theorem al8.pw {a : Int32} (h : al8 a) : pw a ∧ a.toInt ≤ 8 := by
  rcases h with rfl | rfl | rfl | rfl
  · exact ⟨Or.inl rfl, by decide⟩
  · exact ⟨Or.inr (Or.inl rfl), by decide⟩
  · exact ⟨Or.inr (Or.inr (Or.inl rfl)), by decide⟩
  · exact ⟨Or.inr (Or.inr (Or.inr (Or.inl rfl))), by decide⟩
theorem pw.le {a : Int32} (h : pw a) : 1 ≤ a.toInt ∧ a.toInt ≤ 16 := by
  rcases h with rfl | rfl | rfl | rfl | rfl <;> decide
theorem neg_bits : ∀ k, k < 5 → ∀ i, i < 32 → (-(BitVec.ofNat 32 (2 ^ k))).getLsbD i = decide (k ≤ i) := by decide
theorem and_neg {k : Nat} (hk : k < 5) (y : BitVec 32) : y &&& (-(BitVec.ofNat 32 (2 ^ k))) = (y >>> k) <<< k := by
  apply BitVec.eq_of_getLsbD_eq
  intro i hi
  rw [BitVec.getLsbD_and, neg_bits k hk i hi, BitVec.getLsbD_shiftLeft, BitVec.getLsbD_ushiftRight]
  by_cases c : k ≤ i
  · rw [decide_eq_true c, decide_eq_true hi, decide_eq_false (show ¬ i < k by omega), show k + (i - k) = i by omega]
    cases y.getLsbD i <;> rfl
  · rw [decide_eq_false c, decide_eq_true hi, decide_eq_true (show i < k by omega)]
    cases y.getLsbD i <;> rfl
theorem i_nat {y : Int32} (h : 0 ≤ y.toInt) : (y.toBitVec.toNat : Int) = y.toInt := by
  have e : y.toInt = y.toBitVec.toInt := rfl
  have h1 := BitVec.toInt_eq_toNat_cond y.toBitVec
  have h2 := y.toBitVec.isLt
  rw [e] at h ⊢
  split at h1 <;> omega
theorem ru_k {k : Nat} {x a : Int32} (hk : k < 5) (ha : a.toBitVec = BitVec.ofNat 32 (2 ^ k)) (hi : a.toInt = ((2 ^ k : Nat) : Int)) (h0 : 0 ≤ x.toInt) (h1 : x.toInt ≤ 100000) : (D_X11_roundUp x a).toInt = (((x.toInt.toNat + 2 ^ k - 1) / 2 ^ k * 2 ^ k : Nat) : Int) := by
  have p1 : 2 ^ k ≤ 16 := Nat.pow_le_pow_right (by decide) (show k ≤ 4 by omega)
  have p0 : 1 ≤ 2 ^ k := Nat.one_le_two_pow
  generalize hP : 2 ^ k = P at *
  have e1 : (x + a).toInt = x.toInt + a.toInt := by rw [Int32.toInt_add, Int.bmod_eq_of_le (by omega) (by omega)]
  have e2 : (x + a - 1).toInt = x.toInt + a.toInt - 1 := by
    have z : (1 : Int32).toInt = 1 := rfl
    rw [Int32.toInt_sub, e1, z, Int.bmod_eq_of_le (by omega) (by omega)]
  have e3 := i_nat (y := x + a - 1) (by omega)
  have e4 : (D_X11_roundUp x a).toBitVec = ((x + a - 1).toBitVec >>> k) <<< k := by
    unfold D_X11_roundUp
    rw [Int32.toBitVec_and, Int32.toBitVec_neg, ha, ← hP, and_neg hk]
  have e5 : (D_X11_roundUp x a).toBitVec.toNat = (x + a - 1).toBitVec.toNat / P * P := by
    rw [e4, BitVec.toNat_shiftLeft, BitVec.toNat_ushiftRight, Nat.shiftLeft_eq, Nat.shiftRight_eq_div_pow, hP, Nat.mod_eq_of_lt]
    have := Nat.div_mul_le_self (x + a - 1).toBitVec.toNat P
    omega
  have e6 : (x + a - 1).toBitVec.toNat = x.toInt.toNat + P - 1 := by omega
  rw [e6] at e5
  have e7 := Nat.div_mul_le_self (x.toInt.toNat + P - 1) P
  have e8 : (D_X11_roundUp x a).toInt = (D_X11_roundUp x a).toBitVec.toInt := rfl
  have h3 := BitVec.toInt_eq_toNat_cond (D_X11_roundUp x a).toBitVec
  rw [e8, h3, e5, if_pos (by omega)]
theorem ru_at {x a : Int32} (h0 : 0 ≤ x.toInt) (h1 : x.toInt ≤ 100000) (ha : pw a) : x.toInt ≤ (D_X11_roundUp x a).toInt ∧ (D_X11_roundUp x a).toInt ≤ x.toInt + a.toInt - 1 := by
  rcases ha with rfl | rfl | rfl | rfl | rfl
  · have := ru_k (k := 0) (a := 1) (by decide) rfl rfl h0 h1
    have z : (1 : Int32).toInt = 1 := rfl
    rw [this, z]; omega
  · have := ru_k (k := 1) (a := 2) (by decide) rfl rfl h0 h1
    have z : (2 : Int32).toInt = 2 := rfl
    rw [this, z]; omega
  · have := ru_k (k := 2) (a := 4) (by decide) rfl rfl h0 h1
    have z : (4 : Int32).toInt = 4 := rfl
    rw [this, z]; omega
  · have := ru_k (k := 3) (a := 8) (by decide) rfl rfl h0 h1
    have z : (8 : Int32).toInt = 8 := rfl
    rw [this, z]; omega
  · have := ru_k (k := 4) (a := 16) (by decide) rfl rfl h0 h1
    have z : (16 : Int32).toInt = 16 := rfl
    rw [this, z]; omega
