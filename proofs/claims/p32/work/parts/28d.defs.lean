/-! which names the yard knows as defined -/
theorem bits256 : ∀ v : Nat, v < 256 → ∀ n : Nat, n < 8 → bt_ (Int32.ofInt (v : Int)) n = false → (D_J6_bitCount_0f7a4 ((Int32.ofInt (v : Int)) ||| ((1 : Int32) <<< (Int32.ofInt (n : Int) &&& 31)))).toInt = (D_J6_bitCount_0f7a4 (Int32.ofInt (v : Int))).toInt + 1 ∧ 0 ≤ ((Int32.ofInt (v : Int)) ||| ((1 : Int32) <<< (Int32.ofInt (n : Int) &&& 31))).toInt ∧ ((Int32.ofInt (v : Int)) ||| ((1 : Int32) <<< (Int32.ofInt (n : Int) &&& 31))).toInt < 256 := by decide +kernel
def DC (s : Sg) (nd : Nat) (dO dN : Nat → Int32) : Prop :=
  (∀ i, i < nd → (0 ≤ (dO i).toInt ∧ (dO i).toInt < 5) ∧ 0 ≤ (dN i).toInt ∧ (dN i).toInt < 8) ∧
  (∀ o n : Nat, o < 5 → n < 8 → (bt_ (s 2 o) n = true ↔ ∃ i, i < nd ∧ (dO i).toInt = o ∧ (dN i).toInt = n)) ∧
  (∀ o : Nat, o < 5 → 0 ≤ (s 2 o).toInt ∧ (s 2 o).toInt < 256 ∧ (D_J6_bitCount_0f7a4 (s 2 o)).toInt = (cn nd (fun i => decide ((dO i).toInt = (o : Int))) : Nat))
theorem DC.of {s t : Sg} {nd : Nat} {dO dN : Nat → Int32} (h : DC s nd dO dN) (h2 : ∀ o : Nat, o < 5 → t 2 o = s 2 o) : DC t nd dO dN :=
  ⟨h.1, fun o n ho hn => by rw [h2 o ho]; exact h.2.1 o n ho hn, fun o ho => by rw [h2 o ho]; exact h.2.2 o ho⟩
theorem dc_0 {s : Sg} {dO dN : Nat → Int32} (h : ∀ o : Nat, o < 5 → s 2 o = 0) : DC s 0 dO dN := by
  refine ⟨fun i hi => absurd hi (Nat.not_lt_zero i), fun o n ho hn => ?_, fun o ho => ?_⟩
  · rw [h o ho, bt_0]
    constructor
    · intro q; cases q
    · rintro ⟨i, hi, _⟩; exact absurd hi (Nat.not_lt_zero i)
  · rw [h o ho]
    exact ⟨by decide, by decide, by show (D_J6_bitCount_0f7a4 0).toInt = ((0 : Nat) : Int); decide +kernel⟩
theorem dc_add {s t : Sg} {nd : Nat} {dO dN : Nat → Int32} (h : DC s nd dO dN) {o n : Int32} (ho0 : 0 ≤ o.toInt) (ho1 : o.toInt < 5) (hn0 : 0 ≤ n.toInt) (hn1 : n.toInt < 8) (hb : bt_ (s 2 o.toNatClampNeg) n.toNatClampNeg = false) (h2 : ∀ j, t 2 j = if j = o.toNatClampNeg then s 2 o.toNatClampNeg ||| ((1 : Int32) <<< (n &&& 31)) else s 2 j) :
    DC t (nd + 1) (fun i => if i = nd then o else dO i) (fun i => if i = nd then n else dN i) ∧ (D_J6_bitCount_0f7a4 (s 2 o.toNatClampNeg ||| ((1 : Int32) <<< (n &&& 31)))).toInt = (cn (nd + 1) (fun i => decide (((fun i => if i = nd then o else dO i) i).toInt = o.toInt)) : Nat) := by
  obtain ⟨d1, d2, d3⟩ := h
  have hO : o.toNatClampNeg = o.toInt.toNat := rfl
  have hM : n.toNatClampNeg = n.toInt.toNat := rfl
  have r32 : rg n 32 := ⟨hn0, by omega⟩
  obtain ⟨e1, e2, e3⟩ := d3 o.toNatClampNeg (by omega)
  obtain ⟨v, hv, ev⟩ := as_nat e1 e2
  obtain ⟨m, hm, em⟩ := as_nat hn0 hn1
  have emn : n.toNatClampNeg = m := by
    rw [em]
    exact (by decide : ∀ k : Nat, k < 8 → (Int32.ofInt (k : Int)).toNatClampNeg = k) m (by omega)
  have hb' : bt_ (Int32.ofInt (v : Int)) m = false := by rw [← ev, ← emn]; exact hb
  obtain ⟨b1, b2, b3⟩ := bits256 v (by omega) m (by omega) hb'
  rw [← ev, ← em] at b1 b2 b3
  have cnt : ∀ (o' : Int), (cn (nd + 1) (fun i => decide (((fun i => if i = nd then o else dO i) i).toInt = o')) : Nat) = cn nd (fun i => decide ((dO i).toInt = o')) + (if o.toInt = o' then 1 else 0) := fun o' => by
    show cn nd (fun i => decide (((fun i => if i = nd then o else dO i) i).toInt = o')) + (if decide ((if nd = nd then o else dO nd).toInt = o') = true then 1 else 0) = _
    rw [cn_eq nd _ (fun i => decide ((dO i).toInt = o')) (fun i hi => by
      show decide ((if i = nd then o else dO i).toInt = o') = _
      rw [if_neg (by omega)]), if_pos rfl]
    by_cases e : o.toInt = o'
    · rw [if_pos e, if_pos (decide_eq_true e)]
    · rw [if_neg e, if_neg (by rw [decide_eq_false e]; decide)]
  have tot : (D_J6_bitCount_0f7a4 (s 2 o.toNatClampNeg ||| ((1 : Int32) <<< (n &&& 31)))).toInt = (cn (nd + 1) (fun i => decide (((fun i => if i = nd then o else dO i) i).toInt = o.toInt)) : Nat) := by
    rw [b1, e3, cnt, if_pos rfl, show ((o.toNatClampNeg : Nat) : Int) = o.toInt by omega]
    omega
  refine ⟨⟨fun i hi => ?_, fun a b ha hb2 => ?_, fun a ha => ?_⟩, tot⟩
  · show (0 ≤ (if i = nd then o else dO i).toInt ∧ (if i = nd then o else dO i).toInt < 5) ∧ 0 ≤ (if i = nd then n else dN i).toInt ∧ (if i = nd then n else dN i).toInt < 8
    by_cases e : i = nd
    · rw [if_pos e, if_pos e]; exact ⟨⟨ho0, ho1⟩, hn0, hn1⟩
    · rw [if_neg e, if_neg e]; exact d1 i (by omega)
  · have old := d2 a b ha hb2
    have split : (∃ i, i < nd + 1 ∧ ((fun i => if i = nd then o else dO i) i).toInt = a ∧ ((fun i => if i = nd then n else dN i) i).toInt = b) ↔ (∃ i, i < nd ∧ (dO i).toInt = a ∧ (dN i).toInt = b) ∨ (o.toInt = a ∧ n.toInt = b) := by
      constructor
      · rintro ⟨i, hi, q1, q2⟩
        have q1 : (if i = nd then o else dO i).toInt = a := q1
        have q2 : (if i = nd then n else dN i).toInt = b := q2
        by_cases e : i = nd
        · rw [if_pos e] at q1 q2; exact Or.inr ⟨q1, q2⟩
        · rw [if_neg e] at q1 q2; exact Or.inl ⟨i, by omega, q1, q2⟩
      · rintro (⟨i, hi, q1, q2⟩ | ⟨q1, q2⟩)
        · refine ⟨i, by omega, ?_, ?_⟩
          · show (if i = nd then o else dO i).toInt = a
            rw [if_neg (by omega)]; exact q1
          · show (if i = nd then n else dN i).toInt = b
            rw [if_neg (by omega)]; exact q2
        · refine ⟨nd, by omega, ?_, ?_⟩
          · show (if nd = nd then o else dO nd).toInt = a
            rw [if_pos rfl]; exact q1
          · show (if nd = nd then n else dN nd).toInt = b
            rw [if_pos rfl]; exact q2
    rw [split, ← old, h2]
    clear old split
    by_cases e : a = o.toNatClampNeg
    · rw [if_pos e, bt_set r32 (by omega), ← e, Bool.or_eq_true, decide_eq_true_iff]
      constructor
      · rintro (q | q)
        · exact Or.inl q
        · exact Or.inr ⟨by omega, by omega⟩
      · rintro (q | ⟨q1, q2⟩)
        · exact Or.inl q
        · exact Or.inr (by omega)
    · rw [if_neg e]
      constructor
      · exact Or.inl
      · rintro (q | ⟨q1, q2⟩)
        · exact q
        · exact absurd (by omega) e
  · rw [h2, cnt]
    by_cases e : a = o.toNatClampNeg
    · rw [if_pos e, if_pos (by omega)]
      refine ⟨b2, b3, ?_⟩
      rw [b1, e3, e]
      omega
    · rw [if_neg e, if_neg (by omega)]
      exact d3 a ha
