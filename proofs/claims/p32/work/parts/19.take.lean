/-! two states with the same tables; the second has perhaps more sections that are empty and not kept, and more objects that are in no item -/
def Tb (s t : Sg) : Prop :=
  (∀ j, t 4 j = s 4 j) ∧
  (∀ j, t 10 j = s 10 j) ∧
  (∀ j, t 15 j = s 15 j) ∧
  (∀ j, t 16 j = s 16 j) ∧
  (∀ j, t 17 j = s 17 j) ∧
  (∀ j, t 18 j = s 18 j) ∧
  (∀ j, t 19 j = s 19 j) ∧
  (t 20 2 = s 20 2) ∧
  (∀ j, t 21 j = s 21 j) ∧
  (∀ j, t 22 j = s 22 j) ∧
  (0 ≤ (s 11 8).toInt) ∧
  ((s 11 8).toInt ≤ (t 11 8).toInt) ∧
  ((t 11 8).toInt ≤ 24) ∧
  (0 ≤ (s 1 9).toInt) ∧
  ((s 1 9).toInt ≤ (t 1 9).toInt) ∧
  ((t 1 9).toInt ≤ 10) ∧
  (∀ j : Nat, (j : Int) < (s 11 8).toInt → t 12 j = s 12 j) ∧
  (∀ j : Nat, (j : Int) < (s 11 8).toInt → t 13 j = s 13 j) ∧
  (∀ j : Nat, (j : Int) < (s 11 8).toInt → t 14 j = s 14 j) ∧
  (∀ j : Nat, (s 11 8).toInt ≤ j → j < 24 → t 14 j = 0) ∧
  (∀ j : Nat, (j : Int) < (s 1 9).toInt → t 2 j = s 2 j) ∧
  (∀ j : Nat, (j : Int) < (s 1 9).toInt → t 3 j = s 3 j) ∧
  (∀ j : Nat, (j : Int) < 20 * (s 1 9).toInt → t 5 j = s 5 j) ∧
  (∀ j : Nat, (j : Int) < 20 * (s 1 9).toInt → t 6 j = s 6 j) ∧
  (∀ j : Nat, (j : Int) < 20 * (s 1 9).toInt → t 7 j = s 7 j) ∧
  (∀ j : Nat, (j : Int) < 20 * (s 1 9).toInt → t 8 j = s 8 j) ∧
  (∀ j : Nat, (j : Int) < 20 * (s 1 9).toInt → t 9 j = s 9 j) ∧
  (0 ≤ (s 20 2).toInt) ∧
  ((s 20 2).toInt ≤ 8) ∧
  (∀ i : Nat, (i : Int) < (s 20 2).toInt → ∀ o : Nat, o < 10 → bt_ (s 21 i) o = true → (o : Int) < (s 1 9).toInt) ∧
  (∀ j : Nat, (j : Int) < (s 11 8).toInt → 0 ≤ (s 15 j).toInt ∧ (s 15 j).toInt ≤ 8) ∧
  (∀ j : Nat, (j : Int) < (s 11 8).toInt → 0 ≤ (s 12 j).toInt) ∧
  (∀ o n : Nat, (o : Int) < (s 1 9).toInt → n < 20 → bt_ (s 2 o) n = true → ¬ s 5 (o * 20 + n) = 1 → 0 ≤ (s 6 (o * 20 + n)).toInt ∧ (s 6 (o * 20 + n)).toInt < (s 11 8).toInt ∧ (s 12 (s 6 (o * 20 + n)).toNatClampNeg).toInt = o) ∧
  (∀ i j : Nat, (i : Int) < (s 20 2).toInt → (j : Int) < (s 20 2).toInt → ∀ o : Nat, o < 10 → bt_ (s 21 i) o = true → bt_ (s 21 j) o = true → i = j)
theorem Tb.c4 {s t : Sg} (h : Tb s t) : ∀ j, t 4 j = s 4 j := h.1
theorem Tb.c10 {s t : Sg} (h : Tb s t) : ∀ j, t 10 j = s 10 j := h.2.1
theorem Tb.c15 {s t : Sg} (h : Tb s t) : ∀ j, t 15 j = s 15 j := h.2.2.1
theorem Tb.c16 {s t : Sg} (h : Tb s t) : ∀ j, t 16 j = s 16 j := h.2.2.2.1
theorem Tb.c17 {s t : Sg} (h : Tb s t) : ∀ j, t 17 j = s 17 j := h.2.2.2.2.1
theorem Tb.c18 {s t : Sg} (h : Tb s t) : ∀ j, t 18 j = s 18 j := h.2.2.2.2.2.1
theorem Tb.c19 {s t : Sg} (h : Tb s t) : ∀ j, t 19 j = s 19 j := h.2.2.2.2.2.2.1
theorem Tb.c20 {s t : Sg} (h : Tb s t) : t 20 2 = s 20 2 := h.2.2.2.2.2.2.2.1
theorem Tb.c21 {s t : Sg} (h : Tb s t) : ∀ j, t 21 j = s 21 j := h.2.2.2.2.2.2.2.2.1
theorem Tb.c22 {s t : Sg} (h : Tb s t) : ∀ j, t 22 j = s 22 j := h.2.2.2.2.2.2.2.2.2.1
theorem Tb.ns0 {s t : Sg} (h : Tb s t) : 0 ≤ (s 11 8).toInt := h.2.2.2.2.2.2.2.2.2.2.1
theorem Tb.ns1 {s t : Sg} (h : Tb s t) : (s 11 8).toInt ≤ (t 11 8).toInt := h.2.2.2.2.2.2.2.2.2.2.2.1
theorem Tb.ns2 {s t : Sg} (h : Tb s t) : (t 11 8).toInt ≤ 24 := h.2.2.2.2.2.2.2.2.2.2.2.2.1
theorem Tb.no0 {s t : Sg} (h : Tb s t) : 0 ≤ (s 1 9).toInt := h.2.2.2.2.2.2.2.2.2.2.2.2.2.1
theorem Tb.no1 {s t : Sg} (h : Tb s t) : (s 1 9).toInt ≤ (t 1 9).toInt := h.2.2.2.2.2.2.2.2.2.2.2.2.2.2.1
theorem Tb.no2 {s t : Sg} (h : Tb s t) : (t 1 9).toInt ≤ 10 := h.2.2.2.2.2.2.2.2.2.2.2.2.2.2.2.1
theorem Tb.r12 {s t : Sg} (h : Tb s t) : ∀ j : Nat, (j : Int) < (s 11 8).toInt → t 12 j = s 12 j := h.2.2.2.2.2.2.2.2.2.2.2.2.2.2.2.2.1
theorem Tb.r13 {s t : Sg} (h : Tb s t) : ∀ j : Nat, (j : Int) < (s 11 8).toInt → t 13 j = s 13 j := h.2.2.2.2.2.2.2.2.2.2.2.2.2.2.2.2.2.1
theorem Tb.r14 {s t : Sg} (h : Tb s t) : ∀ j : Nat, (j : Int) < (s 11 8).toInt → t 14 j = s 14 j := h.2.2.2.2.2.2.2.2.2.2.2.2.2.2.2.2.2.2.1
theorem Tb.e14 {s t : Sg} (h : Tb s t) : ∀ j : Nat, (s 11 8).toInt ≤ j → j < 24 → t 14 j = 0 := h.2.2.2.2.2.2.2.2.2.2.2.2.2.2.2.2.2.2.2.1
theorem Tb.r2 {s t : Sg} (h : Tb s t) : ∀ j : Nat, (j : Int) < (s 1 9).toInt → t 2 j = s 2 j := h.2.2.2.2.2.2.2.2.2.2.2.2.2.2.2.2.2.2.2.2.1
theorem Tb.r3 {s t : Sg} (h : Tb s t) : ∀ j : Nat, (j : Int) < (s 1 9).toInt → t 3 j = s 3 j := h.2.2.2.2.2.2.2.2.2.2.2.2.2.2.2.2.2.2.2.2.2.1
theorem Tb.r5 {s t : Sg} (h : Tb s t) : ∀ j : Nat, (j : Int) < 20 * (s 1 9).toInt → t 5 j = s 5 j := h.2.2.2.2.2.2.2.2.2.2.2.2.2.2.2.2.2.2.2.2.2.2.1
theorem Tb.r6 {s t : Sg} (h : Tb s t) : ∀ j : Nat, (j : Int) < 20 * (s 1 9).toInt → t 6 j = s 6 j := h.2.2.2.2.2.2.2.2.2.2.2.2.2.2.2.2.2.2.2.2.2.2.2.1
theorem Tb.r7 {s t : Sg} (h : Tb s t) : ∀ j : Nat, (j : Int) < 20 * (s 1 9).toInt → t 7 j = s 7 j := h.2.2.2.2.2.2.2.2.2.2.2.2.2.2.2.2.2.2.2.2.2.2.2.2.1
theorem Tb.r8 {s t : Sg} (h : Tb s t) : ∀ j : Nat, (j : Int) < 20 * (s 1 9).toInt → t 8 j = s 8 j := h.2.2.2.2.2.2.2.2.2.2.2.2.2.2.2.2.2.2.2.2.2.2.2.2.2.1
theorem Tb.r9 {s t : Sg} (h : Tb s t) : ∀ j : Nat, (j : Int) < 20 * (s 1 9).toInt → t 9 j = s 9 j := h.2.2.2.2.2.2.2.2.2.2.2.2.2.2.2.2.2.2.2.2.2.2.2.2.2.2.1
theorem Tb.it0 {s t : Sg} (h : Tb s t) : 0 ≤ (s 20 2).toInt := h.2.2.2.2.2.2.2.2.2.2.2.2.2.2.2.2.2.2.2.2.2.2.2.2.2.2.2.1
theorem Tb.it1 {s t : Sg} (h : Tb s t) : (s 20 2).toInt ≤ 8 := h.2.2.2.2.2.2.2.2.2.2.2.2.2.2.2.2.2.2.2.2.2.2.2.2.2.2.2.2.1
theorem Tb.it {s t : Sg} (h : Tb s t) : ∀ i : Nat, (i : Int) < (s 20 2).toInt → ∀ o : Nat, o < 10 → bt_ (s 21 i) o = true → (o : Int) < (s 1 9).toInt := h.2.2.2.2.2.2.2.2.2.2.2.2.2.2.2.2.2.2.2.2.2.2.2.2.2.2.2.2.2.1
theorem Tb.p8 {s t : Sg} (h : Tb s t) : ∀ j : Nat, (j : Int) < (s 11 8).toInt → 0 ≤ (s 15 j).toInt ∧ (s 15 j).toInt ≤ 8 := h.2.2.2.2.2.2.2.2.2.2.2.2.2.2.2.2.2.2.2.2.2.2.2.2.2.2.2.2.2.2.1
theorem Tb.o12 {s t : Sg} (h : Tb s t) : ∀ j : Nat, (j : Int) < (s 11 8).toInt → 0 ≤ (s 12 j).toInt := h.2.2.2.2.2.2.2.2.2.2.2.2.2.2.2.2.2.2.2.2.2.2.2.2.2.2.2.2.2.2.2.1
theorem Tb.vs {s t : Sg} (h : Tb s t) : ∀ o n : Nat, (o : Int) < (s 1 9).toInt → n < 20 → bt_ (s 2 o) n = true → ¬ s 5 (o * 20 + n) = 1 → 0 ≤ (s 6 (o * 20 + n)).toInt ∧ (s 6 (o * 20 + n)).toInt < (s 11 8).toInt ∧ (s 12 (s 6 (o * 20 + n)).toNatClampNeg).toInt = o := h.2.2.2.2.2.2.2.2.2.2.2.2.2.2.2.2.2.2.2.2.2.2.2.2.2.2.2.2.2.2.2.2.1
theorem Tb.dj {s t : Sg} (h : Tb s t) : ∀ i j : Nat, (i : Int) < (s 20 2).toInt → (j : Int) < (s 20 2).toInt → ∀ o : Nat, o < 10 → bt_ (s 21 i) o = true → bt_ (s 21 j) o = true → i = j := h.2.2.2.2.2.2.2.2.2.2.2.2.2.2.2.2.2.2.2.2.2.2.2.2.2.2.2.2.2.2.2.2.2
theorem Tb.of {s t s' t' : Sg} (hs : ∀ k j, k < 23 → s' k j = s k j) (ht : ∀ k j, k < 23 → t' k j = t k j) (h : Tb s t) : Tb s' t' := by
  have e11 := hs 11 8 (by decide); have e1 := hs 1 9 (by decide); have f11 := ht 11 8 (by decide); have f1 := ht 1 9 (by decide); have e20 := hs 20 2 (by decide)
  refine ⟨?_, ?_, ?_, ?_, ?_, ?_, ?_, ?_, ?_, ?_, ?_, ?_, ?_, ?_, ?_, ?_, ?_, ?_, ?_, ?_, ?_, ?_, ?_, ?_, ?_, ?_, ?_, ?_, ?_, ?_, ?_, ?_, ?_, ?_⟩
  all_goals first
    | (intro j; rw [hs _ _ (by decide), ht _ _ (by decide)]; first | exact h.c4 j | exact h.c10 j | exact h.c15 j | exact h.c16 j | exact h.c17 j | exact h.c18 j | exact h.c19 j | exact h.c21 j | exact h.c22 j)
    | (rw [hs _ _ (by decide), ht _ _ (by decide)]; exact h.c20)
    | (rw [e11]; exact h.ns0)
    | (rw [e11, f11]; exact h.ns1)
    | (rw [f11]; exact h.ns2)
    | (rw [e1]; exact h.no0)
    | (rw [e1, f1]; exact h.no1)
    | (rw [f1]; exact h.no2)
    | (rw [e20]; exact h.it0)
    | (rw [e20]; exact h.it1)
    | (rw [e11]; intro j hj; rw [hs _ _ (by decide), ht _ _ (by decide)]; first | exact h.r12 j hj | exact h.r13 j hj | exact h.r14 j hj)
    | (rw [e11]; intro j hj hk; rw [ht _ _ (by decide)]; exact h.e14 j hj hk)
    | (rw [e1]; intro j hj; rw [hs _ _ (by decide), ht _ _ (by decide)]; first | exact h.r2 j hj | exact h.r3 j hj | exact h.r5 j hj | exact h.r6 j hj | exact h.r7 j hj | exact h.r8 j hj | exact h.r9 j hj)
    | (rw [e1, e20]; intro i hi o ho hb; rw [hs _ _ (by decide)] at hb; exact h.it i hi o ho hb)
    | (rw [e1, e11]; intro o n ho hn hb hk; rw [hs _ _ (by decide)] at hb hk; rw [hs 6 _ (by decide), hs 12 _ (by decide)]; exact h.vs o n ho hn hb hk)
    | (rw [e11]; intro j hj; rw [hs _ _ (by decide)]; first | exact h.p8 j hj | exact h.o12 j hj)
    | (rw [e20]; intro i j hi hj o ho hb hc; rw [hs _ _ (by decide)] at hb hc; exact h.dj i j hi hj o ho hb hc)
/-- the objects taken so far -/
def Tk (q : Nat) (s t : Sg) : Prop :=
  (Tb s t) ∧
  (t (q + 3) 3 = s (q + 3) 3) ∧
  (t (q + 3) 4 = s (q + 3) 4) ∧
  (t (q + 3) 5 = s (q + 3) 5) ∧
  (t (q + 3) 6 = s (q + 3) 6) ∧
  (0 ≤ (s (q + 3) 3).toInt) ∧
  ((s (q + 3) 3).toInt ≤ 10) ∧
  (∀ j : Nat, (j : Int) < (s (q + 3) 3).toInt → t (q + 4) j = s (q + 4) j ∧ 0 ≤ (s (q + 4) j).toInt ∧ (s (q + 4) j).toInt < (s 1 9).toInt ∧ bt_ (s (q + 3) 4) (s (q + 4) j).toNatClampNeg = true) ∧
  (∀ i j : Nat, i < j → (j : Int) < (s (q + 3) 3).toInt → s (q + 4) i ≠ s (q + 4) j) ∧
  (∀ o : Nat, o < 32 → bt_ (s (q + 3) 4) o = true → ∃ j : Nat, (j : Int) < (s (q + 3) 3).toInt ∧ (s (q + 4) j).toNatClampNeg = o)
theorem Tk.tb {q : Nat} {s t : Sg} (h : Tk q s t) : Tb s t := h.1
theorem Tk.n {q : Nat} {s t : Sg} (h : Tk q s t) : t (q + 3) 3 = s (q + 3) 3 := h.2.1
theorem Tk.b {q : Nat} {s t : Sg} (h : Tk q s t) : t (q + 3) 4 = s (q + 3) 4 := h.2.2.1
theorem Tk.w {q : Nat} {s t : Sg} (h : Tk q s t) : t (q + 3) 5 = s (q + 3) 5 := h.2.2.2.1
theorem Tk.d {q : Nat} {s t : Sg} (h : Tk q s t) : t (q + 3) 6 = s (q + 3) 6 := h.2.2.2.2.1
theorem Tk.n0 {q : Nat} {s t : Sg} (h : Tk q s t) : 0 ≤ (s (q + 3) 3).toInt := h.2.2.2.2.2.1
theorem Tk.n1 {q : Nat} {s t : Sg} (h : Tk q s t) : (s (q + 3) 3).toInt ≤ 10 := h.2.2.2.2.2.2.1
theorem Tk.ob {q : Nat} {s t : Sg} (h : Tk q s t) : ∀ j : Nat, (j : Int) < (s (q + 3) 3).toInt → t (q + 4) j = s (q + 4) j ∧ 0 ≤ (s (q + 4) j).toInt ∧ (s (q + 4) j).toInt < (s 1 9).toInt ∧ bt_ (s (q + 3) 4) (s (q + 4) j).toNatClampNeg = true := h.2.2.2.2.2.2.2.1
theorem Tk.di {q : Nat} {s t : Sg} (h : Tk q s t) : ∀ i j : Nat, i < j → (j : Int) < (s (q + 3) 3).toInt → s (q + 4) i ≠ s (q + 4) j := h.2.2.2.2.2.2.2.2.1
theorem Tk.cb {q : Nat} {s t : Sg} (h : Tk q s t) : ∀ o : Nat, o < 32 → bt_ (s (q + 3) 4) o = true → ∃ j : Nat, (j : Int) < (s (q + 3) 3).toInt ∧ (s (q + 4) j).toNatClampNeg = o := h.2.2.2.2.2.2.2.2.2
theorem Tk.of {q : Nat} {s t s' t' : Sg} (hs : ∀ k j, k < 23 ∨ k = q + 3 ∨ k = q + 4 → s' k j = s k j) (ht : ∀ k j, k < 23 ∨ k = q + 3 ∨ k = q + 4 → t' k j = t k j) (h : Tk q s t) : Tk q s' t' := by
  have a := fun j => hs (q + 3) j (by omega); have b := fun j => ht (q + 3) j (by omega); have c := fun j => hs (q + 4) j (by omega); have d := fun j => ht (q + 4) j (by omega)
  refine ⟨h.tb.of (fun k j hk => hs k j (by omega)) (fun k j hk => ht k j (by omega)), ?_, ?_, ?_, ?_, ?_, ?_, ?_, ?_, ?_⟩
  · rw [a, b]; exact h.n
  · rw [a, b]; exact h.b
  · rw [a, b]; exact h.w
  · rw [a, b]; exact h.d
  · rw [a]; exact h.n0
  · rw [a]; exact h.n1
  · rw [a, a, hs 1 9 (by omega)]; intro j hj; rw [c, d]; exact h.ob j hj
  · rw [a]; intro i j hi hj; rw [c, c]; exact h.di i j hi hj
  · rw [a, a]; intro o ho hb; obtain ⟨j, h1, h2⟩ := h.cb o ho hb; exact ⟨j, h1, by rw [c]; exact h2⟩
theorem add_3 {q : Nat} (hq : q = 38 ∨ q = 60) {s : Sg} {o : Int32} (hc : (s (q + 3) 3) < 10) : (D_X10_add q s o) (q + 3) 3 = s (q + 3) 3 + 1 ∧ (D_X10_add q s o) (q + 3) 4 = s (q + 3) 4 ||| (1 <<< (o &&& 31)) ∧ (D_X10_add q s o) (q + 3) 5 = s (q + 3) 5 ||| D_X6_needed s o ∧ (D_X10_add q s o) (q + 3) 6 = s (q + 3) 6 ||| D_X6_defined s o ∧ ∀ j, (D_X10_add q s o) (q + 4) j = if j = (s (q + 3) 3).toNatClampNeg then o else s (q + 4) j := by
  unfold D_X10_add
  rw [if_pos hc]
  rcases hq with rfl | rfl <;> simp [up_at, D_X6_needed, D_X6_defined]
theorem needed_eq {s t : Sg} (h : Tb s t) {o : Int32} : D_X6_needed t o = D_X6_needed s o := by
  unfold D_X6_needed; rw [h.c4]
theorem defined_eq {s t : Sg} (h : Tb s t) {o : Int32} (ho : rg o 10) (ho' : o.toInt < (s 1 9).toInt) : D_X6_defined t o = D_X6_defined s o := by
  unfold D_X6_defined
  rw [h.r2 _ (by rw [tn]; have := ho.1; omega)]
theorem offered_eq {s t : Sg} (h : Tb s t) {o : Int32} (ho : rg o 10) (ho' : o.toInt < (s 1 9).toInt) : D_X6_offered t o = D_X6_offered s o := by
  unfold D_X6_offered
  rw [h.r3 _ (by rw [tn]; have := ho.1; omega)]
theorem tk_add {q : Nat} (hq : q = 38 ∨ q = 60) {s t : Sg} (h : Tk q s t) {o : Int32} (ho : rg o 10) (ho' : o.toInt < (s 1 9).toInt) (hn : bt_ (s (q + 3) 4) o.toNatClampNeg = false) : Tk q (D_X10_add q s o) (D_X10_add q t o) := by
  by_cases hc : s (q + 3) 3 < 10
  · obtain ⟨a3, a4, a5, a6, aj⟩ := add_3 hq (o := o) hc
    obtain ⟨b3, b4, b5, b6, bj⟩ := add_3 hq (s := t) (o := o) (by rw [h.n]; exact hc)
    have fs : ∀ k j, k < 23 → (D_X10_add q s o) k j = s k j := fun k j hk => fw_X10_add (by omega) (by omega) (by omega) (by omega) (by omega)
    have ft : ∀ k j, k < 23 → (D_X10_add q t o) k j = t k j := fun k j hk => fw_X10_add (by omega) (by omega) (by omega) (by omega) (by omega)
    have hc' := i_lt2 (n := 10) hc rfl
    have hi : (s (q + 3) 3 + 1).toInt = (s (q + 3) 3).toInt + 1 := i_add1 (by omega)
    have hn0 := h.n0
    have hN : (s (q + 3) 3).toNatClampNeg = (s (q + 3) 3).toInt.toNat := rfl
    have ho0 := ho.1
    have ho1 := ho.2
    have r32 : rg o 32 := ⟨ho0, by omega⟩
    refine ⟨h.tb.of fs ft, ?_, ?_, ?_, ?_, ?_, ?_, ?_, ?_, ?_⟩
    · rw [a3, b3, h.n]
    · rw [a4, b4, h.b]
    · rw [a5, b5, h.w, needed_eq h.tb]
    · rw [a6, b6, h.d, defined_eq h.tb ho ho']
    · rw [a3, hi]; omega
    · rw [a3, hi]; omega
    · rw [a3, hi]
      intro j hj
      rw [aj, bj, a4, h.n, fs 1 9 (by decide)]
      by_cases hj2 : j = (s (q + 3) 3).toNatClampNeg
      · rw [if_pos hj2, if_pos hj2]
        refine ⟨rfl, ho0, ho', ?_⟩
        rw [bt_set r32 (by rw [tn]; omega)]
        simp
      · rw [if_neg hj2, if_neg hj2]
        obtain ⟨c1, c2, c3, c4⟩ := h.ob j (by omega)
        refine ⟨c1, c2, c3, ?_⟩
        rw [bt_set r32 (by rw [tn]; have := h.tb.no1; have := h.tb.no2; omega), c4]
        rfl
    · rw [a3, hi]
      intro i j hij hj
      rw [aj, aj]
      rw [if_neg (show ¬ i = (s (q + 3) 3).toNatClampNeg by omega)]
      by_cases hj2 : j = (s (q + 3) 3).toNatClampNeg
      · rw [if_pos hj2]
        intro e
        obtain ⟨c1, c2, c3, c4⟩ := h.ob i (by omega)
        rw [e, hn] at c4
        cases c4
      · rw [if_neg hj2]
        exact h.di i j hij (by omega)
    · rw [a3, a4, hi]
      intro p hp hb
      rw [bt_set r32 (by omega)] at hb
      rcases (Bool.or_eq_true _ _).mp hb with z | z
      · obtain ⟨j, h1, h2⟩ := h.cb p hp z
        exact ⟨j, by omega, by rw [aj, if_neg (show ¬ j = (s (q + 3) 3).toNatClampNeg by omega)]; exact h2⟩
      · have e := of_decide_eq_true z
        exact ⟨(s (q + 3) 3).toNatClampNeg, by omega, by rw [aj, if_pos rfl]; exact e.symm⟩
  · have e1 : D_X10_add q s o = s := by unfold D_X10_add; rw [if_neg hc]
    have e2 : D_X10_add q t o = t := by unfold D_X10_add; rw [if_neg (by rw [h.n]; exact hc)]
    rw [e1, e2]; exact h
theorem bt_not {a : Int32} {k : Nat} (hk : k < 32) : bt_ (a ^^^ (-1)) k = !bt_ a k := by
  unfold bt_
  rw [Int32.toBitVec_xor, BitVec.getLsbD_xor, show (-1 : Int32).toBitVec = BitVec.allOnes 32 from rfl, BitVec.getLsbD_allOnes]
  simp [hk]
theorem rg_of {x : Int32} {n : Nat} (h0 : 0 ≤ x.toInt) (h1 : x.toInt < n) : rg x n := ⟨h0, h1⟩
theorem tk_all {q : Nat} (hq : q = 38 ∨ q = 60) {s t : Sg} (h : Tk q s t) {a : Int32} (ha : ∀ o : Nat, o < 10 → bt_ a o = true → (o : Int) < (s 1 9).toInt ∧ bt_ (s (q + 3) 4) o = false) :
    Tk q (D_X10_takeAll q s a) (D_X10_takeAll q t a) ∧ ∀ o : Nat, o < 10 → bt_ ((D_X10_takeAll q s a) (q + 3) 4) o = true → bt_ (s (q + 3) 4) o = true ∨ bt_ a o = true := by
  unfold D_X10_takeAll R_X10_takeAll_27
  refine lpB (I := fun x s1 t1 => Tk q s1 t1 ∧ s1 1 9 = s 1 9 ∧ ∀ o : Nat, o < 10 → bt_ (s1 (q + 3) 4) o = true → bt_ (s (q + 3) 4) o = true ∨ (bt_ a o = true ∧ (o : Int) < x.toInt)) (J := fun s1 t1 => Tk q s1 t1 ∧ ∀ o : Nat, o < 10 → bt_ (s1 (q + 3) 4) o = true → bt_ (s (q + 3) 4) o = true ∨ bt_ a o = true) 10 (by decide) (fun x s1 t1 h0 hI => ?_) (by decide) (by decide) ⟨h, rfl, fun o ho hb => Or.inl hb⟩
  obtain ⟨hk, hn, hb⟩ := hI
  by_cases c0 : 10 ≤ x
  · exact Or.inl ⟨x, x, s1, t1, if_pos c0, if_pos c0, hk, fun o ho hb' => (hb o ho hb').imp id (fun z => z.1)⟩
  · have hx : x.toInt < 10 := i_lt c0 rfl
    have hx1 : (x + 1).toInt = x.toInt + 1 := i_add1 (by omega)
    refine Or.inr (Or.inl ⟨hx, ?_⟩)
    by_cases c1 : D_X11_hasBit a x = 0
    · exact ⟨s1, t1, (if_neg c0).trans (if_pos c1), (if_neg c0).trans (if_pos c1), hk, hn, fun o ho hb' => (hb o ho hb').imp id (fun z => ⟨z.1, by omega⟩)⟩
    · have r32 : rg x 32 := ⟨h0, by omega⟩
      have c2 := (hb_n r32).mp c1
      obtain ⟨a1, a2⟩ := ha _ (by rw [tn]; omega) c2
      have hfr : bt_ (s1 (q + 3) 4) x.toNatClampNeg = false := by
        cases hc : bt_ (s1 (q + 3) 4) x.toNatClampNeg with
        | false => rfl
        | true =>
          rcases hb _ (by rw [tn]; omega) hc with z | z
          · rw [a2] at z; cases z
          · have := z.2; rw [tn] at this; omega
      refine ⟨_, _, (if_neg c0).trans (if_neg c1), (if_neg c0).trans (if_neg c1), tk_add hq hk ⟨h0, hx⟩ (by rw [hn]; rw [tn] at a1; omega) hfr, ?_, ?_⟩
      · rw [fw_X10_add (by omega) (by omega) (by omega) (by omega) (by omega)]; exact hn
      · intro o ho hb'
        by_cases hc : s1 (q + 3) 3 < 10
        · rw [(add_3 hq hc).2.1, bt_set r32 (by omega)] at hb'
          rcases (Bool.or_eq_true _ _).mp hb' with z | z
          · exact (hb o ho z).imp id (fun z => ⟨z.1, by omega⟩)
          · have e := of_decide_eq_true z
            subst e
            exact Or.inr ⟨c2, by rw [tn]; omega⟩
        · rw [show D_X10_add q s1 x = s1 from if_neg hc] at hb'
          exact (hb o ho hb').imp id (fun z => ⟨z.1, by omega⟩)
theorem tk_wanted {q : Nat} (hq : q = 38 ∨ q = 60) {s t : Sg} (h : Tk q s t) {a : Int32} (ha : ∀ o : Nat, o < 10 → bt_ a o = true → (o : Int) < (s 1 9).toInt) :
    Tk q (D_X10_takeWanted q s a) (D_X10_takeWanted q t a) ∧ ∀ o : Nat, o < 10 → bt_ ((D_X10_takeWanted q s a) (q + 3) 4) o = true → bt_ (s (q + 3) 4) o = true ∨ bt_ a o = true := by
  unfold D_X10_takeWanted R_X10_takeWanted_57
  refine lpB (I := fun x s1 t1 => Tk q s1 t1 ∧ s1 1 9 = s 1 9 ∧ ∀ o : Nat, o < 10 → bt_ (s1 (q + 3) 4) o = true → bt_ (s (q + 3) 4) o = true ∨ bt_ a o = true) (J := fun s1 t1 => Tk q s1 t1 ∧ ∀ o : Nat, o < 10 → bt_ (s1 (q + 3) 4) o = true → bt_ (s (q + 3) 4) o = true ∨ bt_ a o = true) 10 (by decide) (fun x s1 t1 h0 hI => ?_) (by decide) (by decide) ⟨h, rfl, fun o ho hb => Or.inl hb⟩
  obtain ⟨hk, hn, hb⟩ := hI
  by_cases c0 : 10 ≤ x
  · exact Or.inl ⟨x, x, s1, t1, if_pos c0, if_pos c0, hk, hb⟩
  · have hx : x.toInt < 10 := i_lt c0 rfl
    refine Or.inr (Or.inl ⟨hx, ?_⟩)
    have r32 : rg x 32 := ⟨h0, by omega⟩
    by_cases c1 : D_X11_hasBit (a &&& ((s1 (q + 3) 4) ^^^ (-1))) x = 0
    · exact ⟨s1, t1, (if_neg c0).trans (if_pos c1), (if_neg c0).trans (if_pos (by rw [hk.b]; exact c1)), hk, hn, hb⟩
    · have c2 := (hb_n r32).mp c1
      rw [bt_and, bt_not (by rw [tn]; omega), Bool.and_eq_true] at c2
      have a1 := ha _ (by rw [tn]; omega) c2.1
      have hno : x.toInt < (s1 1 9).toInt := by rw [hn]; rw [tn] at a1; omega
      have e1 : D_X6_offered t1 x = D_X6_offered s1 x := offered_eq hk.tb ⟨h0, hx⟩ hno
      by_cases c3 : (((D_X6_offered s1 x) &&& (s1 (q + 3) 5)) &&& ((s1 (q + 3) 6) ^^^ (-1))) = 0
      · exact ⟨s1, t1, (if_neg c0).trans ((if_neg c1).trans (if_pos c3)), (if_neg c0).trans ((if_neg (by rw [hk.b]; exact c1)).trans (if_pos (by rw [e1, hk.w, hk.d]; exact c3))), hk, hn, hb⟩
      · have hfr : bt_ (s1 (q + 3) 4) x.toNatClampNeg = false := by
          have := c2.2
          cases hc : bt_ (s1 (q + 3) 4) x.toNatClampNeg with
          | false => rfl
          | true => rw [hc] at this; cases this
        refine ⟨_, _, (if_neg c0).trans ((if_neg c1).trans (if_neg c3)), (if_neg c0).trans ((if_neg (by rw [hk.b]; exact c1)).trans (if_neg (by rw [e1, hk.w, hk.d]; exact c3))), tk_add hq hk ⟨h0, hx⟩ hno hfr, ?_, ?_⟩
        · rw [fw_X10_add (by omega) (by omega) (by omega) (by omega) (by omega)]; exact hn
        · intro o ho hb'
          by_cases hc : s1 (q + 3) 3 < 10
          · rw [(add_3 hq hc).2.1, bt_set r32 (by omega)] at hb'
            rcases (Bool.or_eq_true _ _).mp hb' with z | z
            · exact hb o ho z
            · have e := of_decide_eq_true z
              subst e
              exact Or.inr c2.1
          · rw [show D_X10_add q s1 x = s1 from if_neg hc] at hb'
            exact hb o ho hb'
