def St (q : Nat) (s t : Sg) : Prop :=
  (Tk q s t) ∧
  (t (q + 5) 8 = s (q + 5) 8) ∧
  (t (q + 5) 9 = s (q + 5) 9) ∧
  (∀ j : Nat, j < 20 → t (q + 6) j = s (q + 6) j) ∧
  (∀ j : Nat, j < 20 → t (q + 7) j = s (q + 7) j) ∧
  (∀ j : Nat, j < 20 → t (q + 8) j = s (q + 8) j) ∧
  (∀ j : Nat, j < 20 → t (q + 9) j = s (q + 9) j) ∧
  (∀ j : Nat, j < 20 → ¬ s (q + 6) j = -1 → t (q + 10) j = s (q + 10) j) ∧
  (∀ j : Nat, j < 20 → ¬ s (q + 6) j = -1 → t (q + 11) j = s (q + 11) j) ∧
  (∀ j : Nat, j < 20 → ¬ s (q + 6) j = -1 → ¬ s (q + 6) j = 1 → 0 ≤ (s (q + 8) j).toInt ∧ (s (q + 8) j).toInt < (s 11 8).toInt ∧ bt_ (s (q + 3) 4) (s 12 (s (q + 8) j).toNatClampNeg).toNatClampNeg = true)
theorem St.tk {q : Nat} {s t : Sg} (h : St q s t) : Tk q s t := h.1
theorem St.h8 {q : Nat} {s t : Sg} (h : St q s t) : t (q + 5) 8 = s (q + 5) 8 := h.2.1
theorem St.h9 {q : Nat} {s t : Sg} (h : St q s t) : t (q + 5) 9 = s (q + 5) 9 := h.2.2.1
theorem St.k6 {q : Nat} {s t : Sg} (h : St q s t) : ∀ j : Nat, j < 20 → t (q + 6) j = s (q + 6) j := h.2.2.2.1
theorem St.k7 {q : Nat} {s t : Sg} (h : St q s t) : ∀ j : Nat, j < 20 → t (q + 7) j = s (q + 7) j := h.2.2.2.2.1
theorem St.k8 {q : Nat} {s t : Sg} (h : St q s t) : ∀ j : Nat, j < 20 → t (q + 8) j = s (q + 8) j := h.2.2.2.2.2.1
theorem St.k9 {q : Nat} {s t : Sg} (h : St q s t) : ∀ j : Nat, j < 20 → t (q + 9) j = s (q + 9) j := h.2.2.2.2.2.2.1
theorem St.k10 {q : Nat} {s t : Sg} (h : St q s t) : ∀ j : Nat, j < 20 → ¬ s (q + 6) j = -1 → t (q + 10) j = s (q + 10) j := h.2.2.2.2.2.2.2.1
theorem St.k11 {q : Nat} {s t : Sg} (h : St q s t) : ∀ j : Nat, j < 20 → ¬ s (q + 6) j = -1 → t (q + 11) j = s (q + 11) j := h.2.2.2.2.2.2.2.2.1
theorem St.sv {q : Nat} {s t : Sg} (h : St q s t) : ∀ j : Nat, j < 20 → ¬ s (q + 6) j = -1 → ¬ s (q + 6) j = 1 → 0 ≤ (s (q + 8) j).toInt ∧ (s (q + 8) j).toInt < (s 11 8).toInt ∧ bt_ (s (q + 3) 4) (s 12 (s (q + 8) j).toNatClampNeg).toNatClampNeg = true := h.2.2.2.2.2.2.2.2.2
theorem St.of {q : Nat} {s t s' t' : Sg} (hs : ∀ k j, k < 23 ∨ (q + 3 ≤ k ∧ k ≤ q + 11) → s' k j = s k j) (ht : ∀ k j, k < 23 ∨ (q + 3 ≤ k ∧ k ≤ q + 11) → t' k j = t k j) (h : St q s t) : St q s' t' := by
  have a5 := fun j => hs (q + 5) j (by omega); have b5 := fun j => ht (q + 5) j (by omega)
  have a6 := fun j => hs (q + 6) j (by omega); have b6 := fun j => ht (q + 6) j (by omega)
  have a7 := fun j => hs (q + 7) j (by omega); have b7 := fun j => ht (q + 7) j (by omega)
  have a8 := fun j => hs (q + 8) j (by omega); have b8 := fun j => ht (q + 8) j (by omega)
  have a9 := fun j => hs (q + 9) j (by omega); have b9 := fun j => ht (q + 9) j (by omega)
  have a10 := fun j => hs (q + 10) j (by omega); have b10 := fun j => ht (q + 10) j (by omega)
  have a11 := fun j => hs (q + 11) j (by omega); have b11 := fun j => ht (q + 11) j (by omega)
  refine ⟨h.tk.of (fun k j hk => hs k j (by omega)) (fun k j hk => ht k j (by omega)), ?_, ?_, ?_, ?_, ?_, ?_, ?_, ?_, ?_⟩
  · rw [a5, b5]; exact h.h8
  · rw [a5, b5]; exact h.h9
  · intro j hj; rw [a6, b6]; exact h.k6 j hj
  · intro j hj; rw [a7, b7]; exact h.k7 j hj
  · intro j hj; rw [a8, b8]; exact h.k8 j hj
  · intro j hj; rw [a9, b9]; exact h.k9 j hj
  · intro j hj; rw [a6, a10, b10]; exact h.k10 j hj
  · intro j hj; rw [a6, a11, b11]; exact h.k11 j hj
  · intro j hj; rw [a6, a8, hs 11 8 (by omega), hs (q + 3) 4 (by omega), hs 12 _ (by omega)]; exact h.sv j hj
theorem ad_at {q : Nat} {s : Sg} {n o k : Int32} :
    (∀ j, (ad q s n o k) (q + 6) j = if j = n.toNatClampNeg then k else s (q + 6) j) ∧
    (∀ j, (ad q s n o k) (q + 7) j = if j = n.toNatClampNeg then (if k = 1 then -1 else o) else s (q + 7) j) ∧
    (∀ j, (ad q s n o k) (q + 8) j = if j = n.toNatClampNeg then D_X6_sectionOf s o n else s (q + 8) j) ∧
    (∀ j, (ad q s n o k) (q + 9) j = if j = n.toNatClampNeg then D_X6_placeOf s o n else s (q + 9) j) ∧
    (∀ j, (ad q s n o k) (q + 10) j = if j = n.toNatClampNeg then D_X6_size s o n else s (q + 10) j) ∧
    (∀ j, (ad q s n o k) (q + 11) j = if j = n.toNatClampNeg then D_X6_align s o n else s (q + 11) j) ∧
    (ad q s n o k) (q + 5) 8 = (if D_X6_isHidden s o n = 0 then ((s (q + 5) 8) &&& ((1 <<< (n &&& 31)) ^^^ (-1))) else ((s (q + 5) 8) ||| (1 <<< (n &&& 31)))) ∧
    (ad q s n o k) (q + 5) 9 = s (q + 5) 9 ∧
    (∀ i j, i < q + 5 → (ad q s n o k) i j = s i j) := by
  unfold ad
  refine ⟨?_, ?_, ?_, ?_, ?_, ?_, ?_, ?_, ?_⟩
  · intro j; simp [up_at]
  · intro j; simp [up_at]
  · intro j; simp [up_at]
  · intro j; simp [up_at]
  · intro j; simp [up_at]
  · intro j; simp [up_at]
  · simp [up_at]
  · simp [up_at]
  · intro i j hi
    rw [up_ne (by omega), up_ne (by omega), up_ne (by omega), up_ne (by omega), up_ne (by omega), up_ne (by omega), up_ne (by omega)]
theorem kind_at {s : Sg} {o n : Int32} (ho : rg o 10) (h1 : o.toInt < (s 1 9).toInt) (hn : rg n 20) (hk : ¬ D_X6_kind s o n = -1) : bt_ (s 2 o.toNatClampNeg) n.toNatClampNeg = true ∧ D_X6_kind s o n = s 5 (o.toNatClampNeg * 20 + n.toNatClampNeg) ∧ D_X6_sectionOf s o n = s 6 (o.toNatClampNeg * 20 + n.toNatClampNeg) := by
  have e := on_at ho hn
  have hs : D_X6_sectionOf s o n = s 6 (o.toNatClampNeg * 20 + n.toNatClampNeg) := by
    unfold D_X6_sectionOf
    rw [if_neg (has_no ho h1), if_neg (isName_rg hn), e]
  unfold D_X6_kind at hk ⊢
  rw [if_neg (has_no ho h1), if_neg (isName_rg hn)] at hk ⊢
  by_cases c : D_X11_hasBit (s 2 o.toNatClampNeg) n = 0
  · rw [if_pos c] at hk; exact absurd rfl hk
  · rw [if_neg c, e]
    exact ⟨(hb_n ⟨hn.1, by have := hn.2; omega⟩).mp c, rfl, hs⟩
theorem st_ad {q : Nat} (hq : q = 38 ∨ q = 60) {s t : Sg} (h : St q s t) {n o : Int32} (hn : rg n 20) (ho : rg o 10) (h1 : o.toInt < (s 1 9).toInt) (hk : ¬ D_X6_kind s o n = -1) (hbt : bt_ (s (q + 3) 4) o.toNatClampNeg = true) : St q (ad q s n o (D_X6_kind s o n)) (ad q t n o (D_X6_kind s o n)) := by
  obtain ⟨v1, v2, v3⟩ := kind_at ho h1 hn hk
  have tb := h.tk.tb
  have vs := tb.vs o.toNatClampNeg n.toNatClampNeg (by rw [tn]; have := ho.1; omega) (by rw [tn]; have := hn.1; have := hn.2; omega) v1
  rw [← v2, ← v3] at vs
  generalize D_X6_kind s o n = k at hk vs ⊢
  obtain ⟨a6, a7, a8, a9, a10, a11, a58, a59, al⟩ := ad_at (q := q) (s := s) (n := n) (o := o) (k := k)
  obtain ⟨b6, b7, b8, b9, b10, b11, b58, b59, bl⟩ := ad_at (q := q) (s := t) (n := n) (o := o) (k := k)
  refine ⟨h.tk.of (fun i j hi => al i j (by omega)) (fun i j hi => bl i j (by omega)), ?_, ?_, ?_, ?_, ?_, ?_, ?_, ?_, ?_⟩
  · rw [a58, b58, h.h8, e6_hid tb ho h1]
  · rw [a59, b59, h.h9]
  · intro j hj; rw [a6, b6, h.k6 j hj]
  · intro j hj; rw [a7, b7, h.k7 j hj]
  · intro j hj; rw [a8, b8, h.k8 j hj, e6_sec tb ho h1 hn]
  · intro j hj; rw [a9, b9, h.k9 j hj, e6_place tb ho h1 hn]
  · intro j hj hc
    rw [a6] at hc
    rw [a10, b10, e6_size tb ho h1 hn]
    by_cases c : j = n.toNatClampNeg
    · rw [if_pos c, if_pos c]
    · rw [if_neg c] at hc
      rw [if_neg c, if_neg c]
      exact h.k10 j hj hc
  · intro j hj hc
    rw [a6] at hc
    rw [a11, b11, e6_align tb ho h1 hn]
    by_cases c : j = n.toNatClampNeg
    · rw [if_pos c, if_pos c]
    · rw [if_neg c] at hc
      rw [if_neg c, if_neg c]
      exact h.k11 j hj hc
  · intro j hj hc hc1
    rw [a6] at hc hc1
    rw [a8, al 11 8 (by omega), al (q + 3) 4 (by omega), al 12 _ (by omega)]
    by_cases c : j = n.toNatClampNeg
    · rw [if_pos c] at hc hc1 ⊢
      obtain ⟨w1, w2, w3⟩ := vs hc1
      refine ⟨w1, w2, ?_⟩
      have e : (s 12 (D_X6_sectionOf s o n).toNatClampNeg).toNatClampNeg = o.toNatClampNeg := by rw [tn (x := s 12 _), w3]; rfl
      rw [e]; exact hbt
    · rw [if_neg c] at hc hc1 ⊢
      exact h.sv j hj hc hc1
theorem st_twice {q : Nat} (hq : q = 38 ∨ q = 60) {s t : Sg} (h : St q s t) {v w : Int32} (e : w = v) : St q (up s (q + 5) 9 v) (up t (q + 5) 9 w) := by
  subst e
  refine ⟨h.tk.of (fun i j hi => by rw [up_ne (by omega)]) (fun i j hi => by rw [up_ne (by omega)]), ?_, ?_, ?_, ?_, ?_, ?_, ?_, ?_, ?_⟩
  · simp only [up_at]; simpa using h.h8
  · simp [up_at]
  · intro j hj; rw [up_ne (by omega), up_ne (by omega)]; exact h.k6 j hj
  · intro j hj; rw [up_ne (by omega), up_ne (by omega)]; exact h.k7 j hj
  · intro j hj; rw [up_ne (by omega), up_ne (by omega)]; exact h.k8 j hj
  · intro j hj; rw [up_ne (by omega), up_ne (by omega)]; exact h.k9 j hj
  · intro j hj; rw [up_ne (by omega), up_ne (by omega), up_ne (by omega)]; exact h.k10 j hj
  · intro j hj; rw [up_ne (by omega), up_ne (by omega), up_ne (by omega)]; exact h.k11 j hj
  · intro j hj; rw [up_ne (by omega), up_ne (by omega), show (up s (q + 5) 9 w) 11 8 = s 11 8 by rw [up_at, if_neg (by omega)], show (up s (q + 5) 9 w) (q + 3) 4 = s (q + 3) 4 by rw [up_at, if_neg (by omega)], show (up s (q + 5) 9 w) 12 = s 12 from up_ne (by omega)]; exact h.sv j hj
