/-! what is reached -/
def Rt (q : Nat) (s t : Sg) : Prop :=
  (St q s t) ∧
  (t (q + 12) 4 = s (q + 12) 4) ∧
  (t (q + 12) 5 = s (q + 12) 5) ∧
  (t (q + 12) 6 = s (q + 12) 6) ∧
  (t (q + 12) 7 = s (q + 12) 7) ∧
  (0 ≤ (s (q + 12) 4).toInt) ∧
  ((s (q + 12) 4).toInt ≤ 24) ∧
  (∀ j : Nat, (j : Int) < (s (q + 12) 4).toInt → t (q + 13) j = s (q + 13) j ∧ 0 ≤ (s (q + 13) j).toInt ∧ (s (q + 13) j).toInt < (s 11 8).toInt) ∧
  (∀ j : Nat, j < 20 → t (q + 14) j = s (q + 14) j) ∧
  (∀ j : Nat, j < 20 → bt_ (s (q + 12) 6) j = true → s (q + 6) j = 1) ∧
  (∀ k : Nat, k < 24 → bt_ (s (q + 12) 5) k = true → (k : Int) < (s 11 8).toInt ∧ bt_ (s (q + 3) 4) (s 12 k).toNatClampNeg = true)
theorem Rt.st {q : Nat} {s t : Sg} (h : Rt q s t) : St q s t := h.1
theorem Rt.n {q : Nat} {s t : Sg} (h : Rt q s t) : t (q + 12) 4 = s (q + 12) 4 := h.2.1
theorem Rt.b5 {q : Nat} {s t : Sg} (h : Rt q s t) : t (q + 12) 5 = s (q + 12) 5 := h.2.2.1
theorem Rt.b6 {q : Nat} {s t : Sg} (h : Rt q s t) : t (q + 12) 6 = s (q + 12) 6 := h.2.2.2.1
theorem Rt.b7 {q : Nat} {s t : Sg} (h : Rt q s t) : t (q + 12) 7 = s (q + 12) 7 := h.2.2.2.2.1
theorem Rt.n0 {q : Nat} {s t : Sg} (h : Rt q s t) : 0 ≤ (s (q + 12) 4).toInt := h.2.2.2.2.2.1
theorem Rt.n1 {q : Nat} {s t : Sg} (h : Rt q s t) : (s (q + 12) 4).toInt ≤ 24 := h.2.2.2.2.2.2.1
theorem Rt.qu {q : Nat} {s t : Sg} (h : Rt q s t) : ∀ j : Nat, (j : Int) < (s (q + 12) 4).toInt → t (q + 13) j = s (q + 13) j ∧ 0 ≤ (s (q + 13) j).toInt ∧ (s (q + 13) j).toInt < (s 11 8).toInt := h.2.2.2.2.2.2.2.1
theorem Rt.rf {q : Nat} {s t : Sg} (h : Rt q s t) : ∀ j : Nat, j < 20 → t (q + 14) j = s (q + 14) j := h.2.2.2.2.2.2.2.2.1
theorem Rt.bc {q : Nat} {s t : Sg} (h : Rt q s t) : ∀ j : Nat, j < 20 → bt_ (s (q + 12) 6) j = true → s (q + 6) j = 1 := h.2.2.2.2.2.2.2.2.2.1
theorem Rt.bs {q : Nat} {s t : Sg} (h : Rt q s t) : ∀ k : Nat, k < 24 → bt_ (s (q + 12) 5) k = true → (k : Int) < (s 11 8).toInt ∧ bt_ (s (q + 3) 4) (s 12 k).toNatClampNeg = true := h.2.2.2.2.2.2.2.2.2.2
theorem Rt.of {q : Nat} {s t s' t' : Sg} (hs : ∀ k j, k < 23 ∨ (q + 3 ≤ k ∧ k ≤ q + 14) → s' k j = s k j) (ht : ∀ k j, k < 23 ∨ (q + 3 ≤ k ∧ k ≤ q + 14) → t' k j = t k j) (h : Rt q s t) : Rt q s' t' := by
  have a := fun j => hs (q + 12) j (by omega); have b := fun j => ht (q + 12) j (by omega)
  have c := fun j => hs (q + 13) j (by omega); have d := fun j => ht (q + 13) j (by omega)
  have e := fun j => hs (q + 14) j (by omega); have f := fun j => ht (q + 14) j (by omega)
  have g := hs 11 8 (by omega)
  refine ⟨h.st.of (fun k j hk => hs k j (by omega)) (fun k j hk => ht k j (by omega)), ?_, ?_, ?_, ?_, ?_, ?_, ?_, ?_, ?_, ?_⟩
  · rw [a, b]; exact h.n
  · rw [a, b]; exact h.b5
  · rw [a, b]; exact h.b6
  · rw [a, b]; exact h.b7
  · rw [a]; exact h.n0
  · rw [a]; exact h.n1
  · rw [a, g]; intro j hj; rw [c, d]; exact h.qu j hj
  · intro j hj; rw [e, f]; exact h.rf j hj
  · intro j hj; rw [a, hs (q + 6) j (by omega)]; exact h.bc j hj
  · rw [a, g, hs (q + 3) 4 (by omega)]; intro k hk; rw [hs 12 _ (by omega)]; exact h.bs k hk
theorem x8_hasP {s t : Sg} (h : Tb s t) {a c : Int32} : D_X8_hasPiece t a c = D_X8_hasPiece s a c := by unfold D_X8_hasPiece; rw [h.c15]
theorem x8_kind {s t : Sg} (h : Tb s t) {a c : Int32} : D_X8_kind t a c = D_X8_kind s a c := by unfold D_X8_kind; rw [x8_hasP h, h.c16]
theorem x8_name {s t : Sg} (h : Tb s t) {a c : Int32} : D_X8_name t a c = D_X8_name s a c := by unfold D_X8_name; rw [x8_hasP h, h.c17]
theorem x8_added {s t : Sg} (h : Tb s t) {a c : Int32} : D_X8_added t a c = D_X8_added s a c := by unfold D_X8_added; rw [x8_hasP h, h.c18]
theorem x8_weak {s t : Sg} (h : Tb s t) {a c : Int32} : D_X8_isWeak t a c = D_X8_isWeak s a c := by unfold D_X8_isWeak; rw [x8_hasP h, h.c19]
theorem x8_words {s t : Sg} (h : Tb s t) {a c : Int32} : D_X8_words t a c = D_X8_words s a c := by unfold D_X8_words; rw [x8_hasP h, h.c16, h.c17]
theorem x8_ref {s t : Sg} (h : Tb s t) {a c : Int32} : D_X8_isReference t a c = D_X8_isReference s a c := by unfold D_X8_isReference; rw [x8_kind h]
theorem has_s {s : Sg} {a : Int32} (h0 : 0 ≤ a.toInt) (h1 : a.toInt < (s 11 8).toInt) (h2 : (s 11 8).toInt ≤ 24) : ¬ D_X8_has s a = 0 := by
  unfold D_X8_has
  rw [if_neg (n_lt h0), if_neg (fun q => by have := Int32.le_iff_toInt_le.mp q; omega), if_neg (n_le (m := 24) (n := 24) (by omega) rfl)]
  decide
section TS
variable {s t : Sg} {a : Int32}
theorem x8_at (h : Tb s t) (h0 : 0 ≤ a.toInt) (h1 : a.toInt < (s 11 8).toInt) : ¬ D_X8_has s a = 0 ∧ ¬ D_X8_has t a = 0 :=
  ⟨has_s h0 h1 (by have := h.ns1; have := h.ns2; omega), has_s h0 (by have := h.ns1; omega) h.ns2⟩
theorem x8_pieces (h : Tb s t) (h0 : 0 ≤ a.toInt) (h1 : a.toInt < (s 11 8).toInt) : D_X8_pieces t a = D_X8_pieces s a ∧ D_X8_pieces s a = s 15 a.toNatClampNeg ∧ 0 ≤ (D_X8_pieces s a).toInt ∧ (D_X8_pieces s a).toInt ≤ 8 := by
  obtain ⟨a1, a2⟩ := x8_at h h0 h1
  unfold D_X8_pieces
  rw [if_neg a1, if_neg a2, h.c15]
  exact ⟨rfl, rfl, h.p8 _ (by rw [tn]; omega)⟩
theorem x8_obj (h : Tb s t) (h0 : 0 ≤ a.toInt) (h1 : a.toInt < (s 11 8).toInt) : D_X8_objectOf t a = D_X8_objectOf s a := by
  obtain ⟨a1, a2⟩ := x8_at h h0 h1
  unfold D_X8_objectOf
  rw [if_neg a1, if_neg a2, h.r12 _ (by rw [tn]; omega)]
theorem x8_kept (h : Tb s t) (h0 : 0 ≤ a.toInt) (h1 : a.toInt < (s 11 8).toInt) : D_X8_isKept t a = D_X8_isKept s a := by
  obtain ⟨a1, a2⟩ := x8_at h h0 h1
  unfold D_X8_isKept
  rw [if_neg a1, if_neg a2, h.r14 _ (by rw [tn]; omega)]
theorem x8_align (h : Tb s t) (h0 : 0 ≤ a.toInt) (h1 : a.toInt < (s 11 8).toInt) : D_X8_align t a = D_X8_align s a := by
  obtain ⟨a1, a2⟩ := x8_at h h0 h1
  unfold D_X8_align
  rw [if_neg a1, if_neg a2, h.r13 _ (by rw [tn]; omega)]
theorem x8_kept0 (h : Tb s t) (h1 : (s 11 8).toInt ≤ a.toInt) : D_X8_isKept t a = 0 := by
  unfold D_X8_isKept
  by_cases c : D_X8_has t a = 0
  · rw [if_pos c]
  · rw [if_neg c]
    have := rg_X8_has c
    have h0 := h.ns0
    rw [h.e14 _ (by rw [tn]; have := this.1; omega) (rg_nat this).1]
    rfl
end TS
theorem x9_kind {q : Nat} {s t : Sg} (h : St q s t) {n : Int32} : D_X9_kind q t n = D_X9_kind q s n := by
  unfold D_X9_kind
  by_cases c : D_X11_isName n = 0
  · rw [if_pos c, if_pos c]
  · have := rg_isName c
    rw [if_neg c, if_neg c, h.k6 _ (rg_nat this).1]
theorem x9_sec {q : Nat} {s t : Sg} (h : St q s t) {n : Int32} : D_X9_sectionOf q t n = D_X9_sectionOf q s n := by
  unfold D_X9_sectionOf
  by_cases c : D_X11_isName n = 0
  · rw [if_pos c, if_pos c]
  · have := rg_isName c
    rw [if_neg c, if_neg c, h.k8 _ (rg_nat this).1]
theorem x9_hid {q : Nat} {s t : Sg} (h : St q s t) {n : Int32} : D_X9_isHidden q t n = D_X9_isHidden q s n := by
  unfold D_X9_isHidden; rw [h.h8]
theorem x10_taken {q : Nat} {s t : Sg} (h : Tk q s t) {n : Int32} : D_X10_isTaken q t n = D_X10_isTaken q s n := by
  unfold D_X10_isTaken; rw [h.b]
theorem rt_sec {q : Nat} (hq : q = 38 ∨ q = 60) {s t : Sg} (h : Rt q s t) {a : Int32} (h0 : 0 ≤ a.toInt) (h1 : a.toInt < (s 11 8).toInt) (hbt : bt_ (s (q + 3) 4) (s 12 a.toNatClampNeg).toNatClampNeg = true) : Rt q (D_X7_reachSection q s a) (D_X7_reachSection q t a) := by
  have tb := h.st.tk.tb
  have hn1 := tb.ns1
  have hn2 := tb.ns2
  have hn0 := h.n0
  have r32 : rg a 32 := ⟨h0, by omega⟩
  unfold D_X7_reachSection
  by_cases c0 : D_X11_isIn a 24 = 0
  · rw [if_pos c0, if_pos c0]; exact h
  · rw [if_neg c0, if_neg c0, h.b5, h.n]
    by_cases c1 : D_X11_hasBit (s (q + 12) 5) a = 0
    · rw [if_pos c1, if_pos c1]
      by_cases c2 : s (q + 12) 4 < 24
      · rw [if_pos c2, if_pos c2]
        have c2' := i_lt2 (n := 24) c2 rfl
        have hi : (s (q + 12) 4 + 1).toInt = (s (q + 12) 4).toInt + 1 := i_add1 (by omega)
        have fr : ∀ (z : Sg) (v w : Int32) (m i j : Nat), i ≠ q + 12 → i ≠ q + 13 → (up (up (up z (q + 12) 5 v) (q + 13) m a) (q + 12) 4 w) i j = z i j := fun z v w m i j e1 e2 => by rw [up_ne e1, up_ne e2, up_ne e1]
        have v4 : ∀ (z : Sg) (v w : Int32) (m : Nat), (up (up (up z (q + 12) 5 v) (q + 13) m a) (q + 12) 4 w) (q + 12) 4 = w := fun z v w m => by simp [up_at]
        have v5 : ∀ (z : Sg) (v w : Int32) (m : Nat), (up (up (up z (q + 12) 5 v) (q + 13) m a) (q + 12) 4 w) (q + 12) 5 = v := fun z v w m => by simp [up_at]
        have v6 : ∀ (z : Sg) (v w : Int32) (m : Nat), (up (up (up z (q + 12) 5 v) (q + 13) m a) (q + 12) 4 w) (q + 12) 6 = z (q + 12) 6 := fun z v w m => by simp [up_at]
        have v7 : ∀ (z : Sg) (v w : Int32) (m : Nat), (up (up (up z (q + 12) 5 v) (q + 13) m a) (q + 12) 4 w) (q + 12) 7 = z (q + 12) 7 := fun z v w m => by simp [up_at]
        have vq : ∀ (z : Sg) (v w : Int32) (m j : Nat), (up (up (up z (q + 12) 5 v) (q + 13) m a) (q + 12) 4 w) (q + 13) j = if j = m then a else z (q + 13) j := fun z v w m j => by simp [up_at]
        refine ⟨h.st.of (fun k j hk => fr _ _ _ _ _ _ (by omega) (by omega)) (fun k j hk => fr _ _ _ _ _ _ (by omega) (by omega)), ?_, ?_, ?_, ?_, ?_, ?_, ?_, ?_, ?_, ?_⟩
        · rw [v4, v4]
        · rw [v5, v5]
        · rw [v6, v6, h.b6]
        · rw [v7, v7, h.b7]
        · rw [v4]; omega
        · rw [v4]; omega
        · rw [v4, fr _ _ _ _ 11 8 (by omega) (by omega), hi]
          intro j hj
          rw [vq, vq]
          by_cases c : j = (s (q + 12) 4).toNatClampNeg
          · rw [if_pos c, if_pos c]; exact ⟨rfl, h0, h1⟩
          · rw [if_neg c, if_neg c]; exact h.qu j (by rw [tn] at c; omega)
        · intro j hj; rw [fr _ _ _ _ _ _ (by omega) (by omega), fr _ _ _ _ _ _ (by omega) (by omega)]; exact h.rf j hj
        · intro j hj; rw [v6, fr _ _ _ _ (q + 6) _ (by omega) (by omega)]; exact h.bc j hj
        · rw [v5, fr _ _ _ _ 11 8 (by omega) (by omega), fr _ _ _ _ (q + 3) 4 (by omega) (by omega)]
          intro k hk hb
          rw [fr _ _ _ _ 12 _ (by omega) (by omega)]
          rw [bt_set r32 (by omega)] at hb
          rcases (Bool.or_eq_true _ _).mp hb with z | z
          · exact h.bs k hk z
          · have e := of_decide_eq_true z
            refine ⟨by rw [e, tn]; omega, ?_⟩
            rw [e]; exact hbt
      · rw [if_neg c2, if_neg c2]; exact h
    · rw [if_neg c1, if_neg c1]; exact h
theorem rt_f {q : Nat} (hq : q = 38 ∨ q = 60) {s t : Sg} (h : Rt q s t) {j0 : Nat} (hj : j0 = 6 ∨ j0 = 7) {v w : Int32} (e : w = v) (hbc : j0 = 6 → ∀ j : Nat, j < 20 → bt_ v j = true → s (q + 6) j = 1) : Rt q (up s (q + 12) j0 v) (up t (q + 12) j0 w) := by
  subst e
  have fr : ∀ (z : Sg) (i j : Nat), i ≠ q + 12 ∨ j ≠ j0 → (up z (q + 12) j0 w) i j = z i j := fun z i j e1 => up_f e1
  refine ⟨h.st.of (fun k j hk => fr _ _ _ (by omega)) (fun k j hk => fr _ _ _ (by omega)), ?_, ?_, ?_, ?_, ?_, ?_, ?_, ?_, ?_, ?_⟩
  · rw [fr _ _ _ (by omega), fr _ _ _ (by omega)]; exact h.n
  · rw [fr _ _ _ (by omega), fr _ _ _ (by omega)]; exact h.b5
  · rw [up_at, up_at, h.b6]
  · rw [up_at, up_at, h.b7]
  · rw [fr _ _ _ (by omega)]; exact h.n0
  · rw [fr _ _ _ (by omega)]; exact h.n1
  · rw [fr _ _ 4 (by omega), fr _ 11 8 (by omega)]; intro j hj; rw [fr _ _ _ (by omega), fr _ _ _ (by omega)]; exact h.qu j hj
  · intro j hj; rw [fr _ _ _ (by omega), fr _ _ _ (by omega)]; exact h.rf j hj
  · intro j hj hb
    rw [fr _ (q + 6) _ (by omega)]
    rw [up_at] at hb
    by_cases c : j0 = 6
    · rw [if_pos ⟨rfl, c.symm⟩] at hb; exact hbc c j hj hb
    · rw [if_neg (fun q2 => c q2.2.symm)] at hb; exact h.bc j hj hb
  · rw [fr _ _ 5 (by omega), fr _ 11 8 (by omega), fr _ (q + 3) 4 (by omega)]; intro k hk; rw [fr _ 12 _ (by omega)]; exact h.bs k hk
theorem rt_r {q : Nat} (hq : q = 38 ∨ q = 60) {s t : Sg} (h : Rt q s t) {j0 : Nat} {v w : Int32} (e : w = v) : Rt q (up s (q + 14) j0 v) (up t (q + 14) j0 w) := by
  subst e
  have fr : ∀ (z : Sg) (i j : Nat), i ≠ q + 14 → (up z (q + 14) j0 w) i j = z i j := fun z i j e1 => by rw [up_ne e1]
  refine ⟨h.st.of (fun k j hk => fr _ _ _ (by omega)) (fun k j hk => fr _ _ _ (by omega)), ?_, ?_, ?_, ?_, ?_, ?_, ?_, ?_, ?_, ?_⟩
  · rw [fr _ _ _ (by omega), fr _ _ _ (by omega)]; exact h.n
  · rw [fr _ _ _ (by omega), fr _ _ _ (by omega)]; exact h.b5
  · rw [fr _ _ _ (by omega), fr _ _ _ (by omega)]; exact h.b6
  · rw [fr _ _ _ (by omega), fr _ _ _ (by omega)]; exact h.b7
  · rw [fr _ _ _ (by omega)]; exact h.n0
  · rw [fr _ _ _ (by omega)]; exact h.n1
  · rw [fr _ _ 4 (by omega), fr _ 11 8 (by omega)]; intro j hj; rw [fr _ _ _ (by omega), fr _ _ _ (by omega)]; exact h.qu j hj
  · intro j hj; rw [up_at, up_at, h.rf j hj]
  · intro j hj; rw [fr _ (q + 12) _ (by omega), fr _ (q + 6) _ (by omega)]; exact h.bc j hj
  · rw [fr _ _ 5 (by omega), fr _ 11 8 (by omega), fr _ (q + 3) 4 (by omega)]; intro k hk; rw [fr _ 12 _ (by omega)]; exact h.bs k hk
theorem rt_name {q : Nat} (hq : q = 38 ∨ q = 60) {s t : Sg} (h : Rt q s t) {n : Int32} : Rt q (D_X7_reachName q s n) (D_X7_reachName q t n) := by
  unfold D_X7_reachName
  rw [x9_kind h.st, x9_sec h.st, h.b6]
  by_cases c0 : D_X9_kind q s n = 1
  · rw [if_pos c0, if_pos c0]
    refine rt_f hq h (Or.inl rfl) rfl (fun _ j hj hb => ?_)
    unfold D_X9_kind at c0
    by_cases c2 : D_X11_isName n = 0
    · rw [if_pos c2] at c0; exact absurd c0 (by decide)
    · rw [if_neg c2] at c0
      have hn := rg_isName c2
      rw [bt_set ⟨hn.1, by have := hn.2; omega⟩ (by omega)] at hb
      rcases (Bool.or_eq_true _ _).mp hb with z | z
      · exact h.bc j hj z
      · rw [of_decide_eq_true z]; exact c0
  · rw [if_neg c0, if_neg c0]
    by_cases c1 : D_X9_kind q s n = -1
    · rw [if_pos c1, if_pos c1]; exact h
    · rw [if_neg c1, if_neg c1]
      unfold D_X9_kind at c0 c1
      by_cases c2 : D_X11_isName n = 0
      · rw [if_pos c2] at c1; exact absurd rfl c1
      · have hn := rg_isName c2
        rw [if_neg c2] at c0 c1
        have hv := h.st.sv _ (by rw [tn]; have := hn.1; have := hn.2; omega) c1 c0
        have e : D_X9_sectionOf q s n = s (q + 8) n.toNatClampNeg := by unfold D_X9_sectionOf; rw [if_neg c2]
        rw [e]
        exact rt_sec hq h hv.1 hv.2.1 hv.2.2
