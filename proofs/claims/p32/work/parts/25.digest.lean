/-! what is told is the same of two states that look the same -/
theorem fr_run {q : Nat} {s : Sg} {a1 a2 a3 a4 a5 : Int32} {k j : Nat} (h : k < q ∨ q + 21 < k) : (D_X5_run q s a1 a2 a3 a4 a5) k j = s k j := fw_X5_run (by omega) (by omega) (by omega) (by omega) (by omega) (by omega) (by omega) (by omega) (by omega) (by omega) (by omega) (by omega) (by omega) (by omega) (by omega) (by omega) (by omega) (by omega) (by omega) (by omega) (by omega) (by omega) (by omega) (by omega) (by omega) (by omega) (by omega) (by omega) (by omega) (by omega) (by omega) (by omega) (by omega)
theorem fr_dig {wl : Nat} {s : Sg} {k j : Nat} (h : k < 60) (h2 : k ≠ 23 ∨ j ≠ 12) (h3 : k ≠ 34) : (D_X11_digest wl s).2 k j = s k j := fw_X11_digest (by omega) (by omega) (by omega) (by omega) (by omega) (by omega) (by omega) (by omega) (by omega) (by omega) (by omega) (by omega) (by omega) (by omega) (by omega) (by omega) (by omega) (by omega) (by omega) (by omega) (by omega) (by omega) (by omega) (by omega) (by omega) (by omega) (by omega) (by omega) (by omega) (by omega) (by omega) (by omega) (by omega) (by omega) (by omega)
theorem big_s : ∃ n, BIG = n + 1 := ⟨2147483647, BIG_eq⟩
theorem itf_cg {B B' : Int32 → Option (Option Int32) × Int32} (h : ∀ x, 0 ≤ x.toInt → B x = B' x) (hn : ∀ x y, 0 ≤ x.toInt → B x = (none, y) → 0 ≤ y.toInt) : ∀ (n : Nat) (x : Int32), 0 ≤ x.toInt → itf B n x = itf B' n x := by
  intro n
  induction n with
  | zero => intro x _; rfl
  | succ n ih =>
    intro x hx
    cases hb : B x with
    | mk f y =>
      have hb' : B' x = (f, y) := (h x hx).symm.trans hb
      cases f with
      | none => rw [itf_n hb, itf_n hb']; exact ih y (hn x y hx hb)
      | some z => rw [itf_h hb, itf_h hb']
theorem itr3_rel {B : Int32 → Int64 → Sg → Bool × (Int32 × Int64 × Sg)} {R : Sg → Sg → Prop} (h : ∀ x v s t, R s t → ∃ (f : Bool) (y : Int32) (w : Int64) (s' t' : Sg), B x v s = (f, (y, w, s')) ∧ B x v t = (f, (y, w, t')) ∧ R s' t') : ∀ (n : Nat) (x : Int32) (v : Int64) (s t : Sg), R s t → ∃ (y : Int32) (w : Int64) (s' t' : Sg), itr (uc3 B) n (x, v, s) = (y, w, s') ∧ itr (uc3 B) n (x, v, t) = (y, w, t') ∧ R s' t' := by
  intro n
  induction n with
  | zero => intro x v s t hR; exact ⟨x, v, s, t, rfl, rfl, hR⟩
  | succ n ih =>
    intro x v s t hR
    obtain ⟨f, y, w, s', t', e1, e2, hR'⟩ := h x v s t hR
    cases f with
    | true =>
      rw [itr_s (B := uc3 B) (x := (x, v, s)) (y := (y, w, s')) e1, itr_s (B := uc3 B) (x := (x, v, t)) (y := (y, w, t')) e2]
      exact ih y w s' t' hR'
    | false =>
      rw [itr_e (B := uc3 B) (x := (x, v, s)) (y := (y, w, s')) e1, itr_e (B := uc3 B) (x := (x, v, t)) (y := (y, w, t')) e2]
      exact ⟨y, w, s', t', rfl, rfl, hR'⟩
def Dv (s t : Sg) : Prop :=
  (∀ k j, k < 23 → t k j = s k j) ∧ Fl 38 s t ∧ (t 38 6 = s 38 6 ∧ t 38 7 = s 38 7 ∧ t 38 8 = s 38 8) ∧
  (∀ k j, 24 ≤ k → k ≤ 31 → t k j = s k j) ∧ t 23 13 = s 23 13 ∧ (t 23 14 = 0 ∧ s 23 14 = 0 ∧ t 23 15 = 0 ∧ s 23 15 = 0) ∧ ((∀ j, s 29 j = 0) ∧ (∀ j, s 30 j = -1)) ∧
  (∀ j : Nat, (j : Int) < (D_X3_size 38 s).toInt → t 37 j = s 37 j)
section DV
variable {s t : Sg}
theorem Dv.lo (h : Dv s t) : ∀ k j, k < 23 → t k j = s k j := h.1
theorem Dv.fl (h : Dv s t) : Fl 38 s t := h.2.1
theorem Dv.q6 (h : Dv s t) : t 38 6 = s 38 6 := h.2.2.1.1
theorem Dv.q7 (h : Dv s t) : t 38 7 = s 38 7 := h.2.2.1.2.1
theorem Dv.q8 (h : Dv s t) : t 38 8 = s 38 8 := h.2.2.1.2.2
theorem Dv.lb (h : Dv s t) : ∀ k j, 24 ≤ k → k ≤ 31 → t k j = s k j := h.2.2.2.1
theorem Dv.lc (h : Dv s t) : t 23 13 = s 23 13 := h.2.2.2.2.1
theorem Dv.lz (h : Dv s t) : t 23 14 = 0 ∧ s 23 14 = 0 ∧ t 23 15 = 0 ∧ s 23 15 = 0 := h.2.2.2.2.2.1
theorem Dv.l29 (h : Dv s t) : ∀ j, s 29 j = 0 := h.2.2.2.2.2.2.1.1
theorem Dv.l30 (h : Dv s t) : ∀ j, s 30 j = -1 := h.2.2.2.2.2.2.1.2
theorem Dv.wo (h : Dv s t) : ∀ j : Nat, (j : Int) < (D_X3_size 38 s).toInt → t 37 j = s 37 j := h.2.2.2.2.2.2.2
theorem Dv.pc (h : Dv s t) : Pc 38 s t := h.fl.pc
theorem Dv.rt (h : Dv s t) : Rt 38 s t := h.fl.pc.pl.od.rt
theorem Dv.tb (h : Dv s t) : Tb s t := h.fl.pc.pl.od.rt.st.tk.tb
theorem Dv.of {s' t' : Sg} (hs : ∀ k j, k < 60 → k ≠ 34 → k ≠ 35 → (k ≠ 23 ∨ j ≠ 12) → s' k j = s k j) (ht : ∀ k j, k < 60 → k ≠ 34 → k ≠ 35 → (k ≠ 23 ∨ j ≠ 12) → t' k j = t k j) (h : Dv s t) : Dv s' t' := by
  refine ⟨fun k j hk => ?_, h.fl.of (fun k j hk => hs k j (by omega) (by omega) (by omega) (by omega)) (fun k j hk => ht k j (by omega) (by omega) (by omega) (by omega)), ⟨?_, ?_, ?_⟩, fun k j h1 h2 => ?_, ?_, ⟨?_, ?_, ?_, ?_⟩, ⟨fun j => ?_, fun j => ?_⟩, ?_⟩
  · rw [hs k j (by omega) (by omega) (by omega) (by omega), ht k j (by omega) (by omega) (by omega) (by omega)]; exact h.lo k j hk
  · rw [hs _ _ (by omega) (by omega) (by omega) (by omega), ht _ _ (by omega) (by omega) (by omega) (by omega)]; exact h.q6
  · rw [hs _ _ (by omega) (by omega) (by omega) (by omega), ht _ _ (by omega) (by omega) (by omega) (by omega)]; exact h.q7
  · rw [hs _ _ (by omega) (by omega) (by omega) (by omega), ht _ _ (by omega) (by omega) (by omega) (by omega)]; exact h.q8
  · rw [hs k j (by omega) (by omega) (by omega) (by omega), ht k j (by omega) (by omega) (by omega) (by omega)]; exact h.lb k j h1 h2
  · rw [hs _ _ (by omega) (by omega) (by omega) (by omega), ht _ _ (by omega) (by omega) (by omega) (by omega)]; exact h.lc
  · rw [ht _ _ (by omega) (by omega) (by omega) (by omega)]; exact h.lz.1
  · rw [hs _ _ (by omega) (by omega) (by omega) (by omega)]; exact h.lz.2.1
  · rw [ht _ _ (by omega) (by omega) (by omega) (by omega)]; exact h.lz.2.2.1
  · rw [hs _ _ (by omega) (by omega) (by omega) (by omega)]; exact h.lz.2.2.2
  · rw [hs _ _ (by omega) (by omega) (by omega) (by omega)]; exact h.l29 j
  · rw [hs _ _ (by omega) (by omega) (by omega) (by omega)]; exact h.l30 j
  · unfold D_X3_size
    rw [hs (38 + 15) 11 (by omega) (by omega) (by omega) (by omega)]
    intro j hj
    rw [hs 37 j (by omega) (by omega) (by omega) (by omega), ht 37 j (by omega) (by omega) (by omega) (by omega)]
    exact h.wo j hj
theorem dv_size (h : Dv s t) : D_X3_size 38 t = D_X3_size 38 s := h.pc.pl.e11
theorem dv_count (h : Dv s t) : D_X0_count 38 t = D_X0_count 38 s := h.fl.n
theorem dv_longs (h : Dv s t) {x : Int32} : D_X3_longsOf 38 t x = D_X3_longsOf 38 s x := by
  unfold D_X3_longsOf
  rw [hs_eq h.rt.b5]
  by_cases c : D_X7_hasSection 38 s x = 0
  · rw [if_pos c, if_pos c]
  · rw [if_neg c, if_neg c, (pc_sec h.pc c).2.2.1]
theorem dv_addr (h : Dv s t) {x : Int32} : D_X3_addressOf 38 t x = D_X3_addressOf 38 s x := by
  unfold D_X3_addressOf
  rw [hs_eq h.rt.b5]
  by_cases c : D_X7_hasSection 38 s x = 0
  · rw [if_pos c, if_pos c]
  · rw [if_neg c, if_neg c, (pc_sec h.pc c).1]
theorem dv_words (h : Dv s t) {x : Int32} : D_X3_wordsOf 38 t x = D_X3_wordsOf 38 s x := by
  unfold D_X3_wordsOf
  rw [hs_eq h.rt.b5]
  by_cases c : D_X7_hasSection 38 s x = 0
  · rw [if_pos c, if_pos c]
  · rw [if_neg c, if_neg c, (pc_sec h.pc c).2.1]
theorem dv_has6 (h : Dv s t) {x : Int32} : D_X6_has t x = D_X6_has s x := by unfold D_X6_has; rw [h.lo 1 9 (by decide)]
theorem dv_has8 (h : Dv s t) {x : Int32} : D_X8_has t x = D_X8_has s x := by unfold D_X8_has; rw [h.lo 11 8 (by decide)]
theorem dv_has4 (h : Dv s t) {x : Int32} : D_X4_has t x = D_X4_has s x := by unfold D_X4_has; rw [h.lc]
theorem dv_base (h : Dv s t) {x : Int32} : D_X4_base t x = D_X4_base s x := by unfold D_X4_base; rw [dv_has4 h, h.lb 30 _ (by decide) (by decide)]
theorem dv_loaded (h : Dv s t) {x : Int32} : D_X4_isLoaded t x = D_X4_isLoaded s x := by unfold D_X4_isLoaded; rw [dv_base h]
theorem dv_cl (h : Dv s t) : D_X4_countLoaded t = D_X4_countLoaded s := by
  unfold D_X4_countLoaded D_X4_loaded R_X4_loaded_30
  rw [show B_X4_loaded_4 t = B_X4_loaded_4 s from funext fun x2 => funext fun x1 => by unfold B_X4_loaded_4; rw [dv_loaded h]]
theorem dv_cb (h : Dv s t) : D_X4_countBindings t = D_X4_countBindings s := by
  unfold D_X4_countBindings R_X4_countBindings_29
  rw [show B_X4_countBindings_4 t = B_X4_countBindings_4 s from funext fun x2 => funext fun x1 => by unfold B_X4_countBindings_4; rw [h.lb 31 _ (by decide) (by decide)]]
theorem dv_long (h : Dv s t) : D_X3_countLongs 38 t = D_X3_countLongs 38 s := by
  unfold D_X3_countLongs R_X3_countLongs_24
  rw [show B_X3_countLongs_4 38 t = B_X3_countLongs_4 38 s from funext fun x2 => funext fun x1 => by unfold B_X3_countLongs_4; rw [dv_longs h]]
theorem dv_many (h : Dv s t) {x : Int32} : D_X11_many t x = D_X11_many s x := by
  unfold D_X11_many
  rw [show D_X6_count t = D_X6_count s from h.lo 1 9 (by decide), show D_X8_count t = D_X8_count s from h.lo 11 8 (by decide), show D_X2_count t = D_X2_count s from h.lo 20 2 (by decide), show D_X4_count t = D_X4_count s from h.lc, dv_cl h, show D_X4_countGlobal t = D_X4_countGlobal s from h.lz.1.trans h.lz.2.1.symm, dv_cb h, show D_X10_count 38 t = D_X10_count 38 s from h.rt.st.tk.n, show D_X7_countSections 38 t = D_X7_countSections 38 s from h.rt.n, dv_size h, dv_count h, dv_long h, show D_X7_imports 38 t = D_X7_imports 38 s from h.rt.b7]
theorem dv_def (h : Dv s t) {x : Int32} : D_X6_defined t x = D_X6_defined s x := by unfold D_X6_defined; rw [h.lo 2 _ (by decide)]
theorem dv_place (h : Dv s t) {a : Int32} : D_X10_placeOf 38 t a = D_X10_placeOf 38 s a := by
  unfold D_X10_placeOf R_X10_placeOf_34
  have tk := h.rt.st.tk
  rw [itf_cg (B := B_X10_placeOf_2 38 t a) (B' := B_X10_placeOf_2 38 s a) (fun x hx => ?_) (fun x y hx e => ?_) BIG 0 (by decide)]
  · unfold B_X10_placeOf_2
    rw [tk.n]
    by_cases c0 : s (38 + 3) 3 ≤ x
    · rw [if_pos c0, if_pos c0]
    · rw [if_neg c0, if_neg c0]
      have := i_nle c0
      rw [(tk.ob x.toNatClampNeg (by rw [tn]; omega)).1]
  · unfold B_X10_placeOf_2 at e
    by_cases c0 : t (38 + 3) 3 ≤ x
    · rw [if_pos c0] at e; cases e
    · rw [if_neg c0] at e
      by_cases c1 : 10 ≤ x
      · rw [if_pos c1] at e; cases e
      · rw [if_neg c1] at e
        have h2 : x.toInt < 10 := i_nle c1
        by_cases c2 : t (38 + 4) x.toNatClampNeg = a
        · rw [if_pos c2] at e; cases e
        · rw [if_neg c2] at e
          have e2 : x + 1 = y := congrArg Prod.snd e
          rw [← e2, i_add1 (by omega)]; omega
theorem dv_itemOf (h : Dv s t) {a : Int32} : D_X2_itemOf t a = D_X2_itemOf s a := by
  unfold D_X2_itemOf R_X2_itemOf_37
  rw [show B_X2_itemOf_2 t a = B_X2_itemOf_2 s a from funext fun x => by unfold B_X2_itemOf_2; rw [h.lo 20 2 (by decide), h.lo 21 _ (by decide)]]
theorem dv_countOf (h : Dv s t) {a : Int32} : D_X8_countOf t a = D_X8_countOf s a := by
  unfold D_X8_countOf R_X8_countOf_37
  rw [show B_X8_countOf_4 t a = B_X8_countOf_4 s a from funext fun x => funext fun y => by unfold B_X8_countOf_4; rw [h.lo 11 8 (by decide), h.lo 12 _ (by decide)]]
theorem dv_ofObject (h : Dv s t) {a x : Int32} : D_X11_ofObject t a x = D_X11_ofObject s a x := by
  unfold D_X11_ofObject
  rw [dv_has6 h, dv_countOf h, dv_def h, dv_itemOf h, dv_place h]
theorem dv_ofSection (h : Dv s t) {a x : Int32} : D_X11_ofSection t a x = D_X11_ofSection s a x := by
  unfold D_X11_ofSection
  rw [dv_has8 h, show D_X8_objectOf t a = D_X8_objectOf s a by unfold D_X8_objectOf; rw [dv_has8 h, h.lo 12 _ (by decide)], show D_X8_align t a = D_X8_align s a by unfold D_X8_align; rw [dv_has8 h, h.lo 13 _ (by decide)], show D_X8_pieces t a = D_X8_pieces s a by unfold D_X8_pieces; rw [dv_has8 h, h.lo 15 _ (by decide)], hs_eq h.rt.b5, dv_addr h, dv_words h, dv_longs h]
theorem dv_nm {f : Nat → Int32} {g : Nat → Int32} {a d : Int32} (h : ∀ j, j < 20 → g j = f j) : (if D_X11_isName a = 0 then d else g a.toNatClampNeg) = (if D_X11_isName a = 0 then d else f a.toNatClampNeg) := by
  by_cases c : D_X11_isName a = 0
  · rw [if_pos c, if_pos c]
  · rw [if_neg c, if_neg c, h _ (rg_nat (rg_isName c)).1]
theorem dv_ofName (h : Dv s t) {a x : Int32} : D_X11_ofName t a x = D_X11_ofName s a x := by
  unfold D_X11_ofName
  rw [x9_kind h.rt.st, show D_X9_objectOf 38 t a = D_X9_objectOf 38 s a from dv_nm h.rt.st.k7, show D_X3_addressOfName 38 t a = D_X3_addressOfName 38 s a from dv_nm h.pc.nm, x7_import h.rt, show D_X7_references 38 t a = D_X7_references 38 s a from dv_nm h.rt.rf]
theorem dv_fault (h : Dv s t) {a x : Int32} : D_X11_fault t a x = D_X11_fault s a x := by
  unfold D_X11_fault
  rw [dv_count h]
  by_cases c0 : a < 0
  · rw [if_pos c0, if_pos c0]
  · rw [if_neg c0, if_neg c0]
    by_cases c1 : a < D_X0_count 38 s
    · rw [if_pos c1, if_pos c1]
      by_cases c2 : x < 0
      · rw [if_pos c2, if_pos c2]
      · rw [if_neg c2, if_neg c2]
        by_cases c3 : x < 4
        · rw [if_pos c3, if_pos c3]
          have h1 : a.toInt < (s (38 + 1) 1).toInt := Int32.lt_iff_toInt_lt.mp c1
          have h2 := h.fl.n1
          have h3 : x.toInt < 4 := i_lt2 c3 rfl
          have h4 : (0 : Int) ≤ a.toInt := i_ge c0 rfl
          have h5 : (0 : Int) ≤ x.toInt := i_ge c2 rfl
          have e : ((a * 4) + x).toNatClampNeg = a.toNatClampNeg * 4 + x.toNatClampNeg := i_ma (n := 405) (m := 4) 4 4 rfl ⟨h4, by omega⟩ ⟨h5, by omega⟩ (by decide) (by decide)
          unfold D_X0_part
          rw [h.fl.fa _ (by rw [e, tn, tn]; omega)]
        · rw [if_neg c3, if_neg c3]
    · rw [if_neg c1, if_neg c1]
theorem dv_word (h : Dv s t) {wl wl' : Nat} (hW : wl < 2000000) (hW' : wl' < 2000000) (h1 : (D_X3_size 38 s).toInt ≤ wl) (h2 : (D_X3_size 38 s).toInt ≤ wl') {x : Int32} : D_X11_wordAt wl' t x = D_X11_wordAt wl s x := by
  unfold D_X11_wordAt
  rw [dv_size h]
  by_cases c0 : x < 0
  · rw [if_pos c0, if_pos c0]
  · rw [if_neg c0, if_neg c0]
    by_cases c1 : x < D_X3_size 38 s
    · rw [if_pos c1, if_pos c1]
      have h3 := Int32.lt_iff_toInt_lt.mp c1
      have h4 : (0 : Int) ≤ x.toInt := i_ge c0 rfl
      unfold D_X1_read
      rw [if_neg c0, if_neg c0, if_neg (fun q => by have := i_le q (i_wl hW'); omega), if_neg (fun q => by have := i_le q (i_wl hW); omega), h.wo _ (by rw [tn]; omega)]
    · rw [if_neg c1, if_neg c1]
end DV
