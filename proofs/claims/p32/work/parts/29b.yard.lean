/-! the yard over a world -/
def Ya (b w : Nat) (H : List EC) (s : Sg) (nd : Nat) (dO dN : Nat → Int32) (aS aP aD aI : Nat) : Prop :=
  Aa b w H aS 3 (s 11 8).toInt.toNat (fun i r => Row1 b w H r (s 12 i)) ∧
  Aa b w H aP 4 (s 11 8).toInt.toNat (fun i r => Aa b w H r 3 (s 15 i).toInt.toNat (fun _ q => Row0 b w H q)) ∧
  Aa b w H aD 3 nd (fun i r => Row2 b w H r (dO i) (dN i)) ∧
  Aa b w H aI 3 (s 20 2).toInt.toNat (fun _ r => Row0 b w H r)
theorem ya_xt {b w w' : Nat} {H H' : List EC} {s : Sg} {nd : Nat} {dO dN : Nat → Int32} {aS aP aD aI : Nat} (hx : Xt 9 b w H w' H') (h : Ya b w H s nd dO dN aS aP aD aI) : Ya b w' H' s nd dO dN aS aP aD aI := by
  obtain ⟨h1, h2, h3, h4⟩ := h
  exact ⟨aa_xt (by decide) hx h1 (fun i r q => row1_xt (by decide) hx q), aa_xt (by decide) hx h2 (fun i r q => aa_xt (by decide) hx q (fun _ z q2 => row0_xt (by decide) hx q2)), aa_xt (by decide) hx h3 (fun i r q => row2_xt (by decide) hx q), aa_xt (by decide) hx h4 (fun i r q => row0_xt (by decide) hx q)⟩
theorem aa_cg {b w a t L L' : Nat} {H : List EC} {P Q : Nat → Nat → Prop} (h : Aa b w H a t L P) (hl : L' = L) (h2 : ∀ i r, i < L → P i r → Q i r) : Aa b w H a t L' Q := by
  obtain ⟨vs, h3, h4, h5⟩ := h
  subst hl
  exact ⟨vs, h3, h4, fun i hi => by obtain ⟨r, r1, r2⟩ := h5 i hi; exact ⟨r, r1, h2 i r hi r2⟩⟩
theorem ya_cg {b w : Nat} {H : List EC} {s t : Sg} {nd : Nat} {dO dN : Nat → Int32} {aS aP aD aI : Nat} (h : Ya b w H s nd dO dN aS aP aD aI) (h11 : t 11 8 = s 11 8) (h12 : ∀ i, t 12 i = s 12 i) (h15 : ∀ i, t 15 i = s 15 i) (h20 : t 20 2 = s 20 2) : Ya b w H t nd dO dN aS aP aD aI := by
  obtain ⟨h1, h2, h3, h4⟩ := h
  exact ⟨aa_cg h1 (by rw [h11]) (fun i r _ q => by rw [h12]; exact q), aa_cg h2 (by rw [h11]) (fun i r _ q => by rw [h15]; exact q), h3, aa_cg h4 (by rw [h20]) (fun i r _ q => q)⟩
theorem ofn {x : Int32} (h0 : 0 ≤ x.toInt) : Int32.ofNat x.toInt.toNat = x := by
  have e : Int32.ofNat x.toInt.toNat = Int32.ofInt (x.toInt.toNat : Int) := rfl
  rw [e, Int.toNat_of_nonneg h0, Int32.ofInt_toInt]
def Yb (b y w wl : Nat) (H : List EC) (s : Sg) (k1 k2 m : Nat) (c : Int) (e k : Nat) (ob : Int32) : Prop :=
  (WOK b w H) ∧
  (wl ≤ 6000) ∧
  (NN s) ∧
  (k1 ≤ m) ∧
  (k2 ≤ 100 * m) ∧
  (Ti c s) ∧
  (L0 s) ∧
  (0 ≤ (s 23 13).toInt) ∧
  (s 0 7 = 40 ∧ s 0 8 = 9999) ∧
  ((k : Int) ≤ (s 1 9).toInt) ∧
  (∃ (dr : Int32) (aS aP aD aI : Nat) (rest : List Value) (nd : Nat) (dO dN : Nat → Int32), Oc b w H y (yc b dr ob aS aP aD aI rest) ∧ 0 ≤ dr.toInt ∧ dr.toInt ≤ m ∧ nd ≤ e ∧ DC s nd dO dN ∧ Ya b w H s nd dO dN aS aP aD aI)
theorem Yb.ok {b y w wl : Nat} {H : List EC} {s : Sg} {k1 k2 m : Nat} {c : Int} {e k : Nat} {ob : Int32} (h : Yb b y w wl H s k1 k2 m c e k ob) : WOK b w H := h.1
theorem Yb.w1 {b y w wl : Nat} {H : List EC} {s : Sg} {k1 k2 m : Nat} {c : Int} {e k : Nat} {ob : Int32} (h : Yb b y w wl H s k1 k2 m c e k ob) : wl ≤ 6000 := h.2.1
theorem Yb.nn {b y w wl : Nat} {H : List EC} {s : Sg} {k1 k2 m : Nat} {c : Int} {e k : Nat} {ob : Int32} (h : Yb b y w wl H s k1 k2 m c e k ob) : NN s := h.2.2.1
theorem Yb.b1 {b y w wl : Nat} {H : List EC} {s : Sg} {k1 k2 m : Nat} {c : Int} {e k : Nat} {ob : Int32} (h : Yb b y w wl H s k1 k2 m c e k ob) : k1 ≤ m := h.2.2.2.1
theorem Yb.b2 {b y w wl : Nat} {H : List EC} {s : Sg} {k1 k2 m : Nat} {c : Int} {e k : Nat} {ob : Int32} (h : Yb b y w wl H s k1 k2 m c e k ob) : k2 ≤ 100 * m := h.2.2.2.2.1
theorem Yb.ti {b y w wl : Nat} {H : List EC} {s : Sg} {k1 k2 m : Nat} {c : Int} {e k : Nat} {ob : Int32} (h : Yb b y w wl H s k1 k2 m c e k ob) : Ti c s := h.2.2.2.2.2.1
theorem Yb.lib {b y w wl : Nat} {H : List EC} {s : Sg} {k1 k2 m : Nat} {c : Int} {e k : Nat} {ob : Int32} (h : Yb b y w wl H s k1 k2 m c e k ob) : L0 s := h.2.2.2.2.2.2.1
theorem Yb.lc {b y w wl : Nat} {H : List EC} {s : Sg} {k1 k2 m : Nat} {c : Int} {e k : Nat} {ob : Int32} (h : Yb b y w wl H s k1 k2 m c e k ob) : 0 ≤ (s 23 13).toInt := h.2.2.2.2.2.2.2.1
theorem Yb.rl {b y w wl : Nat} {H : List EC} {s : Sg} {k1 k2 m : Nat} {c : Int} {e k : Nat} {ob : Int32} (h : Yb b y w wl H s k1 k2 m c e k ob) : s 0 7 = 40 ∧ s 0 8 = 9999 := h.2.2.2.2.2.2.2.2.1
theorem Yb.o5 {b y w wl : Nat} {H : List EC} {s : Sg} {k1 k2 m : Nat} {c : Int} {e k : Nat} {ob : Int32} (h : Yb b y w wl H s k1 k2 m c e k ob) : (k : Int) ≤ (s 1 9).toInt := h.2.2.2.2.2.2.2.2.2.1
theorem Yb.ya {b y w wl : Nat} {H : List EC} {s : Sg} {k1 k2 m : Nat} {c : Int} {e k : Nat} {ob : Int32} (h : Yb b y w wl H s k1 k2 m c e k ob) : ∃ (dr : Int32) (aS aP aD aI : Nat) (rest : List Value) (nd : Nat) (dO dN : Nat → Int32), Oc b w H y (yc b dr ob aS aP aD aI rest) ∧ 0 ≤ dr.toInt ∧ dr.toInt ≤ m ∧ nd ≤ e ∧ DC s nd dO dN ∧ Ya b w H s nd dO dN aS aP aD aI := h.2.2.2.2.2.2.2.2.2.2
theorem Yb.le {b y w wl : Nat} {H : List EC} {s : Sg} {k1 k2 m : Nat} {c : Int} {e k : Nat} {ob : Int32} {m' : Nat} {c' : Int} {e' : Nat} (h : Yb b y w wl H s k1 k2 m c e k ob) (hm : m ≤ m') (hc : c ≤ c') (he : e ≤ e') : Yb b y w wl H s k1 k2 m' c' e' k ob := by
  obtain ⟨dr, aS, aP, aD, aI, rest, nd, dO, dN, h1, h2, h3, h4, h5, h6⟩ := h.ya
  have b1 := h.b1; have b2 := h.b2
  exact ⟨h.ok, h.w1, h.nn, by omega, by omega, h.ti.le hc, h.lib, h.lc, h.rl, h.o5, dr, aS, aP, aD, aI, rest, nd, dO, dN, h1, h2, by omega, by omega, h5, h6⟩
section Y2
variable {sc : Nat × (Nat → Int32)} {b w wl y : Nat} {H : List EC} {s : Sg} {k1 k2 : Nat}
/-- a draw, with all that stays -/
theorem yd (hL : sc.1 ≤ 260) (hP : WOK b w H) {dr ob : Int32} {aS aP aD aI : Nat} {rest : List Value} (hy : Oc b w H y (yc b dr ob aS aP aD aI rest)) {nd : Nat} {dO dN : Nat → Int32} (hA : Ya b w H s nd dO dN aS aP aD aI) (h0 : 0 ≤ dr.toInt) (h1 : dr.toInt < 2000000000) {n : Int32} (hn : 0 < n.toInt) :
    ∃ (v : Int32) (H1 : List EC) (d1 : Int32), 0 ≤ v.toInt ∧ v.toInt < n.toInt ∧ Rc sc 2 200 [.ref y, .int n] (wd b w wl H s, k1, k2) (some (.int v)) (wd b w wl H1 s, k1, k2) ∧ WOK b w H1 ∧ Oc b w H1 y (yc b d1 ob aS aP aD aI rest) ∧ d1.toInt = dr.toInt + 1 ∧ Ya b w H1 s nd dO dN aS aP aD aI ∧ Xt 9 b w H w H1 := by
  obtain ⟨v, v0, v1, hr⟩ := rc_draw (sc := sc) (wl := wl) (s := s) (kn := (k1, k2)) hP hy hL h0 hn
  have hx : Xt 9 b w H w (H.set y (yc b (dr + 1) ob aS aP aD aI rest)) := xt_obj (k := 12) hy
  exact ⟨v, _, dr + 1, v0, v1, hr, wok_set hP, oc_self hy, i_add1 (by omega), ya_xt hx hA, hx⟩
/-- one more in a row of rows: a new row of rows, its last one r -/
theorem yw {t tc nm a r L : Nat} {P : Nat → Nat → Prop} {us : List Value} (ht : (t = 3 ∧ tc = 0 ∧ nm = 201) ∨ (t = 4 ∧ tc = 3 ∧ nm = 202)) (hP : WOK b w H) (hA : Aa b w H a t L P) (hl : L ≤ 50) (hc : ∀ i z, P i z → ∃ us, Oc b w H z (.inl tc, us)) (hr : Oc b w H r (.inl tc, us)) :
    ∃ (H1 : List EC) (j1 j2 : Nat), Rc sc 1 nm [.ref a, .ref r] (wd b w wl H s, k1, k2) (some (.ref H.length)) (wd b w wl H1 s, j1, j2) ∧ j1 = k1 + 1 ∧ k2 ≤ j2 ∧ j2 ≤ k2 + 51 ∧ WOK b w H1 ∧ Xt 9 b w H w H1 ∧ (∀ z c, Oc b w H z c → Oc b w H1 z c) ∧ Aa b w H1 H.length t (L + 1) (fun i z => (i < L ∧ P i z) ∨ (i = L ∧ z = r)) := by
  obtain ⟨vs, h1, h2, h3⟩ := hA
  have he : ∀ v ∈ vs, ∃ r us, v = .ref r ∧ Oc b w H r (.inl tc, us) := fun v hv => by
    obtain ⟨i, hi, e⟩ := List.getElem_of_mem hv
    obtain ⟨z, z1, z2⟩ := h3 i (by omega)
    obtain ⟨u, hu⟩ := hc i z z2
    rw [List.getElem?_eq_getElem hi, e] at z1
    exact ⟨z, u, Option.some.inj z1, hu⟩
  have hnew : Aa b w (H ++ [(.inl t, vs ++ [.ref r])]) H.length t (L + 1) (fun i z => (i < L ∧ P i z) ∨ (i = L ∧ z = r)) := by
    refine ⟨_, oc_top hP, by rw [List.length_append, h2]; rfl, fun i hi => ?_⟩
    by_cases c : i < L
    · obtain ⟨z, z1, z2⟩ := h3 i c
      exact ⟨z, by rw [List.getElem?_append_left (by omega)]; exact z1, Or.inl ⟨c, z2⟩⟩
    · have e : i = L := by omega
      exact ⟨r, by rw [e, ← h2, List.getElem?_append_right (Nat.le_refl _), Nat.sub_self]; rfl, Or.inr ⟨e, rfl⟩⟩
  rcases ht with ⟨rfl, rfl, rfl⟩ | ⟨rfl, rfl, rfl⟩
  · exact ⟨_, _, _, rc_with (kn := (k1, k2)) hP h1 (by omega) he hr, rfl, by omega, by show k2 + (vs.length + 1) ≤ _; omega, wok_push hP, xt_push, fun _ _ q => oc_push q, hnew⟩
  · exact ⟨_, _, _, rc_plus (kn := (k1, k2)) hP h1 (by omega) he hr, rfl, by omega, by show k2 + (vs.length + 1) ≤ _; omega, wok_push hP, xt_push, fun _ _ q => oc_push q, hnew⟩
theorem shl_4 {v : Int32} (h0 : 0 ≤ v.toInt) (h1 : v.toInt < 4) : al8 ((1 : Int32) <<< (v &&& 31)) := by
  obtain ⟨k, hk, rfl⟩ := q_small (⟨h0, h1⟩ : rg v 4)
  have : k = 0 ∨ k = 1 ∨ k = 2 ∨ k = 3 := by omega
  rcases this with rfl | rfl | rfl | rfl
  · exact Or.inl (by decide)
  · exact Or.inr (Or.inl (by decide))
  · exact Or.inr (Or.inr (Or.inl (by decide)))
  · exact Or.inr (Or.inr (Or.inr (by decide)))
end Y2
