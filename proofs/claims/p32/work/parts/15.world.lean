/-! the cells of one LinkHarbour: its object at b, all that its constructor makes behind it (82 cells), the row of words at w (wl of them); a number each slot (Sg: cell, slot) -/
abbrev Sg : Type := Nat → Nat → Int32
def upf (f : Nat → Int32) (j : Nat) (v : Int32) : Nat → Int32 := fun i => bif Nat.beq i j then v else f i
def up (s : Sg) (k j : Nat) (v : Int32) : Sg := fun i => bif Nat.beq i k then upf (s k) j v else s i
def ar (n : Nat) (f : Nat → Int32) : List Value := (List.range n).map (fun j => .int (f j))
def rg (i : Int32) (n : Nat) : Prop := 0 ≤ i.toInt ∧ i.toInt < n
def bz (x : Int32) : Bool := decide (x = 0) || decide (x = 1)
def zb (x : Int32) : Int32 := bif decide (x = 0) then 0 else 1
theorem bz_zb {x : Int32} : bz (zb x) = true := by
  unfold zb
  cases decide (x = 0) <;> rfl
theorem zb_of {x : Int32} (h : bz x = true) : zb x = x := by
  unfold bz at h
  rcases (Bool.or_eq_true _ _).mp h with h | h
  · rw [of_decide_eq_true h]; rfl
  · rw [of_decide_eq_true h]; rfl
theorem zb_0 {x : Int32} : zb x = 0 ↔ x = 0 := by
  unfold zb
  cases h : decide (x = 0) with
  | true => exact ⟨fun _ => of_decide_eq_true h, fun _ => rfl⟩
  | false => exact ⟨fun q => absurd q (by decide), fun q => absurd q (of_decide_eq_false h)⟩
def mkm (b w : Nat) : Nat → (Nat → Int32) → EC := (ev_tr 19 (ev_tr 9 (ev_tr 4 (ev_tr 2 (ev_tr 1 (fun _ f => (.inr 11, [.ref (b + 1), .ref (b + 11), .ref (b + 20), .ref (b + 23), .ref (b + 36), .ref (b + 38), .ref (b + 60), .int (f 7), .int (f 8)])) (fun _ f => (.inr 6, [.ref (b + 2), .ref (b + 3), .ref (b + 4), .ref (b + 5), .ref (b + 6), .ref (b + 7), .ref (b + 8), .ref (b + 9), .ref (b + 10), .int (f 9)]))) (ev_tr 3 (fun _ f => (.inl 0, ar 10 f)) (fun _ f => (.inl 0, ar 10 f)))) (ev_tr 6 (ev_tr 5 (fun _ f => (.inl 0, ar 10 f)) (fun _ f => (.inl 0, ar 200 f))) (ev_tr 7 (fun _ f => (.inl 0, ar 200 f)) (ev_tr 8 (fun _ f => (.inl 0, ar 200 f)) (fun _ f => (.inl 0, ar 200 f)))))) (ev_tr 14 (ev_tr 11 (ev_tr 10 (fun _ f => (.inl 0, ar 200 f)) (fun _ f => (.inl 0, ar 10 f))) (ev_tr 12 (fun _ f => (.inr 8, [.ref (b + 12), .ref (b + 13), .ref (b + 14), .ref (b + 15), .ref (b + 16), .ref (b + 17), .ref (b + 18), .ref (b + 19), .int (f 8)])) (ev_tr 13 (fun _ f => (.inl 0, ar 24 f)) (fun _ f => (.inl 0, ar 24 f))))) (ev_tr 16 (ev_tr 15 (fun _ f => (.inl 1, ar 24 f)) (fun _ f => (.inl 0, ar 24 f))) (ev_tr 17 (fun _ f => (.inl 0, ar 192 f)) (ev_tr 18 (fun _ f => (.inl 0, ar 192 f)) (fun _ f => (.inl 0, ar 192 f))))))) (ev_tr 28 (ev_tr 23 (ev_tr 21 (ev_tr 20 (fun _ f => (.inl 1, ar 192 f)) (fun _ f => (.inr 2, [.ref (b + 21), .ref (b + 22), .int (f 2)]))) (ev_tr 22 (fun _ f => (.inl 0, ar 8 f)) (fun _ f => (.inl 0, ar 8 f)))) (ev_tr 25 (ev_tr 24 (fun _ f => (.inr 4, [.ref (b + 24), .ref (b + 25), .ref (b + 26), .ref (b + 27), .ref (b + 28), .ref (b + 29), .ref (b + 30), .ref (b + 31), .ref (b + 32), .ref (b + 33), .ref (b + 34), .ref (b + 35), .int (f 12), .int (f 13), .int (f 14), .int (f 15)])) (fun _ f => (.inl 0, ar 6 f))) (ev_tr 26 (fun _ f => (.inl 0, ar 6 f)) (ev_tr 27 (fun _ f => (.inl 0, ar 6 f)) (fun _ f => (.inl 0, ar 6 f)))))) (ev_tr 33 (ev_tr 30 (ev_tr 29 (fun _ f => (.inl 0, ar 120 f)) (fun _ f => (.inl 0, ar 6 f))) (ev_tr 31 (fun _ f => (.inl 0, ar 6 f)) (ev_tr 32 (fun _ f => (.inl 0, ar 120 f)) (fun _ f => (.inl 0, ar 6 f))))) (ev_tr 35 (ev_tr 34 (fun _ f => (.inl 0, ar 6 f)) (fun _ f => (.inl 0, ar 6 f))) (ev_tr 36 (fun _ f => (.inl 0, ar 6 f)) (ev_tr 37 (fun _ f => (.inr 1, [.ref w])) (fun _ f => (.inl 0, ar 64 f))))))))
def mkl (b q : Nat) : Nat → (Nat → Int32) → EC := (ev_tr 11 (ev_tr 5 (ev_tr 2 (ev_tr 1 (fun _ f => (.inr 5, [.ref (b + 11), .ref (b + (q + 3)), .ref (b + (q + 5)), .ref (b + (q + 12)), .ref (b + (q + 15)), .ref (b + (q + 1)), .int (zb (f 6)), .int (zb (f 7)), .int (f 8)])) (fun _ f => (.inr 0, [.ref (b + (q + 2)), .int (f 1)]))) (ev_tr 3 (fun _ f => (.inl 0, ar 1620 f)) (ev_tr 4 (fun _ f => (.inr 10, [.ref (b + 1), .ref (b + 20), .ref (b + (q + 4)), .int (f 3), .int (f 4), .int (f 5), .int (f 6)])) (fun _ f => (.inl 0, ar 10 f))))) (ev_tr 8 (ev_tr 6 (fun _ f => (.inr 9, [.ref (b + 1), .ref (b + (q + 3)), .ref (b + (q + 6)), .ref (b + (q + 7)), .ref (b + (q + 8)), .ref (b + (q + 9)), .ref (b + (q + 10)), .ref (b + (q + 11)), .int (f 8), .int (f 9)])) (ev_tr 7 (fun _ f => (.inl 0, ar 20 f)) (fun _ f => (.inl 0, ar 20 f)))) (ev_tr 9 (fun _ f => (.inl 0, ar 20 f)) (ev_tr 10 (fun _ f => (.inl 0, ar 20 f)) (fun _ f => (.inl 0, ar 20 f)))))) (ev_tr 16 (ev_tr 13 (ev_tr 12 (fun _ f => (.inl 0, ar 20 f)) (fun _ f => (.inr 7, [.ref (b + 11), .ref (b + (q + 3)), .ref (b + (q + 5)), .ref (b + (q + 13)), .int (f 4), .int (f 5), .int (f 6), .int (f 7), .ref (b + (q + 14))]))) (ev_tr 14 (fun _ f => (.inl 0, ar 24 f)) (ev_tr 15 (fun _ f => (.inl 0, ar 20 f)) (fun _ f => (.inr 3, [.ref (b + 11), .ref (b + (q + 3)), .ref (b + (q + 5)), .ref (b + (q + 12)), .ref (b + (q + 16)), .int (f 5), .ref (b + (q + 17)), .ref (b + (q + 18)), .ref (b + (q + 19)), .ref (b + (q + 20)), .ref (b + (q + 21)), .int (f 11), .int (f 12)]))))) (ev_tr 19 (ev_tr 17 (fun _ f => (.inl 0, ar 24 f)) (ev_tr 18 (fun _ f => (.inl 0, ar 24 f)) (fun _ f => (.inl 0, ar 24 f)))) (ev_tr 20 (fun _ f => (.inl 0, ar 24 f)) (ev_tr 21 (fun _ f => (.inl 0, ar 192 f)) (fun _ f => (.inl 0, ar 20 f)))))))
def mkc (b w k : Nat) (f : Nat → Int32) : EC := bif Nat.ble 60 k then mkl b 60 (k - 60) f else bif Nat.ble 38 k then mkl b 38 (k - 38) f else mkm b w k f
def wd1 (b w wl : Nat) (H0 : List EC) (s : Sg) (a : Nat) : EC := bif Nat.beq a w then (.inl 0, ar wl (s 37)) else bif (Nat.ble b a && Nat.ble (a + 1) (b + 82)) && !Nat.beq a (b + 37) then mkc b w (a - b) (s (a - b)) else H0.getD a (.inl 0, [])
def wd (b w wl : Nat) (H0 : List EC) (s : Sg) : List EC := (List.range H0.length).map (wd1 b w wl H0 s)
def WOK (b w : Nat) (H0 : List EC) : Prop := b + 82 ≤ H0.length ∧ w < H0.length ∧ (w = b + 37 ∨ w < b ∨ b + 82 ≤ w)
theorem nb_f {a b : Nat} (h : a ≠ b) : Nat.beq a b = false := by
  cases hq : Nat.beq a b with
  | false => rfl
  | true => exact absurd (Nat.eq_of_beq_eq_true hq) h
theorem nb_b {a b : Nat} (h : ¬ a ≤ b) : Nat.ble a b = false := by
  cases hq : Nat.ble a b with
  | false => rfl
  | true => exact absurd (Nat.le_of_ble_eq_true hq) h
theorem up_ne {s : Sg} {k j i : Nat} {v : Int32} (h : i ≠ k) : up s k j v i = s i := by
  unfold up; rw [nb_f h]; rfl
theorem up_eq {s : Sg} {k j : Nat} {v : Int32} : up s k j v k = upf (s k) j v := by
  unfold up; rw [show Nat.beq k k = true from Nat.beq_refl k]; rfl
theorem upf_eq {f : Nat → Int32} {j : Nat} {v : Int32} : upf f j v j = v := by
  unfold upf; rw [show Nat.beq j j = true from Nat.beq_refl j]; rfl
theorem upf_ne {f : Nat → Int32} {j i : Nat} {v : Int32} (h : i ≠ j) : upf f j v i = f i := by
  unfold upf; rw [nb_f h]; rfl
section WD
variable {b w wl : Nat} {H0 : List EC} {s : Sg} {kn : Nat × Nat}
theorem wd_len : (wd b w wl H0 s).length = H0.length := by unfold wd; rw [List.length_map, List.length_range]
theorem wd_get {a : Nat} (h : a < H0.length) : (wd b w wl H0 s)[a]? = some (wd1 b w wl H0 s a) := by
  unfold wd; rw [List.getElem?_map, List.getElem?_range h]; rfl
theorem wd1_at (hP : WOK b w H0) {k : Nat} (hk : k < 82) (h37 : k ≠ 37) : wd1 b w wl H0 s (b + k) = mkc b w k (s k) := by
  obtain ⟨h1, h2, h3⟩ := hP
  unfold wd1
  rw [nb_f (show b + k ≠ w by omega), Nat.ble_eq_true_of_le (show b ≤ b + k by omega), Nat.ble_eq_true_of_le (show b + k + 1 ≤ b + 82 by omega), nb_f (show b + k ≠ b + 37 by omega), Nat.add_sub_cancel_left]
  rfl
theorem wd_at (hP : WOK b w H0) {k : Nat} (hk : k < 82) (h37 : k ≠ 37) : (wd b w wl H0 s)[b + k]? = some (mkc b w k (s k)) := by
  rw [wd_get (by have := hP.1; omega), wd1_at hP hk h37]
theorem wd_w (hP : WOK b w H0) : (wd b w wl H0 s)[w]? = some (.inl 0, ar wl (s 37)) := by
  rw [wd_get hP.2.1]
  unfold wd1
  rw [show Nat.beq w w = true from Nat.beq_refl w]
  rfl
theorem wd_set (hP : WOK b w H0) {k j : Nat} {v : Int32} (hk : k < 82) (h37 : k ≠ 37) : ((wd b w wl H0 s).set (b + k) (mkc b w k (upf (s k) j v)), kn) = (wd b w wl H0 (up s k j v), kn) := by
  congr 1
  apply List.ext_getElem?
  intro a
  rw [List.getElem?_set, wd_len]
  by_cases ha : b + k = a
  · subst ha
    have hl : b + k < H0.length := by have := hP.1; omega
    rw [if_pos rfl, if_pos hl, wd_at hP hk h37, up_eq]
  · rw [if_neg ha]
    by_cases hl : a < H0.length
    · rw [wd_get hl, wd_get hl]
      unfold wd1
      cases hw : Nat.beq a w with
      | true =>
        rw [up_ne (fun e => h37 e.symm)]
        rfl
      | false =>
        cases hb : ((Nat.ble b a && Nat.ble (a + 1) (b + 82)) && !Nat.beq a (b + 37)) with
        | false => rfl
        | true =>
          simp only [Bool.and_eq_true] at hb
          have h5 := Nat.le_of_ble_eq_true hb.1.1
          rw [up_ne (show a - b ≠ k by omega)]
          rfl
    · rw [List.getElem?_eq_none (by rw [wd_len]; omega), List.getElem?_eq_none (by rw [wd_len]; omega)]
theorem wd_setw (hP : WOK b w H0) {j : Nat} {v : Int32} : ((wd b w wl H0 s).set w (.inl 0, ar wl (upf (s 37) j v)), kn) = (wd b w wl H0 (up s 37 j v), kn) := by
  congr 1
  apply List.ext_getElem?
  intro a
  rw [List.getElem?_set, wd_len]
  by_cases ha : w = a
  · subst ha
    rw [if_pos rfl, if_pos hP.2.1, wd_w hP, up_eq]
  · rw [if_neg ha]
    by_cases hl : a < H0.length
    · rw [wd_get hl, wd_get hl]
      unfold wd1
      rw [nb_f (fun e => ha e.symm)]
      cases hb : ((Nat.ble b a && Nat.ble (a + 1) (b + 82)) && !Nat.beq a (b + 37)) with
      | false => rfl
      | true =>
        simp only [Bool.and_eq_true] at hb
        have h5 := Nat.le_of_ble_eq_true hb.1.1
        have h6 : a - b ≠ 37 := fun e => by
          have h7 : a = b + 37 := by omega
          rw [h7, show Nat.beq (b + 37) (b + 37) = true from Nat.beq_refl _] at hb
          cases hb.2
        rw [up_ne h6]
        rfl
    · rw [List.getElem?_eq_none (by rw [wd_len]; omega), List.getElem?_eq_none (by rw [wd_len]; omega)]
theorem rg_nat {i : Int32} {n : Nat} (h : rg i n) : i.toNatClampNeg < n ∧ ¬ i < 0 := by
  obtain ⟨h1, h2⟩ := h
  refine ⟨?_, fun q => ?_⟩
  · show i.toInt.toNat < n
    omega
  · have h3 : i.toInt < (0 : Int32).toInt := Int32.lt_iff_toInt_lt.mp q
    have h4 : (0 : Int32).toInt = 0 := rfl
    omega
theorem ar_len {n : Nat} {f : Nat → Int32} : (ar n f).length = n := by unfold ar; rw [List.length_map, List.length_range]
theorem ar_get {n j : Nat} {f : Nat → Int32} (h : j < n) : (ar n f)[j]? = some (.int (f j)) := by
  unfold ar; rw [List.getElem?_map, List.getElem?_range h]; rfl
theorem ar_at {n : Nat} {f : Nat → Int32} {i : Int32} (h : rg i n) : ev_at (ar n f) i = some (.int (f i.toNatClampNeg)) := by
  obtain ⟨h1, h2⟩ := rg_nat h
  exact ev_at_of h2 rfl (ar_get h1)
theorem ar_set {n j : Nat} {f : Nat → Int32} {v : Int32} (h : j < n) : (ar n f).set j (.int v) = ar n (upf f j v) := by
  apply List.ext_getElem?
  intro a
  rw [List.getElem?_set, ar_len]
  by_cases ha : j = a
  · subst ha
    rw [if_pos rfl, if_pos h, ar_get h, upf_eq]
  · rw [if_neg ha]
    by_cases hl : a < n
    · rw [ar_get hl, ar_get hl, upf_ne (fun e => ha e.symm)]
    · rw [List.getElem?_eq_none (by rw [ar_len]; omega), List.getElem?_eq_none (by rw [ar_len]; omega)]
theorem wg_0 (hP : WOK b w H0) : (wd b w wl H0 s)[b]? = some (.inr 11, [.ref (b + 1), .ref (b + 11), .ref (b + 20), .ref (b + 23), .ref (b + 36), .ref (b + 38), .ref (b + 60), .int (s 0 7), .int (s 0 8)]) := wd_at hP (k := 0) (by decide) (by decide)
theorem ws_0_7 (hP : WOK b w H0) {v : Int32} : ((wd b w wl H0 s).set (b) (.inr 11, [.ref (b + 1), .ref (b + 11), .ref (b + 20), .ref (b + 23), .ref (b + 36), .ref (b + 38), .ref (b + 60), .int (s 0 7), .int (s 0 8)].set 7 (.int v)), kn) = (wd b w wl H0 (up s 0 7 v), kn) := wd_set (wl := wl) (s := s) (kn := kn) (j := 7) (v := v) hP (k := 0) (by decide) (by decide)
theorem ws_0_8 (hP : WOK b w H0) {v : Int32} : ((wd b w wl H0 s).set (b) (.inr 11, [.ref (b + 1), .ref (b + 11), .ref (b + 20), .ref (b + 23), .ref (b + 36), .ref (b + 38), .ref (b + 60), .int (s 0 7), .int (s 0 8)].set 8 (.int v)), kn) = (wd b w wl H0 (up s 0 8 v), kn) := wd_set (wl := wl) (s := s) (kn := kn) (j := 8) (v := v) hP (k := 0) (by decide) (by decide)
theorem wg_1 (hP : WOK b w H0) : (wd b w wl H0 s)[b + 1]? = some (.inr 6, [.ref (b + 2), .ref (b + 3), .ref (b + 4), .ref (b + 5), .ref (b + 6), .ref (b + 7), .ref (b + 8), .ref (b + 9), .ref (b + 10), .int (s 1 9)]) := wd_at hP (k := 1) (by decide) (by decide)
theorem ws_1_9 (hP : WOK b w H0) {v : Int32} : ((wd b w wl H0 s).set (b + 1) (.inr 6, [.ref (b + 2), .ref (b + 3), .ref (b + 4), .ref (b + 5), .ref (b + 6), .ref (b + 7), .ref (b + 8), .ref (b + 9), .ref (b + 10), .int (s 1 9)].set 9 (.int v)), kn) = (wd b w wl H0 (up s 1 9 v), kn) := wd_set (wl := wl) (s := s) (kn := kn) (j := 9) (v := v) hP (k := 1) (by decide) (by decide)
theorem wg_2 (hP : WOK b w H0) : (wd b w wl H0 s)[b + 2]? = some (.inl 0, ar 10 (s 2)) := wd_at hP (k := 2) (by decide) (by decide)
theorem ws_2 (hP : WOK b w H0) {v i : Int32} (hi : rg i 10) : ((wd b w wl H0 s).set (b + 2) (.inl 0, (ar 10 (s 2)).set i.toNatClampNeg (.int v)), kn) = (wd b w wl H0 (up s 2 i.toNatClampNeg v), kn) := by
  rw [ar_set (rg_nat hi).1]
  exact wd_set hP (k := 2) (by decide) (by decide)
theorem wg_3 (hP : WOK b w H0) : (wd b w wl H0 s)[b + 3]? = some (.inl 0, ar 10 (s 3)) := wd_at hP (k := 3) (by decide) (by decide)
theorem ws_3 (hP : WOK b w H0) {v i : Int32} (hi : rg i 10) : ((wd b w wl H0 s).set (b + 3) (.inl 0, (ar 10 (s 3)).set i.toNatClampNeg (.int v)), kn) = (wd b w wl H0 (up s 3 i.toNatClampNeg v), kn) := by
  rw [ar_set (rg_nat hi).1]
  exact wd_set hP (k := 3) (by decide) (by decide)
theorem wg_4 (hP : WOK b w H0) : (wd b w wl H0 s)[b + 4]? = some (.inl 0, ar 10 (s 4)) := wd_at hP (k := 4) (by decide) (by decide)
theorem ws_4 (hP : WOK b w H0) {v i : Int32} (hi : rg i 10) : ((wd b w wl H0 s).set (b + 4) (.inl 0, (ar 10 (s 4)).set i.toNatClampNeg (.int v)), kn) = (wd b w wl H0 (up s 4 i.toNatClampNeg v), kn) := by
  rw [ar_set (rg_nat hi).1]
  exact wd_set hP (k := 4) (by decide) (by decide)
theorem wg_5 (hP : WOK b w H0) : (wd b w wl H0 s)[b + 5]? = some (.inl 0, ar 200 (s 5)) := wd_at hP (k := 5) (by decide) (by decide)
theorem ws_5 (hP : WOK b w H0) {v i : Int32} (hi : rg i 200) : ((wd b w wl H0 s).set (b + 5) (.inl 0, (ar 200 (s 5)).set i.toNatClampNeg (.int v)), kn) = (wd b w wl H0 (up s 5 i.toNatClampNeg v), kn) := by
  rw [ar_set (rg_nat hi).1]
  exact wd_set hP (k := 5) (by decide) (by decide)
theorem wg_6 (hP : WOK b w H0) : (wd b w wl H0 s)[b + 6]? = some (.inl 0, ar 200 (s 6)) := wd_at hP (k := 6) (by decide) (by decide)
theorem ws_6 (hP : WOK b w H0) {v i : Int32} (hi : rg i 200) : ((wd b w wl H0 s).set (b + 6) (.inl 0, (ar 200 (s 6)).set i.toNatClampNeg (.int v)), kn) = (wd b w wl H0 (up s 6 i.toNatClampNeg v), kn) := by
  rw [ar_set (rg_nat hi).1]
  exact wd_set hP (k := 6) (by decide) (by decide)
theorem wg_7 (hP : WOK b w H0) : (wd b w wl H0 s)[b + 7]? = some (.inl 0, ar 200 (s 7)) := wd_at hP (k := 7) (by decide) (by decide)
theorem ws_7 (hP : WOK b w H0) {v i : Int32} (hi : rg i 200) : ((wd b w wl H0 s).set (b + 7) (.inl 0, (ar 200 (s 7)).set i.toNatClampNeg (.int v)), kn) = (wd b w wl H0 (up s 7 i.toNatClampNeg v), kn) := by
  rw [ar_set (rg_nat hi).1]
  exact wd_set hP (k := 7) (by decide) (by decide)
theorem wg_8 (hP : WOK b w H0) : (wd b w wl H0 s)[b + 8]? = some (.inl 0, ar 200 (s 8)) := wd_at hP (k := 8) (by decide) (by decide)
theorem ws_8 (hP : WOK b w H0) {v i : Int32} (hi : rg i 200) : ((wd b w wl H0 s).set (b + 8) (.inl 0, (ar 200 (s 8)).set i.toNatClampNeg (.int v)), kn) = (wd b w wl H0 (up s 8 i.toNatClampNeg v), kn) := by
  rw [ar_set (rg_nat hi).1]
  exact wd_set hP (k := 8) (by decide) (by decide)
theorem wg_9 (hP : WOK b w H0) : (wd b w wl H0 s)[b + 9]? = some (.inl 0, ar 200 (s 9)) := wd_at hP (k := 9) (by decide) (by decide)
theorem ws_9 (hP : WOK b w H0) {v i : Int32} (hi : rg i 200) : ((wd b w wl H0 s).set (b + 9) (.inl 0, (ar 200 (s 9)).set i.toNatClampNeg (.int v)), kn) = (wd b w wl H0 (up s 9 i.toNatClampNeg v), kn) := by
  rw [ar_set (rg_nat hi).1]
  exact wd_set hP (k := 9) (by decide) (by decide)
theorem wg_10 (hP : WOK b w H0) : (wd b w wl H0 s)[b + 10]? = some (.inl 0, ar 10 (s 10)) := wd_at hP (k := 10) (by decide) (by decide)
theorem ws_10 (hP : WOK b w H0) {v i : Int32} (hi : rg i 10) : ((wd b w wl H0 s).set (b + 10) (.inl 0, (ar 10 (s 10)).set i.toNatClampNeg (.int v)), kn) = (wd b w wl H0 (up s 10 i.toNatClampNeg v), kn) := by
  rw [ar_set (rg_nat hi).1]
  exact wd_set hP (k := 10) (by decide) (by decide)
theorem wg_11 (hP : WOK b w H0) : (wd b w wl H0 s)[b + 11]? = some (.inr 8, [.ref (b + 12), .ref (b + 13), .ref (b + 14), .ref (b + 15), .ref (b + 16), .ref (b + 17), .ref (b + 18), .ref (b + 19), .int (s 11 8)]) := wd_at hP (k := 11) (by decide) (by decide)
theorem ws_11_8 (hP : WOK b w H0) {v : Int32} : ((wd b w wl H0 s).set (b + 11) (.inr 8, [.ref (b + 12), .ref (b + 13), .ref (b + 14), .ref (b + 15), .ref (b + 16), .ref (b + 17), .ref (b + 18), .ref (b + 19), .int (s 11 8)].set 8 (.int v)), kn) = (wd b w wl H0 (up s 11 8 v), kn) := wd_set (wl := wl) (s := s) (kn := kn) (j := 8) (v := v) hP (k := 11) (by decide) (by decide)
theorem wg_12 (hP : WOK b w H0) : (wd b w wl H0 s)[b + 12]? = some (.inl 0, ar 24 (s 12)) := wd_at hP (k := 12) (by decide) (by decide)
theorem ws_12 (hP : WOK b w H0) {v i : Int32} (hi : rg i 24) : ((wd b w wl H0 s).set (b + 12) (.inl 0, (ar 24 (s 12)).set i.toNatClampNeg (.int v)), kn) = (wd b w wl H0 (up s 12 i.toNatClampNeg v), kn) := by
  rw [ar_set (rg_nat hi).1]
  exact wd_set hP (k := 12) (by decide) (by decide)
theorem wg_13 (hP : WOK b w H0) : (wd b w wl H0 s)[b + 13]? = some (.inl 0, ar 24 (s 13)) := wd_at hP (k := 13) (by decide) (by decide)
theorem ws_13 (hP : WOK b w H0) {v i : Int32} (hi : rg i 24) : ((wd b w wl H0 s).set (b + 13) (.inl 0, (ar 24 (s 13)).set i.toNatClampNeg (.int v)), kn) = (wd b w wl H0 (up s 13 i.toNatClampNeg v), kn) := by
  rw [ar_set (rg_nat hi).1]
  exact wd_set hP (k := 13) (by decide) (by decide)
theorem wg_14 (hP : WOK b w H0) : (wd b w wl H0 s)[b + 14]? = some (.inl 1, ar 24 (s 14)) := wd_at hP (k := 14) (by decide) (by decide)
theorem ws_14 (hP : WOK b w H0) {v i : Int32} (hi : rg i 24) : ((wd b w wl H0 s).set (b + 14) (.inl 1, (ar 24 (s 14)).set i.toNatClampNeg (.int v)), kn) = (wd b w wl H0 (up s 14 i.toNatClampNeg v), kn) := by
  rw [ar_set (rg_nat hi).1]
  exact wd_set hP (k := 14) (by decide) (by decide)
theorem wg_15 (hP : WOK b w H0) : (wd b w wl H0 s)[b + 15]? = some (.inl 0, ar 24 (s 15)) := wd_at hP (k := 15) (by decide) (by decide)
theorem ws_15 (hP : WOK b w H0) {v i : Int32} (hi : rg i 24) : ((wd b w wl H0 s).set (b + 15) (.inl 0, (ar 24 (s 15)).set i.toNatClampNeg (.int v)), kn) = (wd b w wl H0 (up s 15 i.toNatClampNeg v), kn) := by
  rw [ar_set (rg_nat hi).1]
  exact wd_set hP (k := 15) (by decide) (by decide)
theorem wg_16 (hP : WOK b w H0) : (wd b w wl H0 s)[b + 16]? = some (.inl 0, ar 192 (s 16)) := wd_at hP (k := 16) (by decide) (by decide)
theorem ws_16 (hP : WOK b w H0) {v i : Int32} (hi : rg i 192) : ((wd b w wl H0 s).set (b + 16) (.inl 0, (ar 192 (s 16)).set i.toNatClampNeg (.int v)), kn) = (wd b w wl H0 (up s 16 i.toNatClampNeg v), kn) := by
  rw [ar_set (rg_nat hi).1]
  exact wd_set hP (k := 16) (by decide) (by decide)
theorem wg_17 (hP : WOK b w H0) : (wd b w wl H0 s)[b + 17]? = some (.inl 0, ar 192 (s 17)) := wd_at hP (k := 17) (by decide) (by decide)
theorem ws_17 (hP : WOK b w H0) {v i : Int32} (hi : rg i 192) : ((wd b w wl H0 s).set (b + 17) (.inl 0, (ar 192 (s 17)).set i.toNatClampNeg (.int v)), kn) = (wd b w wl H0 (up s 17 i.toNatClampNeg v), kn) := by
  rw [ar_set (rg_nat hi).1]
  exact wd_set hP (k := 17) (by decide) (by decide)
theorem wg_18 (hP : WOK b w H0) : (wd b w wl H0 s)[b + 18]? = some (.inl 0, ar 192 (s 18)) := wd_at hP (k := 18) (by decide) (by decide)
theorem ws_18 (hP : WOK b w H0) {v i : Int32} (hi : rg i 192) : ((wd b w wl H0 s).set (b + 18) (.inl 0, (ar 192 (s 18)).set i.toNatClampNeg (.int v)), kn) = (wd b w wl H0 (up s 18 i.toNatClampNeg v), kn) := by
  rw [ar_set (rg_nat hi).1]
  exact wd_set hP (k := 18) (by decide) (by decide)
theorem wg_19 (hP : WOK b w H0) : (wd b w wl H0 s)[b + 19]? = some (.inl 1, ar 192 (s 19)) := wd_at hP (k := 19) (by decide) (by decide)
theorem ws_19 (hP : WOK b w H0) {v i : Int32} (hi : rg i 192) : ((wd b w wl H0 s).set (b + 19) (.inl 1, (ar 192 (s 19)).set i.toNatClampNeg (.int v)), kn) = (wd b w wl H0 (up s 19 i.toNatClampNeg v), kn) := by
  rw [ar_set (rg_nat hi).1]
  exact wd_set hP (k := 19) (by decide) (by decide)
theorem wg_20 (hP : WOK b w H0) : (wd b w wl H0 s)[b + 20]? = some (.inr 2, [.ref (b + 21), .ref (b + 22), .int (s 20 2)]) := wd_at hP (k := 20) (by decide) (by decide)
theorem ws_20_2 (hP : WOK b w H0) {v : Int32} : ((wd b w wl H0 s).set (b + 20) (.inr 2, [.ref (b + 21), .ref (b + 22), .int (s 20 2)].set 2 (.int v)), kn) = (wd b w wl H0 (up s 20 2 v), kn) := wd_set (wl := wl) (s := s) (kn := kn) (j := 2) (v := v) hP (k := 20) (by decide) (by decide)
theorem wg_21 (hP : WOK b w H0) : (wd b w wl H0 s)[b + 21]? = some (.inl 0, ar 8 (s 21)) := wd_at hP (k := 21) (by decide) (by decide)
theorem ws_21 (hP : WOK b w H0) {v i : Int32} (hi : rg i 8) : ((wd b w wl H0 s).set (b + 21) (.inl 0, (ar 8 (s 21)).set i.toNatClampNeg (.int v)), kn) = (wd b w wl H0 (up s 21 i.toNatClampNeg v), kn) := by
  rw [ar_set (rg_nat hi).1]
  exact wd_set hP (k := 21) (by decide) (by decide)
theorem wg_22 (hP : WOK b w H0) : (wd b w wl H0 s)[b + 22]? = some (.inl 0, ar 8 (s 22)) := wd_at hP (k := 22) (by decide) (by decide)
theorem ws_22 (hP : WOK b w H0) {v i : Int32} (hi : rg i 8) : ((wd b w wl H0 s).set (b + 22) (.inl 0, (ar 8 (s 22)).set i.toNatClampNeg (.int v)), kn) = (wd b w wl H0 (up s 22 i.toNatClampNeg v), kn) := by
  rw [ar_set (rg_nat hi).1]
  exact wd_set hP (k := 22) (by decide) (by decide)
theorem wg_23 (hP : WOK b w H0) : (wd b w wl H0 s)[b + 23]? = some (.inr 4, [.ref (b + 24), .ref (b + 25), .ref (b + 26), .ref (b + 27), .ref (b + 28), .ref (b + 29), .ref (b + 30), .ref (b + 31), .ref (b + 32), .ref (b + 33), .ref (b + 34), .ref (b + 35), .int (s 23 12), .int (s 23 13), .int (s 23 14), .int (s 23 15)]) := wd_at hP (k := 23) (by decide) (by decide)
theorem ws_23_12 (hP : WOK b w H0) {v : Int32} : ((wd b w wl H0 s).set (b + 23) (.inr 4, [.ref (b + 24), .ref (b + 25), .ref (b + 26), .ref (b + 27), .ref (b + 28), .ref (b + 29), .ref (b + 30), .ref (b + 31), .ref (b + 32), .ref (b + 33), .ref (b + 34), .ref (b + 35), .int (s 23 12), .int (s 23 13), .int (s 23 14), .int (s 23 15)].set 12 (.int v)), kn) = (wd b w wl H0 (up s 23 12 v), kn) := wd_set (wl := wl) (s := s) (kn := kn) (j := 12) (v := v) hP (k := 23) (by decide) (by decide)
theorem ws_23_13 (hP : WOK b w H0) {v : Int32} : ((wd b w wl H0 s).set (b + 23) (.inr 4, [.ref (b + 24), .ref (b + 25), .ref (b + 26), .ref (b + 27), .ref (b + 28), .ref (b + 29), .ref (b + 30), .ref (b + 31), .ref (b + 32), .ref (b + 33), .ref (b + 34), .ref (b + 35), .int (s 23 12), .int (s 23 13), .int (s 23 14), .int (s 23 15)].set 13 (.int v)), kn) = (wd b w wl H0 (up s 23 13 v), kn) := wd_set (wl := wl) (s := s) (kn := kn) (j := 13) (v := v) hP (k := 23) (by decide) (by decide)
theorem ws_23_14 (hP : WOK b w H0) {v : Int32} : ((wd b w wl H0 s).set (b + 23) (.inr 4, [.ref (b + 24), .ref (b + 25), .ref (b + 26), .ref (b + 27), .ref (b + 28), .ref (b + 29), .ref (b + 30), .ref (b + 31), .ref (b + 32), .ref (b + 33), .ref (b + 34), .ref (b + 35), .int (s 23 12), .int (s 23 13), .int (s 23 14), .int (s 23 15)].set 14 (.int v)), kn) = (wd b w wl H0 (up s 23 14 v), kn) := wd_set (wl := wl) (s := s) (kn := kn) (j := 14) (v := v) hP (k := 23) (by decide) (by decide)
theorem ws_23_15 (hP : WOK b w H0) {v : Int32} : ((wd b w wl H0 s).set (b + 23) (.inr 4, [.ref (b + 24), .ref (b + 25), .ref (b + 26), .ref (b + 27), .ref (b + 28), .ref (b + 29), .ref (b + 30), .ref (b + 31), .ref (b + 32), .ref (b + 33), .ref (b + 34), .ref (b + 35), .int (s 23 12), .int (s 23 13), .int (s 23 14), .int (s 23 15)].set 15 (.int v)), kn) = (wd b w wl H0 (up s 23 15 v), kn) := wd_set (wl := wl) (s := s) (kn := kn) (j := 15) (v := v) hP (k := 23) (by decide) (by decide)
theorem wg_24 (hP : WOK b w H0) : (wd b w wl H0 s)[b + 24]? = some (.inl 0, ar 6 (s 24)) := wd_at hP (k := 24) (by decide) (by decide)
theorem ws_24 (hP : WOK b w H0) {v i : Int32} (hi : rg i 6) : ((wd b w wl H0 s).set (b + 24) (.inl 0, (ar 6 (s 24)).set i.toNatClampNeg (.int v)), kn) = (wd b w wl H0 (up s 24 i.toNatClampNeg v), kn) := by
  rw [ar_set (rg_nat hi).1]
  exact wd_set hP (k := 24) (by decide) (by decide)
theorem wg_25 (hP : WOK b w H0) : (wd b w wl H0 s)[b + 25]? = some (.inl 0, ar 6 (s 25)) := wd_at hP (k := 25) (by decide) (by decide)
theorem ws_25 (hP : WOK b w H0) {v i : Int32} (hi : rg i 6) : ((wd b w wl H0 s).set (b + 25) (.inl 0, (ar 6 (s 25)).set i.toNatClampNeg (.int v)), kn) = (wd b w wl H0 (up s 25 i.toNatClampNeg v), kn) := by
  rw [ar_set (rg_nat hi).1]
  exact wd_set hP (k := 25) (by decide) (by decide)
theorem wg_26 (hP : WOK b w H0) : (wd b w wl H0 s)[b + 26]? = some (.inl 0, ar 6 (s 26)) := wd_at hP (k := 26) (by decide) (by decide)
theorem ws_26 (hP : WOK b w H0) {v i : Int32} (hi : rg i 6) : ((wd b w wl H0 s).set (b + 26) (.inl 0, (ar 6 (s 26)).set i.toNatClampNeg (.int v)), kn) = (wd b w wl H0 (up s 26 i.toNatClampNeg v), kn) := by
  rw [ar_set (rg_nat hi).1]
  exact wd_set hP (k := 26) (by decide) (by decide)
theorem wg_27 (hP : WOK b w H0) : (wd b w wl H0 s)[b + 27]? = some (.inl 0, ar 6 (s 27)) := wd_at hP (k := 27) (by decide) (by decide)
theorem ws_27 (hP : WOK b w H0) {v i : Int32} (hi : rg i 6) : ((wd b w wl H0 s).set (b + 27) (.inl 0, (ar 6 (s 27)).set i.toNatClampNeg (.int v)), kn) = (wd b w wl H0 (up s 27 i.toNatClampNeg v), kn) := by
  rw [ar_set (rg_nat hi).1]
  exact wd_set hP (k := 27) (by decide) (by decide)
theorem wg_28 (hP : WOK b w H0) : (wd b w wl H0 s)[b + 28]? = some (.inl 0, ar 120 (s 28)) := wd_at hP (k := 28) (by decide) (by decide)
theorem ws_28 (hP : WOK b w H0) {v i : Int32} (hi : rg i 120) : ((wd b w wl H0 s).set (b + 28) (.inl 0, (ar 120 (s 28)).set i.toNatClampNeg (.int v)), kn) = (wd b w wl H0 (up s 28 i.toNatClampNeg v), kn) := by
  rw [ar_set (rg_nat hi).1]
  exact wd_set hP (k := 28) (by decide) (by decide)
theorem wg_29 (hP : WOK b w H0) : (wd b w wl H0 s)[b + 29]? = some (.inl 0, ar 6 (s 29)) := wd_at hP (k := 29) (by decide) (by decide)
theorem ws_29 (hP : WOK b w H0) {v i : Int32} (hi : rg i 6) : ((wd b w wl H0 s).set (b + 29) (.inl 0, (ar 6 (s 29)).set i.toNatClampNeg (.int v)), kn) = (wd b w wl H0 (up s 29 i.toNatClampNeg v), kn) := by
  rw [ar_set (rg_nat hi).1]
  exact wd_set hP (k := 29) (by decide) (by decide)
theorem wg_30 (hP : WOK b w H0) : (wd b w wl H0 s)[b + 30]? = some (.inl 0, ar 6 (s 30)) := wd_at hP (k := 30) (by decide) (by decide)
theorem ws_30 (hP : WOK b w H0) {v i : Int32} (hi : rg i 6) : ((wd b w wl H0 s).set (b + 30) (.inl 0, (ar 6 (s 30)).set i.toNatClampNeg (.int v)), kn) = (wd b w wl H0 (up s 30 i.toNatClampNeg v), kn) := by
  rw [ar_set (rg_nat hi).1]
  exact wd_set hP (k := 30) (by decide) (by decide)
theorem wg_31 (hP : WOK b w H0) : (wd b w wl H0 s)[b + 31]? = some (.inl 0, ar 120 (s 31)) := wd_at hP (k := 31) (by decide) (by decide)
theorem ws_31 (hP : WOK b w H0) {v i : Int32} (hi : rg i 120) : ((wd b w wl H0 s).set (b + 31) (.inl 0, (ar 120 (s 31)).set i.toNatClampNeg (.int v)), kn) = (wd b w wl H0 (up s 31 i.toNatClampNeg v), kn) := by
  rw [ar_set (rg_nat hi).1]
  exact wd_set hP (k := 31) (by decide) (by decide)
theorem wg_32 (hP : WOK b w H0) : (wd b w wl H0 s)[b + 32]? = some (.inl 0, ar 6 (s 32)) := wd_at hP (k := 32) (by decide) (by decide)
theorem ws_32 (hP : WOK b w H0) {v i : Int32} (hi : rg i 6) : ((wd b w wl H0 s).set (b + 32) (.inl 0, (ar 6 (s 32)).set i.toNatClampNeg (.int v)), kn) = (wd b w wl H0 (up s 32 i.toNatClampNeg v), kn) := by
  rw [ar_set (rg_nat hi).1]
  exact wd_set hP (k := 32) (by decide) (by decide)
theorem wg_33 (hP : WOK b w H0) : (wd b w wl H0 s)[b + 33]? = some (.inl 0, ar 6 (s 33)) := wd_at hP (k := 33) (by decide) (by decide)
theorem ws_33 (hP : WOK b w H0) {v i : Int32} (hi : rg i 6) : ((wd b w wl H0 s).set (b + 33) (.inl 0, (ar 6 (s 33)).set i.toNatClampNeg (.int v)), kn) = (wd b w wl H0 (up s 33 i.toNatClampNeg v), kn) := by
  rw [ar_set (rg_nat hi).1]
  exact wd_set hP (k := 33) (by decide) (by decide)
theorem wg_34 (hP : WOK b w H0) : (wd b w wl H0 s)[b + 34]? = some (.inl 0, ar 6 (s 34)) := wd_at hP (k := 34) (by decide) (by decide)
theorem ws_34 (hP : WOK b w H0) {v i : Int32} (hi : rg i 6) : ((wd b w wl H0 s).set (b + 34) (.inl 0, (ar 6 (s 34)).set i.toNatClampNeg (.int v)), kn) = (wd b w wl H0 (up s 34 i.toNatClampNeg v), kn) := by
  rw [ar_set (rg_nat hi).1]
  exact wd_set hP (k := 34) (by decide) (by decide)
theorem wg_35 (hP : WOK b w H0) : (wd b w wl H0 s)[b + 35]? = some (.inl 0, ar 6 (s 35)) := wd_at hP (k := 35) (by decide) (by decide)
theorem ws_35 (hP : WOK b w H0) {v i : Int32} (hi : rg i 6) : ((wd b w wl H0 s).set (b + 35) (.inl 0, (ar 6 (s 35)).set i.toNatClampNeg (.int v)), kn) = (wd b w wl H0 (up s 35 i.toNatClampNeg v), kn) := by
  rw [ar_set (rg_nat hi).1]
  exact wd_set hP (k := 35) (by decide) (by decide)
theorem wg_36 (hP : WOK b w H0) : (wd b w wl H0 s)[b + 36]? = some (.inr 1, [.ref w]) := wd_at hP (k := 36) (by decide) (by decide)
theorem wg_37 (hP : WOK b w H0) : (wd b w wl H0 s)[w]? = some (.inl 0, ar wl (s 37)) := wd_w hP
theorem ws_37 (hP : WOK b w H0) {v i : Int32} (hi : rg i wl) : ((wd b w wl H0 s).set w (.inl 0, (ar wl (s 37)).set i.toNatClampNeg (.int v)), kn) = (wd b w wl H0 (up s 37 i.toNatClampNeg v), kn) := by
  rw [ar_set (rg_nat hi).1]
  exact wd_setw hP
theorem wl_0 (hP : WOK b w H0) {q : Nat} (hq : q = 38 ∨ q = 60) : (wd b w wl H0 s)[b + q]? = some (.inr 5, [.ref (b + 11), .ref (b + (q + 3)), .ref (b + (q + 5)), .ref (b + (q + 12)), .ref (b + (q + 15)), .ref (b + (q + 1)), .int (zb (s q 6)), .int (zb (s q 7)), .int (s q 8)]) := by
  rcases hq with rfl | rfl
  · exact wd_at hP (k := 38) (by decide) (by decide)
  · exact wd_at hP (k := 60) (by decide) (by decide)
theorem wz_0_6 (hP : WOK b w H0) {q : Nat} (hq : q = 38 ∨ q = 60) {v : Int32} (hb : bz v = true) : ((wd b w wl H0 s).set (b + q) (.inr 5, [.ref (b + 11), .ref (b + (q + 3)), .ref (b + (q + 5)), .ref (b + (q + 12)), .ref (b + (q + 15)), .ref (b + (q + 1)), .int (zb (s q 6)), .int (zb (s q 7)), .int (s q 8)].set 6 (.int v)), kn) = (wd b w wl H0 (up s q 6 v), kn) := by
  rw [show Value.int v = Value.int (zb v) by rw [zb_of hb]]
  rcases hq with rfl | rfl
  · exact wd_set (wl := wl) (s := s) (kn := kn) (j := 6) (v := v) hP (k := 38) (by decide) (by decide)
  · exact wd_set (wl := wl) (s := s) (kn := kn) (j := 6) (v := v) hP (k := 60) (by decide) (by decide)
theorem wz_0_7 (hP : WOK b w H0) {q : Nat} (hq : q = 38 ∨ q = 60) {v : Int32} (hb : bz v = true) : ((wd b w wl H0 s).set (b + q) (.inr 5, [.ref (b + 11), .ref (b + (q + 3)), .ref (b + (q + 5)), .ref (b + (q + 12)), .ref (b + (q + 15)), .ref (b + (q + 1)), .int (zb (s q 6)), .int (zb (s q 7)), .int (s q 8)].set 7 (.int v)), kn) = (wd b w wl H0 (up s q 7 v), kn) := by
  rw [show Value.int v = Value.int (zb v) by rw [zb_of hb]]
  rcases hq with rfl | rfl
  · exact wd_set (wl := wl) (s := s) (kn := kn) (j := 7) (v := v) hP (k := 38) (by decide) (by decide)
  · exact wd_set (wl := wl) (s := s) (kn := kn) (j := 7) (v := v) hP (k := 60) (by decide) (by decide)
theorem wz_0_8 (hP : WOK b w H0) {q : Nat} (hq : q = 38 ∨ q = 60) {v : Int32} : ((wd b w wl H0 s).set (b + q) (.inr 5, [.ref (b + 11), .ref (b + (q + 3)), .ref (b + (q + 5)), .ref (b + (q + 12)), .ref (b + (q + 15)), .ref (b + (q + 1)), .int (zb (s q 6)), .int (zb (s q 7)), .int (s q 8)].set 8 (.int v)), kn) = (wd b w wl H0 (up s q 8 v), kn) := by
  rcases hq with rfl | rfl
  · exact wd_set (wl := wl) (s := s) (kn := kn) (j := 8) (v := v) hP (k := 38) (by decide) (by decide)
  · exact wd_set (wl := wl) (s := s) (kn := kn) (j := 8) (v := v) hP (k := 60) (by decide) (by decide)
theorem wl_1 (hP : WOK b w H0) {q : Nat} (hq : q = 38 ∨ q = 60) : (wd b w wl H0 s)[b + (q + 1)]? = some (.inr 0, [.ref (b + (q + 2)), .int (s (q + 1) 1)]) := by
  rcases hq with rfl | rfl
  · exact wd_at hP (k := 39) (by decide) (by decide)
  · exact wd_at hP (k := 61) (by decide) (by decide)
theorem wz_1_1 (hP : WOK b w H0) {q : Nat} (hq : q = 38 ∨ q = 60) {v : Int32} : ((wd b w wl H0 s).set (b + (q + 1)) (.inr 0, [.ref (b + (q + 2)), .int (s (q + 1) 1)].set 1 (.int v)), kn) = (wd b w wl H0 (up s (q + 1) 1 v), kn) := by
  rcases hq with rfl | rfl
  · exact wd_set (wl := wl) (s := s) (kn := kn) (j := 1) (v := v) hP (k := 39) (by decide) (by decide)
  · exact wd_set (wl := wl) (s := s) (kn := kn) (j := 1) (v := v) hP (k := 61) (by decide) (by decide)
theorem wl_2 (hP : WOK b w H0) {q : Nat} (hq : q = 38 ∨ q = 60) : (wd b w wl H0 s)[b + (q + 2)]? = some (.inl 0, ar 1620 (s (q + 2))) := by
  rcases hq with rfl | rfl
  · exact wd_at hP (k := 40) (by decide) (by decide)
  · exact wd_at hP (k := 62) (by decide) (by decide)
theorem wz_2 (hP : WOK b w H0) {q : Nat} (hq : q = 38 ∨ q = 60) {v i : Int32} (hi : rg i 1620) : ((wd b w wl H0 s).set (b + (q + 2)) (.inl 0, (ar 1620 (s (q + 2))).set i.toNatClampNeg (.int v)), kn) = (wd b w wl H0 (up s (q + 2) i.toNatClampNeg v), kn) := by
  rw [ar_set (rg_nat hi).1]
  rcases hq with rfl | rfl
  · exact wd_set hP (k := 40) (by decide) (by decide)
  · exact wd_set hP (k := 62) (by decide) (by decide)
theorem wl_3 (hP : WOK b w H0) {q : Nat} (hq : q = 38 ∨ q = 60) : (wd b w wl H0 s)[b + (q + 3)]? = some (.inr 10, [.ref (b + 1), .ref (b + 20), .ref (b + (q + 4)), .int (s (q + 3) 3), .int (s (q + 3) 4), .int (s (q + 3) 5), .int (s (q + 3) 6)]) := by
  rcases hq with rfl | rfl
  · exact wd_at hP (k := 41) (by decide) (by decide)
  · exact wd_at hP (k := 63) (by decide) (by decide)
theorem wz_3_3 (hP : WOK b w H0) {q : Nat} (hq : q = 38 ∨ q = 60) {v : Int32} : ((wd b w wl H0 s).set (b + (q + 3)) (.inr 10, [.ref (b + 1), .ref (b + 20), .ref (b + (q + 4)), .int (s (q + 3) 3), .int (s (q + 3) 4), .int (s (q + 3) 5), .int (s (q + 3) 6)].set 3 (.int v)), kn) = (wd b w wl H0 (up s (q + 3) 3 v), kn) := by
  rcases hq with rfl | rfl
  · exact wd_set (wl := wl) (s := s) (kn := kn) (j := 3) (v := v) hP (k := 41) (by decide) (by decide)
  · exact wd_set (wl := wl) (s := s) (kn := kn) (j := 3) (v := v) hP (k := 63) (by decide) (by decide)
theorem wz_3_4 (hP : WOK b w H0) {q : Nat} (hq : q = 38 ∨ q = 60) {v : Int32} : ((wd b w wl H0 s).set (b + (q + 3)) (.inr 10, [.ref (b + 1), .ref (b + 20), .ref (b + (q + 4)), .int (s (q + 3) 3), .int (s (q + 3) 4), .int (s (q + 3) 5), .int (s (q + 3) 6)].set 4 (.int v)), kn) = (wd b w wl H0 (up s (q + 3) 4 v), kn) := by
  rcases hq with rfl | rfl
  · exact wd_set (wl := wl) (s := s) (kn := kn) (j := 4) (v := v) hP (k := 41) (by decide) (by decide)
  · exact wd_set (wl := wl) (s := s) (kn := kn) (j := 4) (v := v) hP (k := 63) (by decide) (by decide)
theorem wz_3_5 (hP : WOK b w H0) {q : Nat} (hq : q = 38 ∨ q = 60) {v : Int32} : ((wd b w wl H0 s).set (b + (q + 3)) (.inr 10, [.ref (b + 1), .ref (b + 20), .ref (b + (q + 4)), .int (s (q + 3) 3), .int (s (q + 3) 4), .int (s (q + 3) 5), .int (s (q + 3) 6)].set 5 (.int v)), kn) = (wd b w wl H0 (up s (q + 3) 5 v), kn) := by
  rcases hq with rfl | rfl
  · exact wd_set (wl := wl) (s := s) (kn := kn) (j := 5) (v := v) hP (k := 41) (by decide) (by decide)
  · exact wd_set (wl := wl) (s := s) (kn := kn) (j := 5) (v := v) hP (k := 63) (by decide) (by decide)
theorem wz_3_6 (hP : WOK b w H0) {q : Nat} (hq : q = 38 ∨ q = 60) {v : Int32} : ((wd b w wl H0 s).set (b + (q + 3)) (.inr 10, [.ref (b + 1), .ref (b + 20), .ref (b + (q + 4)), .int (s (q + 3) 3), .int (s (q + 3) 4), .int (s (q + 3) 5), .int (s (q + 3) 6)].set 6 (.int v)), kn) = (wd b w wl H0 (up s (q + 3) 6 v), kn) := by
  rcases hq with rfl | rfl
  · exact wd_set (wl := wl) (s := s) (kn := kn) (j := 6) (v := v) hP (k := 41) (by decide) (by decide)
  · exact wd_set (wl := wl) (s := s) (kn := kn) (j := 6) (v := v) hP (k := 63) (by decide) (by decide)
theorem wl_4 (hP : WOK b w H0) {q : Nat} (hq : q = 38 ∨ q = 60) : (wd b w wl H0 s)[b + (q + 4)]? = some (.inl 0, ar 10 (s (q + 4))) := by
  rcases hq with rfl | rfl
  · exact wd_at hP (k := 42) (by decide) (by decide)
  · exact wd_at hP (k := 64) (by decide) (by decide)
theorem wz_4 (hP : WOK b w H0) {q : Nat} (hq : q = 38 ∨ q = 60) {v i : Int32} (hi : rg i 10) : ((wd b w wl H0 s).set (b + (q + 4)) (.inl 0, (ar 10 (s (q + 4))).set i.toNatClampNeg (.int v)), kn) = (wd b w wl H0 (up s (q + 4) i.toNatClampNeg v), kn) := by
  rw [ar_set (rg_nat hi).1]
  rcases hq with rfl | rfl
  · exact wd_set hP (k := 42) (by decide) (by decide)
  · exact wd_set hP (k := 64) (by decide) (by decide)
theorem wl_5 (hP : WOK b w H0) {q : Nat} (hq : q = 38 ∨ q = 60) : (wd b w wl H0 s)[b + (q + 5)]? = some (.inr 9, [.ref (b + 1), .ref (b + (q + 3)), .ref (b + (q + 6)), .ref (b + (q + 7)), .ref (b + (q + 8)), .ref (b + (q + 9)), .ref (b + (q + 10)), .ref (b + (q + 11)), .int (s (q + 5) 8), .int (s (q + 5) 9)]) := by
  rcases hq with rfl | rfl
  · exact wd_at hP (k := 43) (by decide) (by decide)
  · exact wd_at hP (k := 65) (by decide) (by decide)
theorem wz_5_8 (hP : WOK b w H0) {q : Nat} (hq : q = 38 ∨ q = 60) {v : Int32} : ((wd b w wl H0 s).set (b + (q + 5)) (.inr 9, [.ref (b + 1), .ref (b + (q + 3)), .ref (b + (q + 6)), .ref (b + (q + 7)), .ref (b + (q + 8)), .ref (b + (q + 9)), .ref (b + (q + 10)), .ref (b + (q + 11)), .int (s (q + 5) 8), .int (s (q + 5) 9)].set 8 (.int v)), kn) = (wd b w wl H0 (up s (q + 5) 8 v), kn) := by
  rcases hq with rfl | rfl
  · exact wd_set (wl := wl) (s := s) (kn := kn) (j := 8) (v := v) hP (k := 43) (by decide) (by decide)
  · exact wd_set (wl := wl) (s := s) (kn := kn) (j := 8) (v := v) hP (k := 65) (by decide) (by decide)
theorem wz_5_9 (hP : WOK b w H0) {q : Nat} (hq : q = 38 ∨ q = 60) {v : Int32} : ((wd b w wl H0 s).set (b + (q + 5)) (.inr 9, [.ref (b + 1), .ref (b + (q + 3)), .ref (b + (q + 6)), .ref (b + (q + 7)), .ref (b + (q + 8)), .ref (b + (q + 9)), .ref (b + (q + 10)), .ref (b + (q + 11)), .int (s (q + 5) 8), .int (s (q + 5) 9)].set 9 (.int v)), kn) = (wd b w wl H0 (up s (q + 5) 9 v), kn) := by
  rcases hq with rfl | rfl
  · exact wd_set (wl := wl) (s := s) (kn := kn) (j := 9) (v := v) hP (k := 43) (by decide) (by decide)
  · exact wd_set (wl := wl) (s := s) (kn := kn) (j := 9) (v := v) hP (k := 65) (by decide) (by decide)
theorem wl_6 (hP : WOK b w H0) {q : Nat} (hq : q = 38 ∨ q = 60) : (wd b w wl H0 s)[b + (q + 6)]? = some (.inl 0, ar 20 (s (q + 6))) := by
  rcases hq with rfl | rfl
  · exact wd_at hP (k := 44) (by decide) (by decide)
  · exact wd_at hP (k := 66) (by decide) (by decide)
theorem wz_6 (hP : WOK b w H0) {q : Nat} (hq : q = 38 ∨ q = 60) {v i : Int32} (hi : rg i 20) : ((wd b w wl H0 s).set (b + (q + 6)) (.inl 0, (ar 20 (s (q + 6))).set i.toNatClampNeg (.int v)), kn) = (wd b w wl H0 (up s (q + 6) i.toNatClampNeg v), kn) := by
  rw [ar_set (rg_nat hi).1]
  rcases hq with rfl | rfl
  · exact wd_set hP (k := 44) (by decide) (by decide)
  · exact wd_set hP (k := 66) (by decide) (by decide)
theorem wl_7 (hP : WOK b w H0) {q : Nat} (hq : q = 38 ∨ q = 60) : (wd b w wl H0 s)[b + (q + 7)]? = some (.inl 0, ar 20 (s (q + 7))) := by
  rcases hq with rfl | rfl
  · exact wd_at hP (k := 45) (by decide) (by decide)
  · exact wd_at hP (k := 67) (by decide) (by decide)
theorem wz_7 (hP : WOK b w H0) {q : Nat} (hq : q = 38 ∨ q = 60) {v i : Int32} (hi : rg i 20) : ((wd b w wl H0 s).set (b + (q + 7)) (.inl 0, (ar 20 (s (q + 7))).set i.toNatClampNeg (.int v)), kn) = (wd b w wl H0 (up s (q + 7) i.toNatClampNeg v), kn) := by
  rw [ar_set (rg_nat hi).1]
  rcases hq with rfl | rfl
  · exact wd_set hP (k := 45) (by decide) (by decide)
  · exact wd_set hP (k := 67) (by decide) (by decide)
theorem wl_8 (hP : WOK b w H0) {q : Nat} (hq : q = 38 ∨ q = 60) : (wd b w wl H0 s)[b + (q + 8)]? = some (.inl 0, ar 20 (s (q + 8))) := by
  rcases hq with rfl | rfl
  · exact wd_at hP (k := 46) (by decide) (by decide)
  · exact wd_at hP (k := 68) (by decide) (by decide)
theorem wz_8 (hP : WOK b w H0) {q : Nat} (hq : q = 38 ∨ q = 60) {v i : Int32} (hi : rg i 20) : ((wd b w wl H0 s).set (b + (q + 8)) (.inl 0, (ar 20 (s (q + 8))).set i.toNatClampNeg (.int v)), kn) = (wd b w wl H0 (up s (q + 8) i.toNatClampNeg v), kn) := by
  rw [ar_set (rg_nat hi).1]
  rcases hq with rfl | rfl
  · exact wd_set hP (k := 46) (by decide) (by decide)
  · exact wd_set hP (k := 68) (by decide) (by decide)
theorem wl_9 (hP : WOK b w H0) {q : Nat} (hq : q = 38 ∨ q = 60) : (wd b w wl H0 s)[b + (q + 9)]? = some (.inl 0, ar 20 (s (q + 9))) := by
  rcases hq with rfl | rfl
  · exact wd_at hP (k := 47) (by decide) (by decide)
  · exact wd_at hP (k := 69) (by decide) (by decide)
theorem wz_9 (hP : WOK b w H0) {q : Nat} (hq : q = 38 ∨ q = 60) {v i : Int32} (hi : rg i 20) : ((wd b w wl H0 s).set (b + (q + 9)) (.inl 0, (ar 20 (s (q + 9))).set i.toNatClampNeg (.int v)), kn) = (wd b w wl H0 (up s (q + 9) i.toNatClampNeg v), kn) := by
  rw [ar_set (rg_nat hi).1]
  rcases hq with rfl | rfl
  · exact wd_set hP (k := 47) (by decide) (by decide)
  · exact wd_set hP (k := 69) (by decide) (by decide)
theorem wl_10 (hP : WOK b w H0) {q : Nat} (hq : q = 38 ∨ q = 60) : (wd b w wl H0 s)[b + (q + 10)]? = some (.inl 0, ar 20 (s (q + 10))) := by
  rcases hq with rfl | rfl
  · exact wd_at hP (k := 48) (by decide) (by decide)
  · exact wd_at hP (k := 70) (by decide) (by decide)
theorem wz_10 (hP : WOK b w H0) {q : Nat} (hq : q = 38 ∨ q = 60) {v i : Int32} (hi : rg i 20) : ((wd b w wl H0 s).set (b + (q + 10)) (.inl 0, (ar 20 (s (q + 10))).set i.toNatClampNeg (.int v)), kn) = (wd b w wl H0 (up s (q + 10) i.toNatClampNeg v), kn) := by
  rw [ar_set (rg_nat hi).1]
  rcases hq with rfl | rfl
  · exact wd_set hP (k := 48) (by decide) (by decide)
  · exact wd_set hP (k := 70) (by decide) (by decide)
theorem wl_11 (hP : WOK b w H0) {q : Nat} (hq : q = 38 ∨ q = 60) : (wd b w wl H0 s)[b + (q + 11)]? = some (.inl 0, ar 20 (s (q + 11))) := by
  rcases hq with rfl | rfl
  · exact wd_at hP (k := 49) (by decide) (by decide)
  · exact wd_at hP (k := 71) (by decide) (by decide)
theorem wz_11 (hP : WOK b w H0) {q : Nat} (hq : q = 38 ∨ q = 60) {v i : Int32} (hi : rg i 20) : ((wd b w wl H0 s).set (b + (q + 11)) (.inl 0, (ar 20 (s (q + 11))).set i.toNatClampNeg (.int v)), kn) = (wd b w wl H0 (up s (q + 11) i.toNatClampNeg v), kn) := by
  rw [ar_set (rg_nat hi).1]
  rcases hq with rfl | rfl
  · exact wd_set hP (k := 49) (by decide) (by decide)
  · exact wd_set hP (k := 71) (by decide) (by decide)
theorem wl_12 (hP : WOK b w H0) {q : Nat} (hq : q = 38 ∨ q = 60) : (wd b w wl H0 s)[b + (q + 12)]? = some (.inr 7, [.ref (b + 11), .ref (b + (q + 3)), .ref (b + (q + 5)), .ref (b + (q + 13)), .int (s (q + 12) 4), .int (s (q + 12) 5), .int (s (q + 12) 6), .int (s (q + 12) 7), .ref (b + (q + 14))]) := by
  rcases hq with rfl | rfl
  · exact wd_at hP (k := 50) (by decide) (by decide)
  · exact wd_at hP (k := 72) (by decide) (by decide)
theorem wz_12_4 (hP : WOK b w H0) {q : Nat} (hq : q = 38 ∨ q = 60) {v : Int32} : ((wd b w wl H0 s).set (b + (q + 12)) (.inr 7, [.ref (b + 11), .ref (b + (q + 3)), .ref (b + (q + 5)), .ref (b + (q + 13)), .int (s (q + 12) 4), .int (s (q + 12) 5), .int (s (q + 12) 6), .int (s (q + 12) 7), .ref (b + (q + 14))].set 4 (.int v)), kn) = (wd b w wl H0 (up s (q + 12) 4 v), kn) := by
  rcases hq with rfl | rfl
  · exact wd_set (wl := wl) (s := s) (kn := kn) (j := 4) (v := v) hP (k := 50) (by decide) (by decide)
  · exact wd_set (wl := wl) (s := s) (kn := kn) (j := 4) (v := v) hP (k := 72) (by decide) (by decide)
theorem wz_12_5 (hP : WOK b w H0) {q : Nat} (hq : q = 38 ∨ q = 60) {v : Int32} : ((wd b w wl H0 s).set (b + (q + 12)) (.inr 7, [.ref (b + 11), .ref (b + (q + 3)), .ref (b + (q + 5)), .ref (b + (q + 13)), .int (s (q + 12) 4), .int (s (q + 12) 5), .int (s (q + 12) 6), .int (s (q + 12) 7), .ref (b + (q + 14))].set 5 (.int v)), kn) = (wd b w wl H0 (up s (q + 12) 5 v), kn) := by
  rcases hq with rfl | rfl
  · exact wd_set (wl := wl) (s := s) (kn := kn) (j := 5) (v := v) hP (k := 50) (by decide) (by decide)
  · exact wd_set (wl := wl) (s := s) (kn := kn) (j := 5) (v := v) hP (k := 72) (by decide) (by decide)
theorem wz_12_6 (hP : WOK b w H0) {q : Nat} (hq : q = 38 ∨ q = 60) {v : Int32} : ((wd b w wl H0 s).set (b + (q + 12)) (.inr 7, [.ref (b + 11), .ref (b + (q + 3)), .ref (b + (q + 5)), .ref (b + (q + 13)), .int (s (q + 12) 4), .int (s (q + 12) 5), .int (s (q + 12) 6), .int (s (q + 12) 7), .ref (b + (q + 14))].set 6 (.int v)), kn) = (wd b w wl H0 (up s (q + 12) 6 v), kn) := by
  rcases hq with rfl | rfl
  · exact wd_set (wl := wl) (s := s) (kn := kn) (j := 6) (v := v) hP (k := 50) (by decide) (by decide)
  · exact wd_set (wl := wl) (s := s) (kn := kn) (j := 6) (v := v) hP (k := 72) (by decide) (by decide)
theorem wz_12_7 (hP : WOK b w H0) {q : Nat} (hq : q = 38 ∨ q = 60) {v : Int32} : ((wd b w wl H0 s).set (b + (q + 12)) (.inr 7, [.ref (b + 11), .ref (b + (q + 3)), .ref (b + (q + 5)), .ref (b + (q + 13)), .int (s (q + 12) 4), .int (s (q + 12) 5), .int (s (q + 12) 6), .int (s (q + 12) 7), .ref (b + (q + 14))].set 7 (.int v)), kn) = (wd b w wl H0 (up s (q + 12) 7 v), kn) := by
  rcases hq with rfl | rfl
  · exact wd_set (wl := wl) (s := s) (kn := kn) (j := 7) (v := v) hP (k := 50) (by decide) (by decide)
  · exact wd_set (wl := wl) (s := s) (kn := kn) (j := 7) (v := v) hP (k := 72) (by decide) (by decide)
theorem wl_13 (hP : WOK b w H0) {q : Nat} (hq : q = 38 ∨ q = 60) : (wd b w wl H0 s)[b + (q + 13)]? = some (.inl 0, ar 24 (s (q + 13))) := by
  rcases hq with rfl | rfl
  · exact wd_at hP (k := 51) (by decide) (by decide)
  · exact wd_at hP (k := 73) (by decide) (by decide)
theorem wz_13 (hP : WOK b w H0) {q : Nat} (hq : q = 38 ∨ q = 60) {v i : Int32} (hi : rg i 24) : ((wd b w wl H0 s).set (b + (q + 13)) (.inl 0, (ar 24 (s (q + 13))).set i.toNatClampNeg (.int v)), kn) = (wd b w wl H0 (up s (q + 13) i.toNatClampNeg v), kn) := by
  rw [ar_set (rg_nat hi).1]
  rcases hq with rfl | rfl
  · exact wd_set hP (k := 51) (by decide) (by decide)
  · exact wd_set hP (k := 73) (by decide) (by decide)
theorem wl_14 (hP : WOK b w H0) {q : Nat} (hq : q = 38 ∨ q = 60) : (wd b w wl H0 s)[b + (q + 14)]? = some (.inl 0, ar 20 (s (q + 14))) := by
  rcases hq with rfl | rfl
  · exact wd_at hP (k := 52) (by decide) (by decide)
  · exact wd_at hP (k := 74) (by decide) (by decide)
theorem wz_14 (hP : WOK b w H0) {q : Nat} (hq : q = 38 ∨ q = 60) {v i : Int32} (hi : rg i 20) : ((wd b w wl H0 s).set (b + (q + 14)) (.inl 0, (ar 20 (s (q + 14))).set i.toNatClampNeg (.int v)), kn) = (wd b w wl H0 (up s (q + 14) i.toNatClampNeg v), kn) := by
  rw [ar_set (rg_nat hi).1]
  rcases hq with rfl | rfl
  · exact wd_set hP (k := 52) (by decide) (by decide)
  · exact wd_set hP (k := 74) (by decide) (by decide)
theorem wl_15 (hP : WOK b w H0) {q : Nat} (hq : q = 38 ∨ q = 60) : (wd b w wl H0 s)[b + (q + 15)]? = some (.inr 3, [.ref (b + 11), .ref (b + (q + 3)), .ref (b + (q + 5)), .ref (b + (q + 12)), .ref (b + (q + 16)), .int (s (q + 15) 5), .ref (b + (q + 17)), .ref (b + (q + 18)), .ref (b + (q + 19)), .ref (b + (q + 20)), .ref (b + (q + 21)), .int (s (q + 15) 11), .int (s (q + 15) 12)]) := by
  rcases hq with rfl | rfl
  · exact wd_at hP (k := 53) (by decide) (by decide)
  · exact wd_at hP (k := 75) (by decide) (by decide)
theorem wz_15_5 (hP : WOK b w H0) {q : Nat} (hq : q = 38 ∨ q = 60) {v : Int32} : ((wd b w wl H0 s).set (b + (q + 15)) (.inr 3, [.ref (b + 11), .ref (b + (q + 3)), .ref (b + (q + 5)), .ref (b + (q + 12)), .ref (b + (q + 16)), .int (s (q + 15) 5), .ref (b + (q + 17)), .ref (b + (q + 18)), .ref (b + (q + 19)), .ref (b + (q + 20)), .ref (b + (q + 21)), .int (s (q + 15) 11), .int (s (q + 15) 12)].set 5 (.int v)), kn) = (wd b w wl H0 (up s (q + 15) 5 v), kn) := by
  rcases hq with rfl | rfl
  · exact wd_set (wl := wl) (s := s) (kn := kn) (j := 5) (v := v) hP (k := 53) (by decide) (by decide)
  · exact wd_set (wl := wl) (s := s) (kn := kn) (j := 5) (v := v) hP (k := 75) (by decide) (by decide)
theorem wz_15_11 (hP : WOK b w H0) {q : Nat} (hq : q = 38 ∨ q = 60) {v : Int32} : ((wd b w wl H0 s).set (b + (q + 15)) (.inr 3, [.ref (b + 11), .ref (b + (q + 3)), .ref (b + (q + 5)), .ref (b + (q + 12)), .ref (b + (q + 16)), .int (s (q + 15) 5), .ref (b + (q + 17)), .ref (b + (q + 18)), .ref (b + (q + 19)), .ref (b + (q + 20)), .ref (b + (q + 21)), .int (s (q + 15) 11), .int (s (q + 15) 12)].set 11 (.int v)), kn) = (wd b w wl H0 (up s (q + 15) 11 v), kn) := by
  rcases hq with rfl | rfl
  · exact wd_set (wl := wl) (s := s) (kn := kn) (j := 11) (v := v) hP (k := 53) (by decide) (by decide)
  · exact wd_set (wl := wl) (s := s) (kn := kn) (j := 11) (v := v) hP (k := 75) (by decide) (by decide)
theorem wz_15_12 (hP : WOK b w H0) {q : Nat} (hq : q = 38 ∨ q = 60) {v : Int32} : ((wd b w wl H0 s).set (b + (q + 15)) (.inr 3, [.ref (b + 11), .ref (b + (q + 3)), .ref (b + (q + 5)), .ref (b + (q + 12)), .ref (b + (q + 16)), .int (s (q + 15) 5), .ref (b + (q + 17)), .ref (b + (q + 18)), .ref (b + (q + 19)), .ref (b + (q + 20)), .ref (b + (q + 21)), .int (s (q + 15) 11), .int (s (q + 15) 12)].set 12 (.int v)), kn) = (wd b w wl H0 (up s (q + 15) 12 v), kn) := by
  rcases hq with rfl | rfl
  · exact wd_set (wl := wl) (s := s) (kn := kn) (j := 12) (v := v) hP (k := 53) (by decide) (by decide)
  · exact wd_set (wl := wl) (s := s) (kn := kn) (j := 12) (v := v) hP (k := 75) (by decide) (by decide)
theorem wl_16 (hP : WOK b w H0) {q : Nat} (hq : q = 38 ∨ q = 60) : (wd b w wl H0 s)[b + (q + 16)]? = some (.inl 0, ar 24 (s (q + 16))) := by
  rcases hq with rfl | rfl
  · exact wd_at hP (k := 54) (by decide) (by decide)
  · exact wd_at hP (k := 76) (by decide) (by decide)
theorem wz_16 (hP : WOK b w H0) {q : Nat} (hq : q = 38 ∨ q = 60) {v i : Int32} (hi : rg i 24) : ((wd b w wl H0 s).set (b + (q + 16)) (.inl 0, (ar 24 (s (q + 16))).set i.toNatClampNeg (.int v)), kn) = (wd b w wl H0 (up s (q + 16) i.toNatClampNeg v), kn) := by
  rw [ar_set (rg_nat hi).1]
  rcases hq with rfl | rfl
  · exact wd_set hP (k := 54) (by decide) (by decide)
  · exact wd_set hP (k := 76) (by decide) (by decide)
theorem wl_17 (hP : WOK b w H0) {q : Nat} (hq : q = 38 ∨ q = 60) : (wd b w wl H0 s)[b + (q + 17)]? = some (.inl 0, ar 24 (s (q + 17))) := by
  rcases hq with rfl | rfl
  · exact wd_at hP (k := 55) (by decide) (by decide)
  · exact wd_at hP (k := 77) (by decide) (by decide)
theorem wz_17 (hP : WOK b w H0) {q : Nat} (hq : q = 38 ∨ q = 60) {v i : Int32} (hi : rg i 24) : ((wd b w wl H0 s).set (b + (q + 17)) (.inl 0, (ar 24 (s (q + 17))).set i.toNatClampNeg (.int v)), kn) = (wd b w wl H0 (up s (q + 17) i.toNatClampNeg v), kn) := by
  rw [ar_set (rg_nat hi).1]
  rcases hq with rfl | rfl
  · exact wd_set hP (k := 55) (by decide) (by decide)
  · exact wd_set hP (k := 77) (by decide) (by decide)
theorem wl_18 (hP : WOK b w H0) {q : Nat} (hq : q = 38 ∨ q = 60) : (wd b w wl H0 s)[b + (q + 18)]? = some (.inl 0, ar 24 (s (q + 18))) := by
  rcases hq with rfl | rfl
  · exact wd_at hP (k := 56) (by decide) (by decide)
  · exact wd_at hP (k := 78) (by decide) (by decide)
theorem wz_18 (hP : WOK b w H0) {q : Nat} (hq : q = 38 ∨ q = 60) {v i : Int32} (hi : rg i 24) : ((wd b w wl H0 s).set (b + (q + 18)) (.inl 0, (ar 24 (s (q + 18))).set i.toNatClampNeg (.int v)), kn) = (wd b w wl H0 (up s (q + 18) i.toNatClampNeg v), kn) := by
  rw [ar_set (rg_nat hi).1]
  rcases hq with rfl | rfl
  · exact wd_set hP (k := 56) (by decide) (by decide)
  · exact wd_set hP (k := 78) (by decide) (by decide)
theorem wl_19 (hP : WOK b w H0) {q : Nat} (hq : q = 38 ∨ q = 60) : (wd b w wl H0 s)[b + (q + 19)]? = some (.inl 0, ar 24 (s (q + 19))) := by
  rcases hq with rfl | rfl
  · exact wd_at hP (k := 57) (by decide) (by decide)
  · exact wd_at hP (k := 79) (by decide) (by decide)
theorem wz_19 (hP : WOK b w H0) {q : Nat} (hq : q = 38 ∨ q = 60) {v i : Int32} (hi : rg i 24) : ((wd b w wl H0 s).set (b + (q + 19)) (.inl 0, (ar 24 (s (q + 19))).set i.toNatClampNeg (.int v)), kn) = (wd b w wl H0 (up s (q + 19) i.toNatClampNeg v), kn) := by
  rw [ar_set (rg_nat hi).1]
  rcases hq with rfl | rfl
  · exact wd_set hP (k := 57) (by decide) (by decide)
  · exact wd_set hP (k := 79) (by decide) (by decide)
theorem wl_20 (hP : WOK b w H0) {q : Nat} (hq : q = 38 ∨ q = 60) : (wd b w wl H0 s)[b + (q + 20)]? = some (.inl 0, ar 192 (s (q + 20))) := by
  rcases hq with rfl | rfl
  · exact wd_at hP (k := 58) (by decide) (by decide)
  · exact wd_at hP (k := 80) (by decide) (by decide)
theorem wz_20 (hP : WOK b w H0) {q : Nat} (hq : q = 38 ∨ q = 60) {v i : Int32} (hi : rg i 192) : ((wd b w wl H0 s).set (b + (q + 20)) (.inl 0, (ar 192 (s (q + 20))).set i.toNatClampNeg (.int v)), kn) = (wd b w wl H0 (up s (q + 20) i.toNatClampNeg v), kn) := by
  rw [ar_set (rg_nat hi).1]
  rcases hq with rfl | rfl
  · exact wd_set hP (k := 58) (by decide) (by decide)
  · exact wd_set hP (k := 80) (by decide) (by decide)
theorem wl_21 (hP : WOK b w H0) {q : Nat} (hq : q = 38 ∨ q = 60) : (wd b w wl H0 s)[b + (q + 21)]? = some (.inl 0, ar 20 (s (q + 21))) := by
  rcases hq with rfl | rfl
  · exact wd_at hP (k := 59) (by decide) (by decide)
  · exact wd_at hP (k := 81) (by decide) (by decide)
theorem wz_21 (hP : WOK b w H0) {q : Nat} (hq : q = 38 ∨ q = 60) {v i : Int32} (hi : rg i 20) : ((wd b w wl H0 s).set (b + (q + 21)) (.inl 0, (ar 20 (s (q + 21))).set i.toNatClampNeg (.int v)), kn) = (wd b w wl H0 (up s (q + 21) i.toNatClampNeg v), kn) := by
  rw [ar_set (rg_nat hi).1]
  rcases hq with rfl | rfl
  · exact wd_set hP (k := 59) (by decide) (by decide)
  · exact wd_set hP (k := 81) (by decide) (by decide)
end WD
/-! counters: they are never below 0 -/
def isK (k : Nat) : Bool := Nat.beq k 11 || Nat.beq k 15 || Nat.beq k 20 || Nat.beq k 23 || Nat.beq k 39 || Nat.beq k 41 || Nat.beq k 50 || Nat.beq k 53 || Nat.beq k 61 || Nat.beq k 63 || Nat.beq k 72 || Nat.beq k 75
def isC (k j : Nat) : Bool := Nat.beq k 15 || ((Nat.beq k 11 && Nat.beq j 8) || (Nat.beq k 20 && Nat.beq j 2) || (Nat.beq k 23 && Nat.beq j 13) || (Nat.beq k 23 && Nat.beq j 14) || (Nat.beq k 23 && Nat.beq j 15) || (Nat.beq k 39 && Nat.beq j 1) || (Nat.beq k 41 && Nat.beq j 3) || (Nat.beq k 50 && Nat.beq j 4) || (Nat.beq k 53 && Nat.beq j 5) || (Nat.beq k 61 && Nat.beq j 1) || (Nat.beq k 63 && Nat.beq j 3) || (Nat.beq k 72 && Nat.beq j 4) || (Nat.beq k 75 && Nat.beq j 5))
def NN (s : Sg) : Prop := ∀ k j, isC k j = true → 0 ≤ (s k j).toInt
theorem isC_K {k j : Nat} (h : isK k = false) : isC k j = false := by
  unfold isK at h
  simp only [Bool.or_eq_false_iff] at h
  unfold isC
  simp [h]
theorem nn_0 {s : Sg} {k j : Nat} {v : Int32} (h : isK k = false) (hN : NN s) : NN (up s k j v) := by
  intro k' j' hc
  by_cases hk : k' = k
  · subst hk; rw [isC_K h] at hc; cases hc
  · rw [up_ne hk]; exact hN k' j' hc
theorem nn_f {s : Sg} {k j : Nat} {v : Int32} (h : isC k j = false) (hN : NN s) : NN (up s k j v) := by
  intro k' j' hc
  by_cases hk : k' = k
  · subst hk
    rw [up_eq]
    by_cases hj : j' = j
    · subst hj; rw [h] at hc; cases hc
    · rw [upf_ne hj]; exact hN k' j' hc
  · rw [up_ne hk]; exact hN k' j' hc
theorem nn_c {s : Sg} {k j : Nat} {v : Int32} (hv : 0 ≤ v.toInt) (hN : NN s) : NN (up s k j v) := by
  intro k' j' hc
  by_cases hk : k' = k
  · subst hk
    rw [up_eq]
    by_cases hj : j' = j
    · subst hj; rw [upf_eq]; exact hv
    · rw [upf_ne hj]; exact hN k' j' hc
  · rw [up_ne hk]; exact hN k' j' hc
theorem i_add1 {x : Int32} (h : x.toInt < 2147483647) : (x + 1).toInt = x.toInt + 1 := by
  rw [Int32.toInt_add]
  have h1 := Int32.le_toInt x
  have h2 : (1 : Int32).toInt = 1 := rfl
  rw [h2, Int.bmod_eq_of_le (by omega) (by omega)]
theorem i_lt {x : Int32} {m : Int32} {n : Int} (h : ¬ m ≤ x) (hm : m.toInt = n) : x.toInt < n := by
  have h1 := Int32.lt_iff_toInt_lt.mp (Int32.not_le.mp h)
  omega
theorem i_ge {x : Int32} {m : Int32} {n : Int} (h : ¬ x < m) (hm : m.toInt = n) : n ≤ x.toInt := by
  have h1 := Int32.le_iff_toInt_le.mp (Int32.not_lt.mp h)
  omega
theorem rg_b {x : Int32} {m : Int32} {n : Nat} (h1 : ¬ x < 0) (h2 : ¬ m ≤ x) (hm : m.toInt = n) : rg x n := ⟨i_ge h1 rfl, i_lt h2 hm⟩
theorem rg_c {x : Int32} {m : Int32} {n : Nat} (h1 : 0 ≤ x.toInt) (h2 : ¬ m ≤ x) (hm : m.toInt = n) : rg x n := ⟨h1, i_lt h2 hm⟩
theorem i_mul_add {x y : Int32} {n m : Nat} (k : Int32) (c : Nat) (hk : k.toInt = c) (h1 : rg x n) (h2 : rg y m) (hm : m ≤ c) (hn : n * c < 1000000) : rg (x * k + y) (n * c) := by
  obtain ⟨a1, a2⟩ := h1
  obtain ⟨b1, b2⟩ := h2
  have h3 : (x * k).toInt = x.toInt * c := by
    rw [Int32.toInt_mul, hk]
    have h5 : x.toInt * c ≤ n * c := Int.mul_le_mul_of_nonneg_right (by omega) (by omega)
    have h6 : 0 ≤ x.toInt * c := Int.mul_nonneg a1 (by omega)
    have h7 : (n : Int) * c < 1000000 := by rw [← Int.natCast_mul]; omega
    rw [Int.bmod_eq_of_le (by omega) (by omega)]
  have h8 : (x.toInt + 1) * c ≤ n * c := Int.mul_le_mul_of_nonneg_right (by omega) (by omega)
  have h9 : (x.toInt + 1) * c = x.toInt * c + c := by rw [Int.add_mul, Int.one_mul]
  have h6 : 0 ≤ x.toInt * c := Int.mul_nonneg a1 (by omega)
  have h7 : (n : Int) * c < 1000000 := by rw [← Int.natCast_mul]; omega
  have h10 : (x * k + y).toInt = x.toInt * c + y.toInt := by
    rw [Int32.toInt_add, h3, Int.bmod_eq_of_le (by omega) (by omega)]
  refine ⟨by rw [h10]; omega, ?_⟩
  rw [h10]
  have := Int.natCast_mul n c
  omega
theorem bt {p : Prop} [Decidable p] (h : p) : decide p = true := decide_eq_true h
theorem bf {p : Prop} [Decidable p] (h : ¬ p) : decide p = false := decide_eq_false h
theorem nt {p : Prop} [Decidable p] (h : ¬ p) : (!decide p) = true := by rw [decide_eq_false h]; rfl
theorem nf {p : Prop} [Decidable p] (h : p) : (!decide p) = false := by rw [decide_eq_true h]; rfl
/-! loops -/
def itr {σ : Type} (B : σ → Bool × σ) : Nat → σ → σ
  | 0, x => x
  | n + 1, x => bif (B x).1 then itr B n (B x).2 else (B x).2
theorem itr_inv {σ : Type} {B : σ → Bool × σ} {I : σ → Prop} (h : ∀ x, I x → I (B x).2) : ∀ n x, I x → I (itr B n x) := by
  intro n
  induction n with
  | zero => exact fun x hx => hx
  | succ n ih =>
    intro x hx
    show I (bif (B x).1 then itr B n (B x).2 else (B x).2)
    cases (B x).1 with
    | true => exact ih _ (h x hx)
    | false => exact h x hx
theorem rx_loop {sc : Nat × (Nat → Int32)} {code : Nat → EA} {r : Nat} {σ : Type} {B : σ → Bool × σ} {fr E : σ → EF} {hp : σ → EH} {vr : σ → Int32} {I : σ → Prop}
    (hb : ∀ x o h', I x → 0 ≤ (vr x).toInt → ((B x).1 = true → (vr x).toInt < 2147483647 → vr (B x).2 = vr x + 1 → Rx sc code r (fr (B x).2) (hp (B x).2) o h') → ((B x).1 = false → Rx sc code r (E (B x).2) (hp (B x).2) o h') → Rx sc code r (fr x) (hp x) o h')
    (hI : ∀ x, I x → I (B x).2) :
    ∀ (n : Nat) (x : σ) (o : Option Value) (h' : EH), I x → 0 ≤ (vr x).toInt → 2147483648 ≤ (vr x).toInt + n → Rx sc code r (E (itr B n x)) (hp (itr B n x)) o h' → Rx sc code r (fr x) (hp x) o h' := by
  intro n
  induction n with
  | zero =>
    intro x o h' _ _ h1
    have := Int32.toInt_lt (vr x)
    omega
  | succ n ih =>
    intro x o h' h0 hv h1 hx
    have hx : Rx sc code r (E (bif (B x).1 then itr B n (B x).2 else (B x).2)) (hp (bif (B x).1 then itr B n (B x).2 else (B x).2)) o h' := hx
    refine hb x o h' h0 hv (fun e e1 e2 => ?_) (fun e => ?_)
    · rw [e] at hx
      have h3 : (vr (B x).2).toInt = (vr x).toInt + 1 := by rw [e2, i_add1 e1]
      exact ih (B x).2 o h' (hI x h0) (by omega) (by omega) hx
    · rw [e] at hx
      exact hx
/-- loops that look for something: they may return from within -/
def itf {σ : Type} (B : σ → Option (Option Int32) × σ) : Nat → σ → Option Int32
  | 0, _ => none
  | n + 1, x => match (B x).1 with
    | none => itf B n (B x).2
    | some z => z
theorem itf_some {σ : Type} {B : σ → Option (Option Int32) × σ} {P : Int32 → Prop} (h : ∀ x v, (B x).1 = some (some v) → P v) : ∀ (n : Nat) (x : σ) (v : Int32), itf B n x = some v → P v := by
  intro n
  induction n with
  | zero => exact fun x v e => absurd e (fun q => by cases q)
  | succ n ih =>
    intro x v e
    have e : (match (B x).1 with | none => itf B n (B x).2 | some z => z) = some v := e
    cases hb : (B x).1 with
    | none =>
      rw [hb] at e
      exact ih _ v e
    | some z =>
      rw [hb] at e
      have e2 : z = some v := e
      exact h x v (by rw [hb, e2])
theorem rx_loopF {sc : Nat × (Nat → Int32)} {code : Nat → EA} {r : Nat} {σ : Type} {B : σ → Option (Option Int32) × σ} {fr E : σ → EF} {hp : EH} {vr : σ → Int32} {o : Option Value} {h' : EH}
    (hb : ∀ x, 0 ≤ (vr x).toInt → ((B x).1 = none → (vr x).toInt < 2147483647 → vr (B x).2 = vr x + 1 → Rx sc code r (fr (B x).2) hp o h') → ((B x).1 = some none → Rx sc code r (E (B x).2) hp o h') → (∀ v, (B x).1 = some (some v) → o = some (.int v) ∧ h' = hp) → Rx sc code r (fr x) hp o h') :
    ∀ (n : Nat) (x : σ), 0 ≤ (vr x).toInt → 2147483648 ≤ (vr x).toInt + n → (itf B n x = none → ∀ y, Rx sc code r (E y) hp o h') → (∀ v, itf B n x = some v → o = some (.int v) ∧ h' = hp) → Rx sc code r (fr x) hp o h' := by
  intro n
  induction n with
  | zero =>
    intro x _ h1
    have := Int32.toInt_lt (vr x)
    omega
  | succ n ih =>
    intro x hv h1 hx hy
    have hx : (match (B x).1 with | none => itf B n (B x).2 | some z => z) = none → ∀ y, Rx sc code r (E y) hp o h' := hx
    have hy : ∀ v, (match (B x).1 with | none => itf B n (B x).2 | some z => z) = some v → o = some (.int v) ∧ h' = hp := hy
    refine hb x hv (fun e e1 e2 => ?_) (fun e => ?_) (fun v e => ?_)
    · rw [e] at hx hy
      have h3 : (vr (B x).2).toInt = (vr x).toInt + 1 := by rw [e2, i_add1 e1]
      exact ih (B x).2 (by omega) (by omega) hx hy
    · rw [e] at hx
      exact hx rfl _
    · rw [e] at hy
      exact hy v rfl
/-! the same, curried -/
def uc2 {σ : Type} (B : Int32 → σ → Bool × (Int32 × σ)) : Int32 × σ → Bool × (Int32 × σ) := fun x => B x.1 x.2
theorem itr_inv2 {B : Int32 → Sg → Bool × (Int32 × Sg)} {I : Int32 → Sg → Prop} (h : ∀ (x : Int32) (s : Sg), I x s → ∃ (f : Bool) (t : Int32) (ts : Sg), B x s = (f, (t, ts)) ∧ I t ts) (n : Nat) (x : Int32) (s : Sg) (h0 : I x s) : I (itr (uc2 B) n (x, s)).1 (itr (uc2 B) n (x, s)).2 :=
  itr_inv (B := uc2 B) (I := fun z => I z.1 z.2) (fun z hz => by
    obtain ⟨f, t, ts, e, hi⟩ := h z.1 z.2 hz
    have e2 : uc2 B z = (f, (t, ts)) := e
    rw [e2]
    exact hi) n (x, s) h0
theorem rx_loop2s {b w wl : Nat} {H0 : List EC} {kn : Nat × Nat} {sc : Nat × (Nat → Int32)} {code : Nat → EA} {r : Nat} {B : Int32 → Sg → Bool × (Int32 × Sg)} {fr E : Int32 → EF} {I : Int32 → Sg → Prop}
    (hb : ∀ (x : Int32) (s : Sg) (o : Option Value) (h' : EH), I x s → 0 ≤ x.toInt → (∀ (t : Int32) (ts : Sg), B x s = (true, (t, ts)) → x.toInt < 2147483647 → t = x + 1 → Rx sc code r (fr t) (wd b w wl H0 ts, kn) o h') → (∀ (t : Int32) (ts : Sg), B x s = (false, (t, ts)) → Rx sc code r (E t) (wd b w wl H0 ts, kn) o h') → Rx sc code r (fr x) (wd b w wl H0 s, kn) o h')
    (hI : ∀ (x : Int32) (s : Sg), I x s → ∃ (f : Bool) (t : Int32) (ts : Sg), B x s = (f, (t, ts)) ∧ I t ts) (n : Nat) (x : Int32) (s : Sg) (o : Option Value) (h' : EH) (h0 : I x s) (hv : 0 ≤ x.toInt) (h1 : 2147483648 ≤ x.toInt + n)
    (hx : Rx sc code r (E (itr (uc2 B) n (x, s)).1) (wd b w wl H0 (itr (uc2 B) n (x, s)).2, kn) o h') : Rx sc code r (fr x) (wd b w wl H0 s, kn) o h' :=
  rx_loop (B := uc2 B) (fr := fun z => fr z.1) (E := fun z => E z.1) (hp := fun z => (wd b w wl H0 z.2, kn)) (vr := fun z => z.1) (I := fun z => I z.1 z.2)
    (fun z o h' a0 a1 a2 a3 => hb z.1 z.2 o h' a0 a1
      (fun t ts e => by
        rw [show uc2 B z = (true, (t, ts)) from e] at a2
        exact a2 rfl)
      (fun t ts e => by
        rw [show uc2 B z = (false, (t, ts)) from e] at a3
        exact a3 rfl))
    (fun z hz => by
      obtain ⟨f, t, ts, e, hi⟩ := hI z.1 z.2 hz
      have e2 : uc2 B z = (f, (t, ts)) := e
      rw [e2]
      exact hi) n (x, s) o h' h0 hv h1 hx
theorem rx_loop2p {hp : EH} {sc : Nat × (Nat → Int32)} {code : Nat → EA} {r : Nat} {β : Type} {B : Int32 → β → Bool × (Int32 × β)} {fr E : Int32 → β → EF}
    (hb : ∀ (x : Int32) (y0 : β) (o : Option Value) (h' : EH), True → 0 ≤ x.toInt → (∀ (t : Int32) (u0 : β), B x y0 = (true, (t, u0)) → x.toInt < 2147483647 → t = x + 1 → Rx sc code r (fr t u0) hp o h') → (∀ (t : Int32) (u0 : β), B x y0 = (false, (t, u0)) → Rx sc code r (E t u0) hp o h') → Rx sc code r (fr x y0) hp o h')
    (n : Nat) (x : Int32) (y0 : β) (o : Option Value) (h' : EH) (hv : 0 ≤ x.toInt) (h1 : 2147483648 ≤ x.toInt + n)
    (hx : Rx sc code r (E (itr (uc2 B) n (x, y0)).1 (itr (uc2 B) n (x, y0)).2) hp o h') : Rx sc code r (fr x y0) hp o h' :=
  rx_loop (B := uc2 B) (fr := fun z => fr z.1 z.2) (E := fun z => E z.1 z.2) (hp := fun _ => hp) (vr := fun z => z.1) (I := fun _ => True)
    (fun z o h' _ a1 a2 a3 => hb z.1 z.2 o h' trivial a1
      (fun t u0 e => by
        rw [show uc2 B z = (true, (t, u0)) from e] at a2
        exact a2 rfl)
      (fun t u0 e => by
        rw [show uc2 B z = (false, (t, u0)) from e] at a3
        exact a3 rfl))
    (fun _ _ => trivial) n (x, y0) o h' trivial hv h1 hx
def uc3 {β : Type} {σ : Type} (B : Int32 → β → σ → Bool × (Int32 × β × σ)) : Int32 × β × σ → Bool × (Int32 × β × σ) := fun x => B x.1 x.2.1 x.2.2
theorem itr_inv3 {β : Type} {B : Int32 → β → Sg → Bool × (Int32 × β × Sg)} {I : Int32 → β → Sg → Prop} (h : ∀ (x : Int32) (y0 : β) (s : Sg), I x y0 s → ∃ (f : Bool) (t : Int32) (u0 : β) (ts : Sg), B x y0 s = (f, (t, u0, ts)) ∧ I t u0 ts) (n : Nat) (x : Int32) (y0 : β) (s : Sg) (h0 : I x y0 s) : I (itr (uc3 B) n (x, y0, s)).1 (itr (uc3 B) n (x, y0, s)).2.1 (itr (uc3 B) n (x, y0, s)).2.2 :=
  itr_inv (B := uc3 B) (I := fun z => I z.1 z.2.1 z.2.2) (fun z hz => by
    obtain ⟨f, t, u0, ts, e, hi⟩ := h z.1 z.2.1 z.2.2 hz
    have e2 : uc3 B z = (f, (t, u0, ts)) := e
    rw [e2]
    exact hi) n (x, y0, s) h0
theorem rx_loop3s {b w wl : Nat} {H0 : List EC} {kn : Nat × Nat} {sc : Nat × (Nat → Int32)} {code : Nat → EA} {r : Nat} {β : Type} {B : Int32 → β → Sg → Bool × (Int32 × β × Sg)} {fr E : Int32 → β → EF} {I : Int32 → β → Sg → Prop}
    (hb : ∀ (x : Int32) (y0 : β) (s : Sg) (o : Option Value) (h' : EH), I x y0 s → 0 ≤ x.toInt → (∀ (t : Int32) (u0 : β) (ts : Sg), B x y0 s = (true, (t, u0, ts)) → x.toInt < 2147483647 → t = x + 1 → Rx sc code r (fr t u0) (wd b w wl H0 ts, kn) o h') → (∀ (t : Int32) (u0 : β) (ts : Sg), B x y0 s = (false, (t, u0, ts)) → Rx sc code r (E t u0) (wd b w wl H0 ts, kn) o h') → Rx sc code r (fr x y0) (wd b w wl H0 s, kn) o h')
    (hI : ∀ (x : Int32) (y0 : β) (s : Sg), I x y0 s → ∃ (f : Bool) (t : Int32) (u0 : β) (ts : Sg), B x y0 s = (f, (t, u0, ts)) ∧ I t u0 ts) (n : Nat) (x : Int32) (y0 : β) (s : Sg) (o : Option Value) (h' : EH) (h0 : I x y0 s) (hv : 0 ≤ x.toInt) (h1 : 2147483648 ≤ x.toInt + n)
    (hx : Rx sc code r (E (itr (uc3 B) n (x, y0, s)).1 (itr (uc3 B) n (x, y0, s)).2.1) (wd b w wl H0 (itr (uc3 B) n (x, y0, s)).2.2, kn) o h') : Rx sc code r (fr x y0) (wd b w wl H0 s, kn) o h' :=
  rx_loop (B := uc3 B) (fr := fun z => fr z.1 z.2.1) (E := fun z => E z.1 z.2.1) (hp := fun z => (wd b w wl H0 z.2.2, kn)) (vr := fun z => z.1) (I := fun z => I z.1 z.2.1 z.2.2)
    (fun z o h' a0 a1 a2 a3 => hb z.1 z.2.1 z.2.2 o h' a0 a1
      (fun t u0 ts e => by
        rw [show uc3 B z = (true, (t, u0, ts)) from e] at a2
        exact a2 rfl)
      (fun t u0 ts e => by
        rw [show uc3 B z = (false, (t, u0, ts)) from e] at a3
        exact a3 rfl))
    (fun z hz => by
      obtain ⟨f, t, u0, ts, e, hi⟩ := hI z.1 z.2.1 z.2.2 hz
      have e2 : uc3 B z = (f, (t, u0, ts)) := e
      rw [e2]
      exact hi) n (x, y0, s) o h' h0 hv h1 hx
theorem rx_loop3p {hp : EH} {sc : Nat × (Nat → Int32)} {code : Nat → EA} {r : Nat} {β γ : Type} {B : Int32 → β → γ → Bool × (Int32 × β × γ)} {fr E : Int32 → β → γ → EF}
    (hb : ∀ (x : Int32) (y0 : β) (y1 : γ) (o : Option Value) (h' : EH), True → 0 ≤ x.toInt → (∀ (t : Int32) (u0 : β) (u1 : γ), B x y0 y1 = (true, (t, u0, u1)) → x.toInt < 2147483647 → t = x + 1 → Rx sc code r (fr t u0 u1) hp o h') → (∀ (t : Int32) (u0 : β) (u1 : γ), B x y0 y1 = (false, (t, u0, u1)) → Rx sc code r (E t u0 u1) hp o h') → Rx sc code r (fr x y0 y1) hp o h')
    (n : Nat) (x : Int32) (y0 : β) (y1 : γ) (o : Option Value) (h' : EH) (hv : 0 ≤ x.toInt) (h1 : 2147483648 ≤ x.toInt + n)
    (hx : Rx sc code r (E (itr (uc3 B) n (x, y0, y1)).1 (itr (uc3 B) n (x, y0, y1)).2.1 (itr (uc3 B) n (x, y0, y1)).2.2) hp o h') : Rx sc code r (fr x y0 y1) hp o h' :=
  rx_loop (B := uc3 B) (fr := fun z => fr z.1 z.2.1 z.2.2) (E := fun z => E z.1 z.2.1 z.2.2) (hp := fun _ => hp) (vr := fun z => z.1) (I := fun _ => True)
    (fun z o h' _ a1 a2 a3 => hb z.1 z.2.1 z.2.2 o h' trivial a1
      (fun t u0 u1 e => by
        rw [show uc3 B z = (true, (t, u0, u1)) from e] at a2
        exact a2 rfl)
      (fun t u0 u1 e => by
        rw [show uc3 B z = (false, (t, u0, u1)) from e] at a3
        exact a3 rfl))
    (fun _ _ => trivial) n (x, y0, y1) o h' trivial hv h1 hx
def uc4 {β γ : Type} {σ : Type} (B : Int32 → β → γ → σ → Bool × (Int32 × β × γ × σ)) : Int32 × β × γ × σ → Bool × (Int32 × β × γ × σ) := fun x => B x.1 x.2.1 x.2.2.1 x.2.2.2
theorem itr_inv4 {β γ : Type} {B : Int32 → β → γ → Sg → Bool × (Int32 × β × γ × Sg)} {I : Int32 → β → γ → Sg → Prop} (h : ∀ (x : Int32) (y0 : β) (y1 : γ) (s : Sg), I x y0 y1 s → ∃ (f : Bool) (t : Int32) (u0 : β) (u1 : γ) (ts : Sg), B x y0 y1 s = (f, (t, u0, u1, ts)) ∧ I t u0 u1 ts) (n : Nat) (x : Int32) (y0 : β) (y1 : γ) (s : Sg) (h0 : I x y0 y1 s) : I (itr (uc4 B) n (x, y0, y1, s)).1 (itr (uc4 B) n (x, y0, y1, s)).2.1 (itr (uc4 B) n (x, y0, y1, s)).2.2.1 (itr (uc4 B) n (x, y0, y1, s)).2.2.2 :=
  itr_inv (B := uc4 B) (I := fun z => I z.1 z.2.1 z.2.2.1 z.2.2.2) (fun z hz => by
    obtain ⟨f, t, u0, u1, ts, e, hi⟩ := h z.1 z.2.1 z.2.2.1 z.2.2.2 hz
    have e2 : uc4 B z = (f, (t, u0, u1, ts)) := e
    rw [e2]
    exact hi) n (x, y0, y1, s) h0
theorem rx_loop4s {b w wl : Nat} {H0 : List EC} {kn : Nat × Nat} {sc : Nat × (Nat → Int32)} {code : Nat → EA} {r : Nat} {β γ : Type} {B : Int32 → β → γ → Sg → Bool × (Int32 × β × γ × Sg)} {fr E : Int32 → β → γ → EF} {I : Int32 → β → γ → Sg → Prop}
    (hb : ∀ (x : Int32) (y0 : β) (y1 : γ) (s : Sg) (o : Option Value) (h' : EH), I x y0 y1 s → 0 ≤ x.toInt → (∀ (t : Int32) (u0 : β) (u1 : γ) (ts : Sg), B x y0 y1 s = (true, (t, u0, u1, ts)) → x.toInt < 2147483647 → t = x + 1 → Rx sc code r (fr t u0 u1) (wd b w wl H0 ts, kn) o h') → (∀ (t : Int32) (u0 : β) (u1 : γ) (ts : Sg), B x y0 y1 s = (false, (t, u0, u1, ts)) → Rx sc code r (E t u0 u1) (wd b w wl H0 ts, kn) o h') → Rx sc code r (fr x y0 y1) (wd b w wl H0 s, kn) o h')
    (hI : ∀ (x : Int32) (y0 : β) (y1 : γ) (s : Sg), I x y0 y1 s → ∃ (f : Bool) (t : Int32) (u0 : β) (u1 : γ) (ts : Sg), B x y0 y1 s = (f, (t, u0, u1, ts)) ∧ I t u0 u1 ts) (n : Nat) (x : Int32) (y0 : β) (y1 : γ) (s : Sg) (o : Option Value) (h' : EH) (h0 : I x y0 y1 s) (hv : 0 ≤ x.toInt) (h1 : 2147483648 ≤ x.toInt + n)
    (hx : Rx sc code r (E (itr (uc4 B) n (x, y0, y1, s)).1 (itr (uc4 B) n (x, y0, y1, s)).2.1 (itr (uc4 B) n (x, y0, y1, s)).2.2.1) (wd b w wl H0 (itr (uc4 B) n (x, y0, y1, s)).2.2.2, kn) o h') : Rx sc code r (fr x y0 y1) (wd b w wl H0 s, kn) o h' :=
  rx_loop (B := uc4 B) (fr := fun z => fr z.1 z.2.1 z.2.2.1) (E := fun z => E z.1 z.2.1 z.2.2.1) (hp := fun z => (wd b w wl H0 z.2.2.2, kn)) (vr := fun z => z.1) (I := fun z => I z.1 z.2.1 z.2.2.1 z.2.2.2)
    (fun z o h' a0 a1 a2 a3 => hb z.1 z.2.1 z.2.2.1 z.2.2.2 o h' a0 a1
      (fun t u0 u1 ts e => by
        rw [show uc4 B z = (true, (t, u0, u1, ts)) from e] at a2
        exact a2 rfl)
      (fun t u0 u1 ts e => by
        rw [show uc4 B z = (false, (t, u0, u1, ts)) from e] at a3
        exact a3 rfl))
    (fun z hz => by
      obtain ⟨f, t, u0, u1, ts, e, hi⟩ := hI z.1 z.2.1 z.2.2.1 z.2.2.2 hz
      have e2 : uc4 B z = (f, (t, u0, u1, ts)) := e
      rw [e2]
      exact hi) n (x, y0, y1, s) o h' h0 hv h1 hx
theorem exq2 {φ : Type} {X : φ × (Int32 × Sg)} {s S : Sg} {k j : Nat} (h : ∃ (f : φ) (t : Int32) (ts : Sg), X = (f, (t, ts)) ∧ ts k j = s k j) (hz : s k j = S k j) : ∃ (f : φ) (t : Int32) (ts : Sg), X = (f, (t, ts)) ∧ ts k j = S k j := by
  obtain ⟨f, t, ts, e, h1⟩ := h
  exact ⟨f, t, ts, e, h1.trans hz⟩
theorem exq2t {φ : Type} {X : φ × (Int32 × Sg)} {s S : Sg} {k j : Nat} (h : ∃ (f : φ) (t : Int32) (ts : Sg), X = (f, (t, ts)) ∧ ts k j = s k j) (hz : s k j = S k j) : ∃ (f : φ) (t : Int32) (ts : Sg), X = (f, (t, ts)) ∧ ts k j = S k j := by
  obtain ⟨f, t, ts, e, h1⟩ := h
  exact ⟨f, t, ts, e, h1.trans hz⟩
theorem exq3 {φ : Type} {β : Type} {X : φ × (Int32 × β × Sg)} {s S : Sg} {k j : Nat} (h : ∃ (f : φ) (t : Int32) (u0 : β) (ts : Sg), X = (f, (t, u0, ts)) ∧ ts k j = s k j) (hz : s k j = S k j) : ∃ (f : φ) (t : Int32) (u0 : β) (ts : Sg), X = (f, (t, u0, ts)) ∧ ts k j = S k j := by
  obtain ⟨f, t, u0, ts, e, h1⟩ := h
  exact ⟨f, t, u0, ts, e, h1.trans hz⟩
theorem exq3t {φ : Type} {β : Type} {X : φ × (Int32 × β × Sg)} {s S : Sg} {k j : Nat} (h : ∃ (f : φ) (t : Int32) (u0 : β) (ts : Sg), X = (f, (t, u0, ts)) ∧ ts k j = s k j) (hz : s k j = S k j) : ∃ (f : φ) (t : Int32) (u0 : β) (ts : Sg), X = (f, (t, u0, ts)) ∧ ts k j = S k j := by
  obtain ⟨f, t, u0, ts, e, h1⟩ := h
  exact ⟨f, t, u0, ts, e, h1.trans hz⟩
theorem exq4 {φ : Type} {β γ : Type} {X : φ × (Int32 × β × γ × Sg)} {s S : Sg} {k j : Nat} (h : ∃ (f : φ) (t : Int32) (u0 : β) (u1 : γ) (ts : Sg), X = (f, (t, u0, u1, ts)) ∧ ts k j = s k j) (hz : s k j = S k j) : ∃ (f : φ) (t : Int32) (u0 : β) (u1 : γ) (ts : Sg), X = (f, (t, u0, u1, ts)) ∧ ts k j = S k j := by
  obtain ⟨f, t, u0, u1, ts, e, h1⟩ := h
  exact ⟨f, t, u0, u1, ts, e, h1.trans hz⟩
theorem exq4t {φ : Type} {β γ : Type} {X : φ × (Int32 × β × γ × Sg)} {s S : Sg} {k j : Nat} (h : ∃ (f : φ) (t : Int32) (u0 : β) (u1 : γ) (ts : Sg), X = (f, (t, u0, u1, ts)) ∧ ts k j = s k j) (hz : s k j = S k j) : ∃ (f : φ) (t : Int32) (u0 : β) (u1 : γ) (ts : Sg), X = (f, (t, u0, u1, ts)) ∧ ts k j = S k j := by
  obtain ⟨f, t, u0, u1, ts, e, h1⟩ := h
  exact ⟨f, t, u0, u1, ts, e, h1.trans hz⟩
theorem rx_loopF1 {hp : EH} {sc : Nat × (Nat → Int32)} {code : Nat → EA} {r : Nat} {B : Int32 → Option (Option Int32) × Int32} {fr E : Int32 → EF} {o : Option Value} {h' : EH}
    (hb : ∀ x, 0 ≤ x.toInt → (∀ t, B x = (none, t) → x.toInt < 2147483647 → t = x + 1 → Rx sc code r (fr t) hp o h') → (∀ t, B x = (some none, t) → Rx sc code r (E t) hp o h') → (∀ (v t : Int32), B x = (some (some v), t) → o = some (.int v) ∧ h' = hp) → Rx sc code r (fr x) hp o h')
    (n : Nat) (x : Int32) (hv : 0 ≤ x.toInt) (h1 : 2147483648 ≤ x.toInt + n) (hx : itf B n x = none → ∀ y, Rx sc code r (E y) hp o h') (hy : ∀ v, itf B n x = some v → o = some (.int v) ∧ h' = hp) : Rx sc code r (fr x) hp o h' :=
  rx_loopF (B := B) (fr := fr) (E := E) (hp := hp) (vr := fun z => z) (o := o) (h' := h')
    (fun z a1 a2 a3 a4 => hb z a1
      (fun t e => by
        rw [e] at a2
        exact a2 rfl)
      (fun t e => by
        rw [e] at a3
        exact a3 rfl)
      (fun v t e => by
        rw [e] at a4
        exact a4 v rfl)) n x hv h1 hx hy
theorem pair_of {α : Type} {P : Sg → Prop} {X : α × Sg} {v : α} {s' : Sg} (e : X = (v, s')) (h : P s') : P X.2 := by
  rw [e]
  exact h
