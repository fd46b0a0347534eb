/-! the words of a link, up to its size (the rows of the two may differ in length) -/
def Wr (q : Nat) (N : Nat) (s t : Sg) : Prop := Fl q s t ∧ ∀ j : Nat, j < N → t 37 j = s 37 j
theorem i_wl {n : Nat} (hW : n < 2000000) : (Int32.ofNat n).toInt = n := by
  have h : (Int32.ofNat n).toInt = (n : Int).bmod (2 ^ 32) := by
    rw [show Int32.ofNat n = Int32.ofInt (n : Int) from rfl, Int32.toInt_ofInt]
  rw [h, Int.bmod_eq_of_le (by omega) (by omega)]
theorem put_37 {wl : Nat} (hW : wl < 2000000) {s : Sg} {a v : Int32} {j : Nat} : (D_X1_put wl s a v) 37 j = if 0 ≤ a.toInt ∧ a.toInt < wl ∧ j = a.toNatClampNeg then v else s 37 j := by
  unfold D_X1_put
  by_cases c0 : a < 0
  · rw [if_pos c0, if_neg (fun q => by have := i_lt2 (n := 0) c0 rfl; omega)]
  · rw [if_neg c0]
    have h0 : (0 : Int) ≤ a.toInt := i_ge c0 rfl
    by_cases c1 : Int32.ofNat wl ≤ a
    · rw [if_pos c1, if_neg (fun q => by have := i_le c1 (i_wl hW); omega)]
    · rw [if_neg c1, up_at]
      have h1 := i_nle c1
      rw [i_wl hW] at h1
      by_cases c : j = a.toNatClampNeg
      · rw [if_pos ⟨rfl, c⟩, if_pos ⟨h0, h1, c⟩]
      · rw [if_neg (fun q => c q.2), if_neg (fun q => c q.2.2)]
theorem put_same {N wl wl' : Nat} (hN : N ≤ wl) (hN' : N ≤ wl') (hW : wl < 2000000) (hW' : wl' < 2000000) {s t : Sg} {a v : Int32} (h : ∀ j : Nat, j < N → t 37 j = s 37 j) : ∀ j : Nat, j < N → (D_X1_put wl' t a v) 37 j = (D_X1_put wl s a v) 37 j := by
  intro j hj
  rw [put_37 hW', put_37 hW, h j hj]
  by_cases c : 0 ≤ a.toInt ∧ j = a.toNatClampNeg
  · obtain ⟨h0, h1⟩ := c
    have h2 : a.toInt < N := by rw [tn] at h1; omega
    rw [if_pos ⟨h0, by omega, h1⟩, if_pos ⟨h0, by omega, h1⟩]
  · rw [if_neg (fun q => c ⟨q.1, q.2.2⟩), if_neg (fun q => c ⟨q.1, q.2.2⟩)]
theorem wr_put {q N wl wl' : Nat} (hq : q = 38 ∨ q = 60) (hN : N ≤ wl) (hN' : N ≤ wl') (hW : wl < 2000000) (hW' : wl' < 2000000) {s t : Sg} (h : Wr q N s t) {a v w : Int32} (e : w = v) : Wr q N (D_X1_put wl s a v) (D_X1_put wl' t a w) := by
  subst e
  refine ⟨⟨h.1.pc.of (fun k j hk => fw_X1_put (by omega)) (fun k j hk => fw_X1_put (by omega)), ?_, ?_, ?_, ?_⟩, put_same hN hN' hW hW' h.2⟩
  · rw [fw_X1_put (by omega), fw_X1_put (by omega)]; exact h.1.n
  · rw [fw_X1_put (by omega)]; exact h.1.n0
  · rw [fw_X1_put (by omega)]; exact h.1.n1
  · rw [fw_X1_put (k := q + 1) (by omega)]; intro j hj; rw [fw_X1_put (by omega), fw_X1_put (by omega)]; exact h.1.fa j hj
theorem wr_piece {q N wl wl' : Nat} (hq : q = 38 ∨ q = 60) (hN : N ≤ wl) (hN' : N ≤ wl') (hW : wl < 2000000) (hW' : wl' < 2000000) {s t : Sg} (h : Wr q N s t) {a k p : Int32} (hk : ¬ D_X7_hasSection q s k = 0) : Wr q N (D_X5_writePiece q wl s a k p) (D_X5_writePiece q wl' t a k p) := by
  have pc := h.1.pc
  have tb := pc.pl.od.rt.st.tk.tb
  unfold D_X5_writePiece
  rw [x8_ref tb, x8_kind tb, x8_name tb, x8_added tb, stands_eq pc, width_eq (pc_sec pc hk).2.2.2]
  by_cases c0 : D_X8_isReference s k p = 0
  · rw [if_pos c0, if_pos c0]; exact h
  · rw [if_neg c0, if_neg c0]
    by_cases c1 : D_X8_kind s k p = 1
    · rw [if_pos c1, if_pos c1]; exact wr_put hq hN hN' hW hW' h rfl
    · rw [if_neg c1, if_neg c1]
      by_cases c2 : D_X3_width q s k p = 2
      · rw [if_pos c2, if_pos c2]; exact wr_put hq hN hN' hW hW' (wr_put hq hN hN' hW hW' h rfl) rfl
      · rw [if_neg c2, if_neg c2]; exact wr_put hq hN hN' hW hW' (wr_put hq hN hN' hW hW' h rfl) rfl
