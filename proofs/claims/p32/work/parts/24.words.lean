/-! the words of a link, up to its size -/
def Wr (q : Nat) (N : Nat) (s t : Sg) : Prop := Fl q s t ∧ ∀ j : Nat, j < N → t 37 j = s 37 j
theorem wr_put {q N wl : Nat} (hq : q = 38 ∨ q = 60) {s t : Sg} (h : Wr q N s t) {a v w : Int32} (e : w = v) : Wr q N (D_X1_put wl s a v) (D_X1_put wl t a w) := by
  subst e
  unfold D_X1_put
  by_cases c0 : a < 0
  · rw [if_pos c0, if_pos c0]; exact h
  · rw [if_neg c0, if_neg c0]
    by_cases c1 : Int32.ofNat wl ≤ a
    · rw [if_pos c1, if_pos c1]; exact h
    · rw [if_neg c1, if_neg c1]
      have f : ∀ (z : Sg) (k j : Nat), k ≠ 37 → (up z 37 a.toNatClampNeg w) k j = z k j := fun z k j hk => by rw [up_ne hk]
      refine ⟨⟨h.1.pc.of (fun k j hk => f _ _ _ (by omega)) (fun k j hk => f _ _ _ (by omega)), ?_, ?_, ?_, ?_⟩, ?_⟩
      · rw [f _ _ _ (by omega), f _ _ _ (by omega)]; exact h.1.n
      · rw [f _ _ _ (by omega)]; exact h.1.n0
      · rw [f _ _ _ (by omega)]; exact h.1.n1
      · rw [f _ _ 1 (by omega)]; intro j hj; rw [f _ _ _ (by omega), f _ _ _ (by omega)]; exact h.1.fa j hj
      · intro j hj; rw [up_at, up_at, h.2 j hj]
theorem wr_piece {q N wl : Nat} (hq : q = 38 ∨ q = 60) {s t : Sg} (h : Wr q N s t) {a k p : Int32} (hk : ¬ D_X7_hasSection q s k = 0) : Wr q N (D_X5_writePiece q wl s a k p) (D_X5_writePiece q wl t a k p) := by
  have pc := h.1.pc
  have tb := pc.pl.od.rt.st.tk.tb
  unfold D_X5_writePiece
  rw [x8_ref tb, x8_kind tb, x8_name tb, x8_added tb, stands_eq pc, width_eq (pc_sec pc hk).2.2.2]
  by_cases c0 : D_X8_isReference s k p = 0
  · rw [if_pos c0, if_pos c0]; exact h
  · rw [if_neg c0, if_neg c0]
    by_cases c1 : D_X8_kind s k p = 1
    · rw [if_pos c1, if_pos c1]; exact wr_put hq h rfl
    · rw [if_neg c1, if_neg c1]
      by_cases c2 : D_X3_width q s k p = 2
      · rw [if_pos c2, if_pos c2]; exact wr_put hq (wr_put hq h rfl) rfl
      · rw [if_neg c2, if_neg c2]; exact wr_put hq (wr_put hq h rfl) rfl
