theorem x7_import {q : Nat} {s t : Sg} (h : Rt q s t) {n : Int32} : D_X7_isImport q t n = D_X7_isImport q s n := by
  unfold D_X7_isImport; rw [h.b7]
theorem fl_of {q : Nat} (hq : q = 38 ∨ q = 60) {s t : Sg} (h : Fl q s t) {k p a : Int32} : Fl q (D_X5_tellFaultsOf q s k p a) (D_X5_tellFaultsOf q t k p a) := by
  have rt := h.pc.pl.od.rt
  have tb := rt.st.tk.tb
  have en : D_X8_name t k p = D_X8_name s k p := x8_name tb
  unfold D_X5_tellFaultsOf
  rw [en]
  generalize D_X8_name s k p = n
  have hA := fl_add hq h (a := 3) (b := n) (c := k) (d := p)
  have hB := fl_add hq hA (a := 4) (b := n) (c := k) (d := p)
  have hC := fl_add hq h (a := 4) (b := n) (c := k) (d := p)
  have tA := hA.pc.pl.od.rt.st.tk.tb
  rw [x7_import rt, x9_kind rt.st, x8_weak tb, x8_kind tA, stands_eq hA.pc, x8_added tA, x8_kind tb, stands_eq h.pc, x8_added tb]
  have tail : Fl q (if D_X8_kind s k p = 1 then (if ((D_X3_standsFor q s n) + (D_X8_added s k p)) < 0 then (D_X0_add q s 4 n k p) else (if ((D_X3_standsFor q s n) + (D_X8_added s k p)) ≤ a then s else (D_X0_add q s 4 n k p))) else s) (if D_X8_kind s k p = 1 then (if ((D_X3_standsFor q s n) + (D_X8_added s k p)) < 0 then (D_X0_add q t 4 n k p) else (if ((D_X3_standsFor q s n) + (D_X8_added s k p)) ≤ a then t else (D_X0_add q t 4 n k p))) else t) := by
    by_cases c1 : D_X8_kind s k p = 1
    · rw [if_pos c1, if_pos c1]
      by_cases c2 : ((D_X3_standsFor q s n) + (D_X8_added s k p)) < 0
      · rw [if_pos c2, if_pos c2]; exact hC
      · rw [if_neg c2, if_neg c2]
        by_cases c3 : ((D_X3_standsFor q s n) + (D_X8_added s k p)) ≤ a
        · rw [if_pos c3, if_pos c3]; exact h
        · rw [if_neg c3, if_neg c3]; exact hC
    · rw [if_neg c1, if_neg c1]; exact h
  by_cases d1 : D_X7_isImport q s n = 0
  · rw [if_pos d1, if_pos d1]
    by_cases d2 : D_X9_kind q s n = -1
    · rw [if_pos d2, if_pos d2]
      by_cases d3 : D_X8_isWeak s k p = 0
      · rw [if_pos d3, if_pos d3]
        by_cases c1 : D_X8_kind (D_X0_add q s 3 n k p) k p = 1
        · rw [if_pos c1, if_pos c1]
          by_cases c2 : ((D_X3_standsFor q (D_X0_add q s 3 n k p) n) + (D_X8_added (D_X0_add q s 3 n k p) k p)) < 0
          · rw [if_pos c2, if_pos c2]; exact hB
          · rw [if_neg c2, if_neg c2]
            by_cases c3 : ((D_X3_standsFor q (D_X0_add q s 3 n k p) n) + (D_X8_added (D_X0_add q s 3 n k p) k p)) ≤ a
            · rw [if_pos c3, if_pos c3]; exact hA
            · rw [if_neg c3, if_neg c3]; exact hB
        · rw [if_neg c1, if_neg c1]; exact hA
      · rw [if_neg d3, if_neg d3]; exact tail
    · rw [if_neg d2, if_neg d2]; exact tail
  · rw [if_neg d1, if_neg d1]; exact h
