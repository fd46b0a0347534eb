/-- what a section refers to -/
theorem rt_follow {q : Nat} (hq : q = 38 ∨ q = 60) {s t : Sg} (h : Rt q s t) {a a2 : Int32} (h0 : 0 ≤ a.toInt) (h1 : a.toInt < (s 11 8).toInt) : Rt q (D_X7_follow q s a a2) (D_X7_follow q t a a2) := by
  have fr : ∀ (z : Sg) (x : Int32), Fr (D_X7_reachName q z x) z := fun z x i j hi => fw_X7_reachName (by omega) (by omega) (by omega) (by omega)
  unfold D_X7_follow R_X7_follow_101
  refine lpB (I := fun x s1 t1 => Rt q s1 t1 ∧ s1 11 8 = s 11 8) (J := fun s1 t1 => Rt q s1 t1) 8 (by decide) (fun x s1 t1 hx0 hI => ?_) (by decide) (by decide) ⟨h, rfl⟩
  obtain ⟨hk, hf⟩ := hI
  have tb := hk.st.tk.tb
  obtain ⟨p1, p2, p3, p4⟩ := x8_pieces tb h0 (by rw [hf]; exact h1)
  by_cases c0 : D_X8_pieces s1 a ≤ x
  · exact Or.inl ⟨x, x, s1, t1, if_pos c0, if_pos (by rw [p1]; exact c0), hk⟩
  · have c0' : ¬ D_X8_pieces t1 a ≤ x := by rw [p1]; exact c0
    have hx := i_nle c0
    refine Or.inr (Or.inl ⟨by omega, ?_⟩)
    have e1 := x8_ref tb (a := a) (c := x)
    have e2 := x8_name tb (a := a) (c := x)
    by_cases c1 : D_X8_isReference s1 a x = 0
    · exact ⟨s1, t1, (if_neg c0).trans (if_pos c1), (if_neg c0').trans (if_pos (by rw [e1]; exact c1)), hk, hf⟩
    · have c1' : ¬ D_X8_isReference t1 a x = 0 := by rw [e1]; exact c1
      by_cases c2 : D_X11_isName (D_X8_name s1 a x) = 0
      · exact ⟨s1, t1, (if_neg c0).trans ((if_neg c1).trans (if_pos c2)), (if_neg c0').trans ((if_neg c1').trans (if_pos (by rw [e2]; exact c2))), hk, hf⟩
      · have c2' : ¬ D_X11_isName (D_X8_name t1 a x) = 0 := by rw [e2]; exact c2
        have hn := rg_isName c2
        have hB : B_X7_follow_2 q a a2 x t1 = if a2 = 0 then (true, ((x + 1), (D_X7_reachName q (up t1 (q + 14) (D_X8_name s1 a x).toNatClampNeg ((t1 (q + 14) (D_X8_name s1 a x).toNatClampNeg) + 1)) (D_X8_name s1 a x)))) else (if (D_X9_kind q (D_X7_reachName q (up t1 (q + 14) (D_X8_name s1 a x).toNatClampNeg ((t1 (q + 14) (D_X8_name s1 a x).toNatClampNeg) + 1)) (D_X8_name s1 a x)) (D_X8_name s1 a x)) = (-1) then (true, ((x + 1), (up (D_X7_reachName q (up t1 (q + 14) (D_X8_name s1 a x).toNatClampNeg ((t1 (q + 14) (D_X8_name s1 a x).toNatClampNeg) + 1)) (D_X8_name s1 a x)) (q + 12) 7 (((D_X7_reachName q (up t1 (q + 14) (D_X8_name s1 a x).toNatClampNeg ((t1 (q + 14) (D_X8_name s1 a x).toNatClampNeg) + 1)) (D_X8_name s1 a x)) (q + 12) 7) ||| (1 <<< ((D_X8_name s1 a x) &&& 31)))))) else (true, ((x + 1), (D_X7_reachName q (up t1 (q + 14) (D_X8_name s1 a x).toNatClampNeg ((t1 (q + 14) (D_X8_name s1 a x).toNatClampNeg) + 1)) (D_X8_name s1 a x))))) := by
          rw [← e2]
          exact (if_neg c0').trans ((if_neg c1').trans (if_neg c2'))
        rw [hB]
        have hA : B_X7_follow_2 q a a2 x s1 = _ := (if_neg c0).trans ((if_neg c1).trans (if_neg c2))
        rw [hA]
        generalize D_X8_name s1 a x = n at hn
        have hr := rt_name hq (rt_r hq hk (j0 := n.toNatClampNeg) (v := s1 (q + 14) n.toNatClampNeg + 1) (w := t1 (q + 14) n.toNatClampNeg + 1) (by rw [hk.rf _ (rg_nat hn).1])) (n := n)
        have hg : (D_X7_reachName q (up s1 (q + 14) n.toNatClampNeg (s1 (q + 14) n.toNatClampNeg + 1)) n) 11 8 = s 11 8 := by
          rw [fr _ _ 11 8 (by decide), up_ne (by omega)]; exact hf
        by_cases c3 : a2 = 0
        · exact ⟨_, _, if_pos c3, if_pos c3, hr, hg⟩
        · have e3 := x9_kind hr.st (n := n)
          by_cases c4 : D_X9_kind q (D_X7_reachName q (up s1 (q + 14) n.toNatClampNeg (s1 (q + 14) n.toNatClampNeg + 1)) n) n = -1
          · exact ⟨_, _, (if_neg c3).trans (if_pos c4), (if_neg c3).trans (if_pos (by rw [e3]; exact c4)), rt_f hq hr (Or.inr rfl) (by rw [hr.b7]) (fun z => absurd z (by decide)), by rw [up_ne (by omega)]; exact hg⟩
          · exact ⟨_, _, (if_neg c3).trans (if_neg c4), (if_neg c3).trans (if_neg (by rw [e3]; exact c4)), hr, hg⟩
theorem rt_forget {q : Nat} (hq : q = 38 ∨ q = 60) {s t : Sg} (h : St q s t) : Rt q (D_X7_forget q s) (D_X7_forget q t) := by
  unfold D_X7_forget R_X7_forget_41
  refine lpB (I := fun x s1 t1 => St q s1 t1 ∧ (∀ j, j = 4 ∨ j = 5 ∨ j = 6 ∨ j = 7 → s1 (q + 12) j = 0 ∧ t1 (q + 12) j = 0) ∧ ∀ j : Nat, (j : Int) < x.toInt → s1 (q + 14) j = 0 ∧ t1 (q + 14) j = 0) (J := fun s1 t1 => Rt q s1 t1) 20 (by decide) (fun x s1 t1 hx0 hI => ?_) (by decide) (by decide) ⟨h.of (fun k j hk => by rw [up_ne (by omega), up_ne (by omega), up_ne (by omega), up_ne (by omega)]) (fun k j hk => by rw [up_ne (by omega), up_ne (by omega), up_ne (by omega), up_ne (by omega)]), fun j hj => by rcases hj with rfl | rfl | rfl | rfl <;> simp [up_at], fun j hj => by have : (0 : Int32).toInt = 0 := rfl; omega⟩
  obtain ⟨hk, hz, hall⟩ := hI
  by_cases c0 : 20 ≤ x
  · have hx := i_le (n := 20) c0 rfl
    refine Or.inl ⟨x, x, s1, t1, if_pos c0, if_pos c0, hk, ?_, ?_, ?_, ?_, ?_, ?_, ?_, ?_, ?_, ?_⟩
    · rw [(hz 4 (by omega)).1, (hz 4 (by omega)).2]
    · rw [(hz 5 (by omega)).1, (hz 5 (by omega)).2]
    · rw [(hz 6 (by omega)).1, (hz 6 (by omega)).2]
    · rw [(hz 7 (by omega)).1, (hz 7 (by omega)).2]
    · rw [(hz 4 (by omega)).1]; decide
    · rw [(hz 4 (by omega)).1]; decide
    · rw [(hz 4 (by omega)).1]
      intro j hj
      have : (0 : Int32).toInt = 0 := rfl
      omega
    · intro j hj; obtain ⟨a, b⟩ := hall j (by omega); rw [a, b]
    · rw [(hz 6 (by omega)).1]; intro j _ hb; rw [bt_0] at hb; cases hb
    · rw [(hz 5 (by omega)).1]
      intro k _ hb
      rw [bt_0] at hb; cases hb
  · have hx := i_lt (n := 20) c0 rfl
    have hx1 : (x + 1).toInt = x.toInt + 1 := i_add1 (by omega)
    refine Or.inr (Or.inl ⟨hx, _, _, if_neg c0, if_neg c0, ?_, ?_, ?_⟩)
    · exact hk.of (fun k j hk => by rw [up_ne (by omega)]) (fun k j hk => by rw [up_ne (by omega)])
    · intro j hj; rw [up_ne (by omega), up_ne (by omega)]; exact hz j hj
    · intro j hj
      simp only [up_at]
      by_cases c : j = x.toNatClampNeg
      · simp [c]
      · have := hall j (by rw [tn] at c; omega)
        simpa [c] using this
theorem tk_bit {q : Nat} {s : Sg} {x : Int32} (h0 : 0 ≤ x.toInt) (h1 : x.toInt < (s 11 8).toInt) (h2 : (s 11 8).toInt ≤ 24) (hc : ¬ D_X10_isTaken q s (D_X8_objectOf s x) = 0) : bt_ (s (q + 3) 4) (s 12 x.toNatClampNeg).toNatClampNeg = true := by
  have e : D_X8_objectOf s x = s 12 x.toNatClampNeg := by unfold D_X8_objectOf; rw [if_neg (has_s h0 h1 h2)]
  rw [e] at hc
  unfold D_X10_isTaken at hc
  by_cases c : D_X11_isIn (s 12 x.toNatClampNeg) 10 = 0
  · rw [if_pos c] at hc; exact absurd rfl hc
  · have hr := rg_isIn c (n := 10) rfl
    rw [if_neg c] at hc
    by_cases d : D_X11_hasBit (s (q + 3) 4) (s 12 x.toNatClampNeg) = 0
    · rw [if_pos d] at hc; exact absurd rfl hc
    · exact (hb_n ⟨hr.1, by have := hr.2; omega⟩).mp d
theorem rt_all {q : Nat} (hq : q = 38 ∨ q = 60) {s t : Sg} (h : St q s t) {a1 a2 : Int32} : Rt q (D_X7_reachAll q s a1 a2) (D_X7_reachAll q t a1 a2) := by
  unfold D_X7_reachAll R_X7_reachAll_57 R_X7_reachAll_96 R_X7_reachAll_129
  -- what is kept
  have k1 : Rt q (itr (uc2 (B_X7_reachAll_6 q a1 a2)) BIG (0, (D_X7_forget q s))).2 (itr (uc2 (B_X7_reachAll_6 q a1 a2)) BIG (0, (D_X7_forget q t))).2 := by
    refine lpB (I := fun _ s1 t1 => Rt q s1 t1) (J := fun s1 t1 => Rt q s1 t1) 24 (by decide) (fun x s1 t1 hx0 hI => ?_) (by decide) (by decide) (rt_forget hq h)
    have tb := hI.st.tk.tb
    have hn1 := tb.ns1
    have hn2 := tb.ns2
    by_cases c0 : D_X8_count s1 ≤ x
    · have hx : (s1 11 8).toInt ≤ x.toInt := Int32.le_iff_toInt_le.mp c0
      refine Or.inr (Or.inr ⟨x, s1, if_pos c0, fun n => ?_⟩)
      rw [itr_idle (P := fun y => (s1 11 8).toInt ≤ y.toInt) (fun y hy => ?_) n x hx]
      · exact hI
      · by_cases d0 : D_X8_count t1 ≤ y
        · exact ⟨false, y, if_pos d0, fun e => absurd e (by decide)⟩
        · have hy2 : y.toInt < (t1 11 8).toInt := i_nle d0
          exact ⟨true, y + 1, (if_neg d0).trans (if_pos (x8_kept0 tb hy)), fun _ => by rw [i_add1 (by omega)]; omega⟩
    · have hx : x.toInt < (s1 11 8).toInt := i_nle c0
      have c0' : ¬ D_X8_count t1 ≤ x := fun q => by
        have hq2 : (t1 11 8).toInt ≤ x.toInt := Int32.le_iff_toInt_le.mp q
        omega
      have e1 := x8_kept tb hx0 hx
      have e2 := x8_obj tb hx0 hx
      refine Or.inr (Or.inl ⟨by omega, ?_⟩)
      by_cases c1 : D_X8_isKept s1 x = 0
      · exact ⟨s1, t1, (if_neg c0).trans (if_pos c1), (if_neg c0').trans (if_pos (by rw [e1]; exact c1)), hI⟩
      · by_cases c2 : D_X10_isTaken q s1 (D_X8_objectOf s1 x) = 0
        · exact ⟨s1, t1, (if_neg c0).trans ((if_neg c1).trans (if_pos c2)), (if_neg c0').trans ((if_neg (by rw [e1]; exact c1)).trans (if_pos (by rw [e2, x10_taken hI.st.tk]; exact c2))), hI⟩
        · exact ⟨_, _, (if_neg c0).trans ((if_neg c1).trans (if_neg c2)), (if_neg c0').trans ((if_neg (by rw [e1]; exact c1)).trans (if_neg (by rw [e2, x10_taken hI.st.tk]; exact c2))), rt_sec hq hI hx0 hx (tk_bit hx0 hx (by omega) c2)⟩
  have k2 := rt_name hq k1 (n := a1)
  -- what a shared one shows
  have k3 : ∀ z z' : Sg, Rt q z z' → Rt q (itr (uc2 (B_X7_reachAll_64 q a2)) BIG (0, z)).2 (itr (uc2 (B_X7_reachAll_64 q a2)) BIG (0, z')).2 := fun z z' hz => by
    refine lpB (I := fun _ s1 t1 => Rt q s1 t1) (J := fun s1 t1 => Rt q s1 t1) 20 (by decide) (fun x s1 t1 hx0 hI => ?_) (by decide) (by decide) hz
    by_cases c0 : a2 = 0
    · exact Or.inl ⟨x, x, s1, t1, if_pos c0, if_pos c0, hI⟩
    · by_cases c1 : 20 ≤ x
      · exact Or.inl ⟨x, x, s1, t1, (if_neg c0).trans (if_pos c1), (if_neg c0).trans (if_pos c1), hI⟩
      · refine Or.inr (Or.inl ⟨i_lt c1 rfl, ?_⟩)
        by_cases c2 : D_X9_isHidden q s1 x = 0
        · exact ⟨_, _, (if_neg c0).trans ((if_neg c1).trans (if_pos c2)), (if_neg c0).trans ((if_neg c1).trans (if_pos (by rw [x9_hid hI.st]; exact c2))), rt_name hq hI⟩
        · exact ⟨_, _, (if_neg c0).trans ((if_neg c1).trans (if_neg c2)), (if_neg c0).trans ((if_neg c1).trans (if_neg (by rw [x9_hid hI.st]; exact c2))), hI⟩
  -- what that refers to
  have k4 : ∀ z z' : Sg, Rt q z z' → Rt q (itr (uc2 (B_X7_reachAll_98 q a2)) BIG (0, z)).2 (itr (uc2 (B_X7_reachAll_98 q a2)) BIG (0, z')).2 := fun z z' hz => by
    refine lpB (I := fun _ s1 t1 => Rt q s1 t1) (J := fun s1 t1 => Rt q s1 t1) 24 (by decide) (fun x s1 t1 hx0 hI => ?_) (by decide) (by decide) hz
    by_cases c0 : s1 (q + 12) 4 ≤ x
    · exact Or.inl ⟨x, x, s1, t1, if_pos c0, if_pos (by rw [hI.n]; exact c0), hI⟩
    · have c0' : ¬ t1 (q + 12) 4 ≤ x := by rw [hI.n]; exact c0
      have hx := i_nle c0
      have hn1 := hI.n1
      by_cases c1 : 24 ≤ x
      · exact Or.inl ⟨x, x, s1, t1, (if_neg c0).trans (if_pos c1), (if_neg c0').trans (if_pos c1), hI⟩
      · obtain ⟨g1, g2, g3⟩ := hI.qu x.toNatClampNeg (by rw [tn]; omega)
        refine Or.inr (Or.inl ⟨i_lt c1 rfl, _, _, (if_neg c0).trans (if_neg c1), (if_neg c0').trans (if_neg c1), ?_⟩)
        rw [g1]
        exact rt_follow hq hI g2 g3
  exact k4 _ _ (k3 _ _ k2)
