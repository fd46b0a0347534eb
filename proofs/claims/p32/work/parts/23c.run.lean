theorem fl_start {q : Nat} (hq : q = 38 ∨ q = 60) {s t : Sg} (h : Pc q s t) : Fl q (D_X0_forget q s) (D_X0_forget q t) := by
  unfold D_X0_forget
  have e : ∀ z : Sg, (up z (q + 1) 1 0) (q + 1) 1 = 0 := fun z => by simp [up_at]
  refine ⟨h.of (fun k j hk => by rw [up_ne (by omega)]) (fun k j hk => by rw [up_ne (by omega)]), by rw [e, e], by rw [e]; decide, by rw [e]; decide, ?_⟩
  rw [e]
  intro j hj
  have : (0 : Int32).toInt = 0 := rfl
  omega
theorem x3_at {q : Nat} {s t : Sg} (h : Od q s t) {x : Int32} (h0 : 0 ≤ x.toInt) (h1 : x.toInt < (s (q + 15) 5).toInt) : D_X3_sectionAt q t x = D_X3_sectionAt q s x ∧ 0 ≤ (D_X3_sectionAt q s x).toInt ∧ (D_X3_sectionAt q s x).toInt < (s 11 8).toInt ∧ bt_ (s (q + 12) 5) (D_X3_sectionAt q s x).toNatClampNeg = true := by
  have hn1 := h.n1
  have e : ∀ z : Sg, z (q + 15) 5 = s (q + 15) 5 → D_X3_sectionAt q z x = z (q + 16) x.toNatClampNeg := fun z hz => by
    unfold D_X3_sectionAt
    rw [if_neg (n_lt h0), if_neg (by rw [hz]; intro c; have := Int32.le_iff_toInt_le.mp c; omega), if_neg (n_le (m := 24) (n := 24) (by omega) rfl)]
  rw [e t h.n, e s rfl]
  exact h.od x.toNatClampNeg (by rw [tn]; omega)
theorem fl_tell {q : Nat} (hq : q = 38 ∨ q = 60) {s t : Sg} (h : Pc q s t) (he : t q 8 = s q 8) {a : Int32} : Fl q (D_X5_tellFaults q s a) (D_X5_tellFaults q t a) := by
  unfold D_X5_tellFaults R_X5_tellFaults_43 R_X5_tellFaults_143
  have h1 : Fl q (itr (uc2 (B_X5_tellFaults_9 q a)) BIG (0, (D_X0_forget q s))).2 (itr (uc2 (B_X5_tellFaults_9 q a)) BIG (0, (D_X0_forget q t))).2 ∧ (itr (uc2 (B_X5_tellFaults_9 q a)) BIG (0, (D_X0_forget q t))).2 q 8 = (itr (uc2 (B_X5_tellFaults_9 q a)) BIG (0, (D_X0_forget q s))).2 q 8 := by
    have f0 : ∀ z : Sg, (D_X0_forget q z) q 8 = z q 8 := fun z => by unfold D_X0_forget; rw [up_ne (by omega)]
    refine lpB (I := fun _ s1 t1 => Fl q s1 t1 ∧ t1 q 8 = s1 q 8) (J := fun s1 t1 => Fl q s1 t1 ∧ t1 q 8 = s1 q 8) 20 (by decide) (fun x s1 t1 hx0 hI => ?_) (by decide) (by decide) ⟨fl_start hq h, by rw [f0, f0]; exact he⟩
    obtain ⟨hk, hq8⟩ := hI
    by_cases c0 : 20 ≤ x
    · exact Or.inl ⟨x, x, s1, t1, if_pos c0, if_pos c0, hk, hq8⟩
    · refine Or.inr (Or.inl ⟨i_lt c0 rfl, ?_⟩)
      have e1 : D_X9_isTwiceStrong q t1 x = D_X9_isTwiceStrong q s1 x := by unfold D_X9_isTwiceStrong; rw [hk.pc.pl.od.rt.st.h9]
      by_cases c1 : D_X9_isTwiceStrong q s1 x = 0
      · exact ⟨s1, t1, (if_neg c0).trans (if_pos c1), (if_neg c0).trans (if_pos (by rw [e1]; exact c1)), hk, hq8⟩
      · exact ⟨_, _, (if_neg c0).trans (if_neg c1), (if_neg c0).trans (if_neg (by rw [e1]; exact c1)), fl_add hq hk, by rw [fw_X0_add (by omega) (by omega), fw_X0_add (by omega) (by omega)]; exact hq8⟩
  generalize (itr (uc2 (B_X5_tellFaults_9 q a)) BIG (0, (D_X0_forget q s))).2 = s1 at h1 ⊢
  generalize (itr (uc2 (B_X5_tellFaults_9 q a)) BIG (0, (D_X0_forget q t))).2 = t1 at h1 ⊢
  obtain ⟨k1, k2⟩ := h1
  have body : ∀ z z' : Sg, Fl q z z' → Fl q (itr (uc2 (B_X5_tellFaults_74 q a)) BIG (0, z)).2 (itr (uc2 (B_X5_tellFaults_74 q a)) BIG (0, z')).2 := fun z z' hz => by
    refine lpB (I := fun _ s2 t2 => Fl q s2 t2) (J := fun s2 t2 => Fl q s2 t2) 24 (by decide) (fun x s2 t2 hx0 hI => ?_) (by decide) (by decide) hz
    have ho := hI.pc.pl.od
    have hn1 := ho.n1
    have e5 : D_X3_laid q t2 = D_X3_laid q s2 := ho.n
    by_cases c0 : D_X3_laid q s2 ≤ x
    · exact Or.inl ⟨x, x, s2, t2, if_pos c0, if_pos (by rw [e5]; exact c0), hI⟩
    · have hx : x.toInt < (s2 (q + 15) 5).toInt := i_nle c0
      obtain ⟨o1, o2, o3, o4⟩ := x3_at ho hx0 hx
      refine Or.inr (Or.inl ⟨by omega, _, _, if_neg c0, if_neg (by rw [e5]; exact c0), ?_⟩)
      rw [o1]
      generalize D_X3_sectionAt q s2 x = k at o2 o3
      refine lpB (I := fun _ s3 t3 => Fl q s3 t3 ∧ s3 11 8 = s2 11 8) (J := fun s3 t3 => Fl q s3 t3) 8 (by decide) (fun y s3 t3 hy0 hI3 => ?_) (by decide) (by decide) ⟨hI, rfl⟩
      obtain ⟨g, gf⟩ := hI3
      have tb := g.pc.pl.od.rt.st.tk.tb
      obtain ⟨p1, p2, p3, p4⟩ := x8_pieces tb o2 (by rw [gf]; exact o3)
      have er := x8_ref tb (a := k) (c := y)
      by_cases d0 : D_X8_pieces s3 k ≤ y
      · exact Or.inl ⟨y, y, s3, t3, if_pos d0, if_pos (by rw [p1]; exact d0), g⟩
      · have hy := i_nle d0
        refine Or.inr (Or.inl ⟨by omega, ?_⟩)
        by_cases d1 : D_X8_isReference s3 k y = 0
        · exact ⟨s3, t3, (if_neg d0).trans (if_pos d1), (if_neg (by rw [p1]; exact d0)).trans (if_pos (by rw [er]; exact d1)), g, gf⟩
        · exact ⟨_, _, (if_neg d0).trans (if_neg d1), (if_neg (by rw [p1]; exact d0)).trans (if_neg (by rw [er]; exact d1)), fl_of hq g, by rw [fw_X5_tellFaultsOf (by omega) (by omega)]; exact gf⟩
  rw [k2, x9_kind k1.pc.pl.od.rt.st]
  by_cases c : D_X9_kind q s1 (s1 q 8) = -1
  · rw [if_pos c, if_pos c]; exact body _ _ (fl_add hq k1)
  · rw [if_neg c, if_neg c]; exact body _ _ k1
