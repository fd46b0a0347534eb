theorem wr_write {q N wl wl' : Nat} (hq : q = 38 ∨ q = 60) (hN : N ≤ wl) (hN' : N ≤ wl') (hW : wl < 2000000) (hW' : wl' < 2000000) {s t : Sg} (h : Wr q N s t) : Wr q N (R_X5_writeTo_cut q wl s) (R_X5_writeTo_cut q wl' t) := by
  unfold R_X5_writeTo_cut R_X5_writeTo_96
  refine lpB (I := fun _ s1 t1 => Wr q N s1 t1) (J := fun s1 t1 => Wr q N s1 t1) 24 (by decide) (fun x s1 t1 hx0 hI => ?_) (by decide) (by decide) h
  have ho := hI.1.pc.pl.od
  have hn1 := ho.n1
  have e5 : D_X3_laid q t1 = D_X3_laid q s1 := ho.n
  by_cases c0 : D_X3_laid q s1 ≤ x
  · exact Or.inl ⟨x, x, s1, t1, if_pos c0, if_pos (by rw [e5]; exact c0), hI⟩
  · have hx : x.toInt < (s1 (q + 15) 5).toInt := i_nle c0
    obtain ⟨o1, o2, o3, o4⟩ := x3_at ho hx0 hx
    have tb := ho.rt.st.tk.tb
    have hn2 := tb.ns1
    have hn3 := tb.ns2
    refine Or.inr (Or.inl ⟨by omega, _, _, if_neg c0, if_neg (by rw [e5]; exact c0), ?_⟩)
    rw [o1]
    have hs : ¬ D_X7_hasSection q s1 (D_X3_sectionAt q s1 x) = 0 := hs_z.mpr ⟨⟨o2, by omega⟩, o4⟩
    have ea : D_X3_addressOf q t1 (D_X3_sectionAt q s1 x) = D_X3_addressOf q s1 (D_X3_sectionAt q s1 x) := by
      unfold D_X3_addressOf
      rw [hs_eq ho.rt.b5, (pc_sec hI.1.pc hs).1]
    rw [ea]
    generalize D_X3_sectionAt q s1 x = k at o2 o3 hs
    generalize D_X3_addressOf q s1 k = A
    rw [uc3_2]
    have main := lpB (B := fun y (z : Int32 × Sg) => B_X5_writeTo_46 q wl x k y z.1 z.2) (B' := fun y (z : Int32 × Sg) => B_X5_writeTo_46 q wl' x k y z.1 z.2) (I := fun _ z y => y.1 = z.1 ∧ Wr q N z.2 y.2 ∧ z.2 (q + 12) 5 = s1 (q + 12) 5 ∧ z.2 11 8 = s1 11 8) (J := fun z y => Wr q N z.2 y.2) 8 (by decide) (fun y z u hy0 hI3 => ?_) (x := 0) (s := (A, s1)) (t := (A, t1)) (by decide) (by decide) ⟨rfl, hI, rfl, rfl⟩
    · exact main
    · obtain ⟨z4, s3⟩ := z
      obtain ⟨u4, t3⟩ := u
      obtain ⟨e4, hw, eb, e11⟩ := hI3
      have e4 : u4 = z4 := e4
      subst e4
      have hw : Wr q N s3 t3 := hw
      have eb : s3 (q + 12) 5 = s1 (q + 12) 5 := eb
      have e11 : s3 11 8 = s1 11 8 := e11
      have tb3 : Tb s3 t3 := hw.1.pc.pl.od.rt.st.tk.tb
      obtain ⟨p1, p2, p3, p4⟩ := x8_pieces tb3 o2 (by rw [e11]; exact o3)
      by_cases d0 : D_X8_pieces s3 k ≤ y
      · have d0' : D_X8_pieces t3 k ≤ y := by rw [p1]; exact d0
        exact Or.inl ⟨y, y, (u4, s3), (u4, t3), if_pos d0, if_pos d0', hw⟩
      · have d0' : ¬ D_X8_pieces t3 k ≤ y := by rw [p1]; exact d0
        have hy := i_nle d0
        have hs3 : ¬ D_X7_hasSection q s3 k = 0 := by rw [hs_eq eb]; exact hs
        have hp := wr_piece hq hN hN' hW hW' hw (a := u4) (p := y) hs3
        have f5 : (D_X5_writePiece q wl s3 u4 k y) (q + 12) 5 = s3 (q + 12) 5 := fw_X5_writePiece (by omega)
        have f11 : (D_X5_writePiece q wl s3 u4 k y) 11 8 = s3 11 8 := fw_X5_writePiece (by omega)
        have hs4 : ¬ D_X7_hasSection q (D_X5_writePiece q wl s3 u4 k y) k = 0 := by rw [hs_eq f5]; exact hs3
        have ew : D_X3_width q (D_X5_writePiece q wl' t3 u4 k y) k y = D_X3_width q (D_X5_writePiece q wl s3 u4 k y) k y := width_eq (pc_sec hp.1.pc hs4).2.2.2 y
        refine Or.inr (Or.inl ⟨by omega, (u4 + D_X3_width q (D_X5_writePiece q wl s3 u4 k y) k y, D_X5_writePiece q wl s3 u4 k y), (u4 + D_X3_width q (D_X5_writePiece q wl' t3 u4 k y) k y, D_X5_writePiece q wl' t3 u4 k y), if_neg d0, if_neg d0', ?_, hp, f5.trans eb, f11.trans e11⟩)
        show u4 + _ = u4 + _
        rw [ew]
