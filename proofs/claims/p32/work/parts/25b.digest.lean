/-! libraries that are all closed -/
section DW
variable {s t : Sg}
theorem pin32 {a : Int32} : D_X4_placeIn_32 s 0 a = -1 := by
  unfold D_X4_placeIn_32 R_X4_placeIn_32_28
  obtain ⟨n, hn⟩ := big_s
  rw [hn, itf_h (B := B_X4_placeIn_32_2 s 0 a) (x := 0) (z := none) (y := 0) (if_pos (by decide))]
theorem pin33 {a : Int32} : D_X4_placeIn_33 s 0 a = -1 := by
  unfold D_X4_placeIn_33 R_X4_placeIn_33_28
  obtain ⟨n, hn⟩ := big_s
  rw [hn, itf_h (B := B_X4_placeIn_33_2 s 0 a) (x := 0) (z := none) (y := 0) (if_pos (by decide))]
theorem dv_opened (h : Dv s t) {a : Int32} : D_X4_opened s a = 0 ∧ D_X4_opened t a = 0 := by
  constructor
  · unfold D_X4_opened
    by_cases c : D_X4_has s a = 0
    · rw [if_pos c]
    · rw [if_neg c]; exact h.l29 _
  · unfold D_X4_opened
    by_cases c : D_X4_has t a = 0
    · rw [if_pos c]
    · rw [if_neg c, h.lb 29 _ (by decide) (by decide)]; exact h.l29 _
theorem dv_notl (h : Dv s t) {a : Int32} : D_X4_isLoaded s a = 0 := by
  unfold D_X4_isLoaded D_X4_base
  by_cases c : D_X4_has s a = 0
  · rw [if_pos c]; rfl
  · rw [if_neg c, h.l30]; rfl
theorem dv_imp (h : Dv s t) {a n : Int32} : D_X4_isImport t a n = D_X4_isImport s a n := by
  unfold D_X4_isImport D_X4_imports
  rw [dv_has4 h, h.lb 27 _ (by decide) (by decide)]
theorem dv_exa (h : Dv s t) {a n : Int32} : D_X4_exportAddress t a n = D_X4_exportAddress s a n := by
  unfold D_X4_exportAddress D_X4_isExport D_X4_exports
  rw [dv_has4 h, h.lb 26 _ (by decide) (by decide), h.lb 28 _ (by decide) (by decide)]
theorem dv_bound (h : Dv s t) {a n : Int32} : D_X4_boundTo t a n = D_X4_boundTo s a n := by
  unfold D_X4_boundTo
  rw [dv_has4 h, h.lb 31 _ (by decide) (by decide)]
theorem dv_bad (h : Dv s t) {a n : Int32} : D_X4_boundAddress t a n = D_X4_boundAddress s a n := by
  unfold D_X4_boundAddress
  rw [dv_bound h, dv_base h, dv_exa h]
theorem dv_ofLibrary (h : Dv s t) {a x : Int32} : D_X11_ofLibrary t a x = D_X11_ofLibrary s a x := by
  unfold D_X11_ofLibrary D_X4_size D_X4_exports D_X4_imports D_X4_needs D_X4_placeAmongGlobal D_X4_placeAmongInitialised
  rw [dv_has4 h, h.lb 24 _ (by decide) (by decide), h.lb 25 _ (by decide) (by decide), h.lb 26 _ (by decide) (by decide), h.lb 27 _ (by decide) (by decide), (dv_opened h).1, (dv_opened h).2, dv_base h, h.lz.1, h.lz.2.1, h.lz.2.2.1, h.lz.2.2.2, pin32, pin32, pin33, pin33]
theorem dv_ofBinding (h : Dv s t) {a n x : Int32} : D_X11_ofBinding t a n x = D_X11_ofBinding s a n x := by
  unfold D_X11_ofBinding
  rw [dv_has4 h, dv_exa h, dv_imp h, dv_bound h, dv_bad h]
theorem dv_goes (h : Dv s t) {a : Int32} : D_X11_goes s a = (0, s) ∧ D_X11_goes t a = (0, t) := by
  constructor
  · unfold D_X11_goes
    by_cases c : D_X4_has s a = 0
    · rw [if_pos c]
    · rw [if_neg c, if_pos (dv_opened h).1]
  · unfold D_X11_goes
    by_cases c : D_X4_has t a = 0
    · rw [if_pos c]
    · rw [if_neg c, if_pos (dv_opened h).2]
theorem dv_would (h : Dv s t) {a n : Int32} : ∃ v : Int32, D_X11_wouldBind s a n = (v, s) ∧ D_X11_wouldBind t a n = (v, t) := by
  unfold D_X11_wouldBind
  rw [dv_has4 h, dv_loaded h]
  by_cases c : D_X4_has s a = 0
  · rw [if_pos c, if_pos c]; exact ⟨0, rfl, rfl⟩
  · rw [if_neg c, if_neg c]
    by_cases d : D_X11_isName n = 0
    · rw [if_pos d, if_pos d]; exact ⟨0, rfl, rfl⟩
    · rw [if_neg d, if_neg d, if_pos (dv_notl h), if_pos (dv_notl h)]; exact ⟨-1, rfl, rfl⟩
theorem dv_mixLib (h : Dv s t) {v : Int64} {a : Int32} : ∃ w : Int64, D_X11_mixLibrary s v a = (w, s) ∧ D_X11_mixLibrary t v a = (w, t) := by
  unfold D_X11_mixLibrary R_X11_mixLibrary_34 R_X11_mixLibrary_110
  rw [show B_X11_mixLibrary_6 t a = B_X11_mixLibrary_6 s a from funext fun x2 => funext fun x1 => by unfold B_X11_mixLibrary_6; rw [dv_ofLibrary h], (dv_goes h).1, (dv_goes h).2]
  generalize (itr (uc2 (B_X11_mixLibrary_6 s a)) BIG (0, v)).2 = v1
  obtain ⟨y, w, s', t', e1, e2, rfl, rfl⟩ := itr3_rel (B := B_X11_mixLibrary_50 a) (R := fun x y => x = s ∧ y = t) (fun x v s1 t1 hR => by
    obtain ⟨rfl, rfl⟩ := hR
    unfold B_X11_mixLibrary_50
    by_cases c : 20 ≤ x
    · rw [if_pos c, if_pos c]; exact ⟨false, x, v, s1, t1, rfl, rfl, rfl, rfl⟩
    · rw [if_neg c, if_neg c]
      obtain ⟨u, f1, f2⟩ := dv_would h (a := a) (n := x)
      unfold R_X11_mixLibrary_89
      rw [show B_X11_mixLibrary_60 t1 a x = B_X11_mixLibrary_60 s1 a x from funext fun x2 => funext fun x1 => by unfold B_X11_mixLibrary_60; rw [dv_ofBinding h], f1, f2]
      exact ⟨true, x + 1, _, s1, t1, rfl, rfl, rfl, rfl⟩) BIG 0 (D_X11_mix v1 ((0 : Int32)).toInt64) s t ⟨rfl, rfl⟩
  rw [e1, e2]
  exact ⟨w, rfl, rfl⟩
theorem dv_run (h : Dv s t) {a r l o : Int32} : Fl 60 (D_X5_run 60 s (D_X5_entry 38 s) (D_X5_isShared 38 s) r l o) (D_X5_run 60 t (D_X5_entry 38 t) (D_X5_isShared 38 t) r l o) ∧ Dv (D_X5_run 60 s (D_X5_entry 38 s) (D_X5_isShared 38 s) r l o) (D_X5_run 60 t (D_X5_entry 38 t) (D_X5_isShared 38 t) r l o) := by
  have e1 : D_X5_entry 38 t = D_X5_entry 38 s := h.q8
  have e2 : D_X5_isShared 38 t = D_X5_isShared 38 s := by unfold D_X5_isShared; rw [h.q7]
  rw [e1, e2]
  exact ⟨(fl_run (Or.inr rfl) h.tb).1, h.of (fun k j h1 _ _ _ => fr_run (by omega)) (fun k j h1 _ _ _ => fr_run (by omega))⟩
theorem dv_sizeWith (h : Dv s t) {a : Int32} : ∃ (v : Int32) (s' t' : Sg), D_X11_sizeWith s a = (v, s') ∧ D_X11_sizeWith t a = (v, t') ∧ Dv s' t' := by
  unfold D_X11_sizeWith
  rw [show D_X5_isDone 38 t = D_X5_isDone 38 s by unfold D_X5_isDone; rw [h.q6], h.lo 0 8 (by decide)]
  by_cases c : D_X11_isReach a = 0
  · rw [if_pos c, if_pos c]; exact ⟨0, s, t, rfl, rfl, h⟩
  · rw [if_neg c, if_neg c]
    by_cases d : D_X5_isDone 38 s = 0
    · rw [if_pos d, if_pos d]; exact ⟨0, s, t, rfl, rfl, h⟩
    · rw [if_neg d, if_neg d]
      obtain ⟨f1, f2⟩ := dv_run h (a := a) (r := a) (l := s 0 8) (o := -1)
      refine ⟨_, _, _, rfl, ?_, f2⟩
      rw [show D_X3_size 60 (D_X5_run 60 t (D_X5_entry 38 t) (D_X5_isShared 38 t) a (s 0 8) (-1)) = D_X3_size 60 (D_X5_run 60 s (D_X5_entry 38 s) (D_X5_isShared 38 s) a (s 0 8) (-1)) from f1.pc.pl.e11]
theorem dv_fw (h : Dv s t) {a : Int32} : ∃ (v : Int32) (s' t' : Sg), D_X11_faultsWithout s a = (v, s') ∧ D_X11_faultsWithout t a = (v, t') ∧ Dv s' t' := by
  unfold D_X11_faultsWithout
  rw [show D_X5_isDone 38 t = D_X5_isDone 38 s by unfold D_X5_isDone; rw [h.q6], h.lo 0 8 (by decide), h.lo 0 7 (by decide), dv_has6 h]
  by_cases c : D_X6_has s a = 0
  · rw [if_pos c, if_pos c]; exact ⟨0, s, t, rfl, rfl, h⟩
  · rw [if_neg c, if_neg c]
    by_cases d : D_X5_isDone 38 s = 0
    · rw [if_pos d, if_pos d]; exact ⟨0, s, t, rfl, rfl, h⟩
    · rw [if_neg d, if_neg d]
      obtain ⟨f1, f2⟩ := dv_run h (a := a) (r := s 0 7) (l := s 0 8) (o := a)
      refine ⟨_, _, _, rfl, ?_, f2⟩
      rw [show D_X0_count 60 (D_X5_run 60 t (D_X5_entry 38 t) (D_X5_isShared 38 t) (s 0 7) (s 0 8) a) = D_X0_count 60 (D_X5_run 60 s (D_X5_entry 38 s) (D_X5_isShared 38 s) (s 0 7) (s 0 8) a) from f1.n]
/-- the checksum is the same -/
theorem dv_dig (h : Dv s t) {wl wl' : Nat} (hW : wl < 2000000) (hW' : wl' < 2000000) (h1 : (D_X3_size 38 s).toInt ≤ wl) (h2 : (D_X3_size 38 s).toInt ≤ wl') : (D_X11_digest wl' t).1 = (D_X11_digest wl s).1 := by
  unfold D_X11_digest R_X11_digest_29 R_X11_digest_86
  rw [show B_X11_digest_6 wl' t = B_X11_digest_6 wl s from funext fun x => funext fun v => by unfold B_X11_digest_6; rw [dv_many h], show B_X11_digest_55 wl' t = B_X11_digest_55 wl s from funext fun x => funext fun v => by unfold B_X11_digest_55; rw [dv_size h, dv_word h hW hW' h1 h2], show B_X11_digest_88 wl' = B_X11_digest_88 wl from rfl]
  generalize (itr (uc2 (B_X11_digest_6 wl s)) BIG (0, 58133)).2 = v0
  rw [show D_X11_mixObjects t v0 = D_X11_mixObjects s v0 by
    unfold D_X11_mixObjects R_X11_mixObjects_52
    rw [show B_X11_mixObjects_5 t = B_X11_mixObjects_5 s from funext fun x => funext fun v => by
      unfold B_X11_mixObjects_5 R_X11_mixObjects_46
      rw [show D_X6_count t = D_X6_count s from h.lo 1 9 (by decide), show B_X11_mixObjects_20 t x = B_X11_mixObjects_20 s x from funext fun y => funext fun u => by unfold B_X11_mixObjects_20; rw [dv_ofObject h]]]]
  generalize D_X11_mixObjects s v0 = v1
  rw [show D_X11_mixSections t v1 = D_X11_mixSections s v1 by
    unfold D_X11_mixSections R_X11_mixSections_53
    rw [show B_X11_mixSections_5 t = B_X11_mixSections_5 s from funext fun x => funext fun v => by
      unfold B_X11_mixSections_5 R_X11_mixSections_47
      rw [show D_X8_count t = D_X8_count s from h.lo 11 8 (by decide), show B_X11_mixSections_20 t x = B_X11_mixSections_20 s x from funext fun y => funext fun u => by unfold B_X11_mixSections_20; rw [dv_ofSection h]]]]
  generalize D_X11_mixSections s v1 = v2
  rw [show D_X11_mixNames t v2 = D_X11_mixNames s v2 by
    unfold D_X11_mixNames R_X11_mixNames_47
    rw [show B_X11_mixNames_5 t = B_X11_mixNames_5 s from funext fun x => funext fun v => by
      unfold B_X11_mixNames_5 R_X11_mixNames_41
      rw [show B_X11_mixNames_15 t x = B_X11_mixNames_15 s x from funext fun y => funext fun u => by unfold B_X11_mixNames_15; rw [dv_ofName h]]]]
  generalize D_X11_mixNames s v2 = v3
  rw [show D_X11_mixFaults t v3 = D_X11_mixFaults s v3 by
    unfold D_X11_mixFaults R_X11_mixFaults_55
    rw [show B_X11_mixFaults_5 t = B_X11_mixFaults_5 s from funext fun x => funext fun v => by
      unfold B_X11_mixFaults_5 R_X11_mixFaults_49
      rw [dv_count h, show B_X11_mixFaults_23 t x = B_X11_mixFaults_23 s x from funext fun y => funext fun u => by unfold B_X11_mixFaults_23; rw [dv_fault h]]]]
  generalize (itr (uc2 (B_X11_digest_55 wl s)) BIG (0, (D_X11_mixFaults s v3))).2 = v4
  obtain ⟨y, w, s', t', e1, e2, rfl, rfl⟩ := itr3_rel (B := B_X11_digest_88 wl) (R := fun x y => x = s ∧ y = t) (fun x v s1 t1 hR => by
    obtain ⟨rfl, rfl⟩ := hR
    unfold B_X11_digest_88
    rw [show D_X4_count t1 = D_X4_count s1 from h.lc]
    by_cases c : D_X4_count s1 ≤ x
    · rw [if_pos c, if_pos c]; exact ⟨false, x, v, s1, t1, rfl, rfl, rfl, rfl⟩
    · rw [if_neg c, if_neg c]
      obtain ⟨u, f1, f2⟩ := dv_mixLib h (v := v) (a := x)
      rw [f1, f2]
      exact ⟨true, x + 1, u, s1, t1, rfl, rfl, rfl, rfl⟩) BIG 0 v4 s t ⟨rfl, rfl⟩
  rw [e1, e2]
  show (R_X11_digest_112 wl' t' w).1 = (R_X11_digest_112 wl s' w).1
  unfold R_X11_digest_112 R_X11_digest_166
  rw [show B_X11_digest_138 wl' = B_X11_digest_138 wl from rfl]
  rw [show D_X5_isDone 38 t' = D_X5_isDone 38 s' by unfold D_X5_isDone; rw [h.q6]]
  by_cases c : D_X5_isDone 38 s' = 0
  · rw [if_pos c, if_pos c]
  · rw [if_neg c, if_neg c]
    obtain ⟨v5, s2, t2, g1, g2, h2⟩ := dv_sizeWith h (a := 10)
    rw [g1, g2]
    obtain ⟨y3, w3, s3, t3, f1, f2, h3⟩ := itr3_rel (B := B_X11_digest_138 wl) (R := Dv) (fun x v s1 t1 hR => by
      unfold B_X11_digest_138
      rw [show D_X6_count t1 = D_X6_count s1 from hR.lo 1 9 (by decide)]
      by_cases c : D_X6_count s1 ≤ x
      · rw [if_pos c, if_pos c]; exact ⟨false, x, v, s1, t1, rfl, rfl, hR⟩
      · rw [if_neg c, if_neg c]
        obtain ⟨u, s4, t4, f1, f2, h4⟩ := dv_fw hR (a := x)
        rw [f1, f2]
        exact ⟨true, x + 1, _, s4, t4, rfl, rfl, h4⟩) BIG 0 (D_X11_mix w v5.toInt64) s2 t2 h2
    show (itr (uc3 (B_X11_digest_138 wl)) BIG (0, (D_X11_mix w v5.toInt64), t2)).2.1 = (itr (uc3 (B_X11_digest_138 wl)) BIG (0, (D_X11_mix w v5.toInt64), s2)).2.1
    rw [f1, f2]
end DW
