/-! libraries that need nothing: opened and closed -/
theorem hb_0 {x : Int32} : D_X11_hasBit 0 x = 0 := by
  unfold D_X11_hasBit
  rw [if_pos]
  apply Int32.toBitVec_inj.mp
  rw [Int32.toBitVec_and, Int32.toBitVec_shiftRight]
  show (0#32).sshiftRight' _ &&& 1#32 = 0#32
  rw [one_bit]
  unfold BitVec.sshiftRight'
  rw [BitVec.getLsbD_sshiftRight]
  simp
/-- none is open; the count is above l -/
def L0 (s : Sg) : Prop := (s 23 13).toInt ≤ 6 ∧ s 23 14 = 0 ∧ s 23 15 = 0 ∧ (∀ j, s 25 j = 0) ∧ (∀ j, s 29 j = 0) ∧ (∀ j, s 30 j = -1) ∧ (∀ j, s 31 j = -1)
/-- l alone is loaded, and its count is n -/
def L1 (l n : Int32) (s : Sg) : Prop := (s 23 13).toInt ≤ 6 ∧ s 23 14 = 0 ∧ s 23 15 = 1 ∧ s 33 0 = l ∧ (∀ j, s 25 j = 0) ∧ (∀ j, s 29 j = if j = l.toNatClampNeg then n else 0) ∧ (∀ j, s 30 j = if j = l.toNatClampNeg then 64 else -1) ∧ (∀ j, s 31 j = -1)
section LB
variable {s : Sg} {l : Int32}
theorem has4 (h0 : 0 ≤ l.toInt) (h1 : l.toInt < (s 23 13).toInt) (h2 : (s 23 13).toInt ≤ 6) : ¬ D_X4_has s l = 0 := by
  unfold D_X4_has
  rw [if_neg (n_lt h0), if_neg (fun q => by have := Int32.le_iff_toInt_le.mp q; omega), if_neg (n_le (m := 6) (n := 6) (by omega) rfl)]
  decide
theorem need_0 (h : ∀ j, s 25 j = 0) {a : Int32} : D_X4_neededNow s a = 0 := by
  unfold D_X4_neededNow
  by_cases c : D_X4_has s a = 0
  · rw [if_pos c]
  · rw [if_neg c, h, Int32.zero_and]
theorem row_0 (h : ∀ j, s 25 j = 0) {a : Int32} : D_X4_fillRow s a = ((1 : Int32), up (up s 34 0 a) 23 12 ((1 : Int32) <<< (a &&& 31))) := by
  unfold D_X4_fillRow R_X4_fillRow_110
  have h' : ∀ j, (up (up s 34 0 a) 23 12 ((1 : Int32) <<< (a &&& 31))) 25 j = 0 := fun j => by rw [up_ne (by decide), up_ne (by decide)]; exact h j
  generalize up (up s 34 0 a) 23 12 ((1 : Int32) <<< (a &&& 31)) = s' at *
  obtain ⟨n, hn⟩ : ∃ n, BIG = n + 2 := ⟨2147483646, BIG_eq⟩
  have e1 : (B_X4_fillRow_18 0 1 s') = (true, (1, 1, s')) := by
    unfold B_X4_fillRow_18 R_X4_fillRow_104
    rw [if_neg (by decide), if_neg (by decide), need_0 h']
    have inner : (itr (uc3 (B_X4_fillRow_44 0 0)) BIG (0, 1, s')).2.1 = 1 ∧ (itr (uc3 (B_X4_fillRow_44 0 0)) BIG (0, 1, s')).2.2 = s' := by
      refine itr_inv (B := uc3 (B_X4_fillRow_44 0 0)) (I := fun z => z.2.1 = 1 ∧ z.2.2 = s') (fun z hz => ?_) BIG (0, 1, s') ⟨rfl, rfl⟩
      obtain ⟨x, y, z⟩ := z
      have hz : y = 1 ∧ z = s' := hz
      show (B_X4_fillRow_44 0 0 x y z).2.2.1 = 1 ∧ (B_X4_fillRow_44 0 0 x y z).2.2.2 = s'
      unfold B_X4_fillRow_44
      by_cases c : 6 ≤ x
      · rw [if_pos c]; exact hz
      · rw [if_neg c, Int32.zero_and, if_pos hb_0]; exact hz
    rw [inner.1, inner.2]
    rfl
  have e2 : (B_X4_fillRow_18 1 1 s') = (false, (1, 1, s')) := by
    unfold B_X4_fillRow_18
    rw [if_pos (by decide)]
  rw [hn, itr_s (B := uc3 B_X4_fillRow_18) (x := (0, 1, s')) (y := (1, 1, s')) e1, itr_e (B := uc3 B_X4_fillRow_18) (x := (1, 1, s')) (y := (1, 1, s')) e2]
theorem low_0 : D_X4_lowestOf s 0 = -1 := by
  have e : ∀ n x, itf (B_X4_lowestOf_2 s 0) n x = none := by
    intro n
    induction n with
    | zero => intro x; rfl
    | succ n ih =>
      intro x
      by_cases c : 6 ≤ x
      · exact itf_h (B := B_X4_lowestOf_2 s 0) (x := x) (z := none) (y := x) (if_pos c)
      · rw [itf_n (B := B_X4_lowestOf_2 s 0) (x := x) (y := x + 1) ((if_neg c).trans (if_pos hb_0))]
        exact ih _
  unfold D_X4_lowestOf R_X4_lowestOf_24
  rw [e]
theorem nload (h : ∀ j, s 30 j = -1) {a : Int32} : D_X4_isLoaded s a = 0 := by
  unfold D_X4_isLoaded D_X4_base
  by_cases c : D_X4_has s a = 0
  · rw [if_pos c]; rfl
  · rw [if_neg c, h]; rfl
theorem load_0 (h : ∀ j, s 30 j = -1) (hl : ¬ D_X4_has s l = 0) : D_X4_load s l = up s 30 l.toNatClampNeg 64 := by
  unfold D_X4_load
  have e : (itr (uc2 (B_X4_load_5 s l)) BIG (0, 64)).2 = 64 := by
    refine itr_inv (B := uc2 (B_X4_load_5 s l)) (I := fun z => z.2 = 64) (fun z hz => ?_) BIG (0, 64) rfl
    obtain ⟨x, z⟩ := z
    have hz : z = 64 := hz
    show (B_X4_load_5 s l x z).2.2 = 64
    unfold B_X4_load_5
    by_cases c : 6 ≤ x
    · rw [if_pos c]; exact hz
    · rw [if_neg c, if_pos (nload h)]; exact hz
  rw [e]
  unfold R_X4_load_43
  rw [if_neg hl, show D_X11_roundUp 64 64 = 64 by decide]
/-- initialising: the library itself, if it is fresh -/
theorem init_0 (h : ∀ j, s 25 j = 0) {f : Int32} : D_X4_initialise s l f = (if D_X11_hasBit f l = 0 then up s 35 0 l else if 6 ≤ s 23 15 then up s 35 0 l else up (up (up s 35 0 l) 33 (s 23 15).toNatClampNeg l) 23 15 (s 23 15 + 1)) := by
  unfold D_X4_initialise R_X4_initialise_143
  have h' : ∀ j, (up s 35 0 l) 25 j = 0 := fun j => by rw [up_ne (by decide)]; exact h j
  have e35 : (up s 35 0 l) 35 ((1 : Int32) - 1).toNatClampNeg = l := by
    rw [show ((1 : Int32) - 1).toNatClampNeg = 0 from rfl, rd_eq]
  have e15 : (up s 35 0 l) 23 15 = s 23 15 := by rw [up_ne (by decide)]
  obtain ⟨n, hn⟩ : ∃ n, BIG = n + 2 := ⟨2147483646, BIG_eq⟩
  have e1 : ∃ v, (B_X4_initialise_17 f 0 1 ((1 : Int32) <<< (l &&& 31)) (up s 35 0 l)) = (true, (1, 0, v, (if D_X11_hasBit f l = 0 then up s 35 0 l else if 6 ≤ s 23 15 then up s 35 0 l else up (up (up s 35 0 l) 33 (s 23 15).toNatClampNeg l) 23 15 (s 23 15 + 1)))) := by
    unfold B_X4_initialise_17
    rw [if_neg (by decide), if_neg (by decide), if_neg (by decide), need_0 h', Int32.zero_and, if_pos low_0, e35, e15]
    by_cases c : D_X11_hasBit f l = 0
    · rw [if_pos c, if_pos c]; exact ⟨_, rfl⟩
    · rw [if_neg c, if_neg c]
      by_cases d : 6 ≤ s 23 15
      · rw [if_pos d, if_pos d]; exact ⟨_, rfl⟩
      · rw [if_neg d, if_neg d]; exact ⟨_, rfl⟩
  obtain ⟨v, e1⟩ := e1
  generalize (if D_X11_hasBit f l = 0 then up s 35 0 l else if 6 ≤ s 23 15 then up s 35 0 l else up (up (up s 35 0 l) 33 (s 23 15).toNatClampNeg l) 23 15 (s 23 15 + 1)) = s' at *
  have e2 : (B_X4_initialise_17 f 1 0 v s') = (false, (1, 0, v, s')) := by
    unfold B_X4_initialise_17
    rw [if_neg (by decide), if_pos (by decide)]
  have e1' : uc4 (B_X4_initialise_17 f) ((0 : Int32), (1 : Int32), ((1 : Int32) <<< (l &&& 31)), up s 35 0 l) = (true, ((1 : Int32), (0 : Int32), v, s')) := by unfold uc4; exact e1
  have e2' : uc4 (B_X4_initialise_17 f) ((1 : Int32), (0 : Int32), v, s') = (false, ((1 : Int32), (0 : Int32), v, s')) := by unfold uc4; exact e2
  rw [hn, itr_s e1', itr_e e2']
theorem six {l : Int32} (h : rg l 6) : l = 0 ∨ l = 1 ∨ l = 2 ∨ l = 3 ∨ l = 4 ∨ l = 5 := by
  obtain ⟨k, hk, rfl⟩ := q_small h
  have : k = 0 ∨ k = 1 ∨ k = 2 ∨ k = 3 ∨ k = 4 ∨ k = 5 := by omega
  rcases this with rfl | rfl | rfl | rfl | rfl | rfl
  · exact Or.inl rfl
  · exact Or.inr (Or.inl rfl)
  · exact Or.inr (Or.inr (Or.inl rfl))
  · exact Or.inr (Or.inr (Or.inr (Or.inl rfl)))
  · exact Or.inr (Or.inr (Or.inr (Or.inr (Or.inl rfl))))
  · exact Or.inr (Or.inr (Or.inr (Or.inr (Or.inr rfl))))
theorem bits6 (h : rg l 6) : D_J6_bitCount_0f7a4 ((0 : Int32) ||| ((1 : Int32) <<< (l &&& 31))) = 1 ∧ D_J6_bitCount_0f7a4 ((1 : Int32) <<< (l &&& 31)) = 1 ∧ ¬ D_X11_hasBit ((0 : Int32) ||| ((1 : Int32) <<< (l &&& 31))) l = 0 ∧ ¬ D_X11_hasBit ((1 : Int32) <<< (l &&& 31)) l = 0 ∧ (((1 : Int32) <<< (l &&& 31)) &&& (((0 : Int32) ||| ((1 : Int32) <<< (l &&& 31))) ^^^ (-1))) = 0 ∧ ((((0 : Int32) ||| ((1 : Int32) <<< (l &&& 31)))) &&& ((0 : Int32) ^^^ (-1))) = (1 : Int32) <<< (l &&& 31) ∧ ((0 : Int32) ||| ((1 : Int32) <<< (l &&& 31))) = (1 : Int32) <<< (l &&& 31) := by
  rcases six h with rfl | rfl | rfl | rfl | rfl | rfl <;> decide +kernel
/-- the first time -/
theorem open_1 (h : L0 s) (h0 : 0 ≤ l.toInt) (h1 : l.toInt < (s 23 13).toInt) : (D_X4_openOne s l 0).1 = 1 ∧ L1 l 1 (D_X4_openOne s l 0).2 := by
  obtain ⟨c6, c14, c15, c25, c29, c30, c31⟩ := h
  have rl : rg l 6 := ⟨h0, by omega⟩
  obtain ⟨b1, b2, b3, b4, b5, b6, b7⟩ := bits6 rl
  unfold D_X4_openOne
  rw [if_neg (has4 h0 h1 c6), c29, show (0 : Int32) + 1 = 1 from rfl, row_0 (fun j => by rw [up_ne (by decide)]; exact c25 j)]
  have hs1 : ∀ k j, k ≠ 29 → k ≠ 34 → k ≠ 23 ∨ j ≠ 12 → (up (up (up s 29 l.toNatClampNeg 1) 34 0 l) 23 12 ((1 : Int32) <<< (l &&& 31))) k j = s k j := fun k j e1 e2 e3 => by rw [up_f e3, up_ne e2, up_ne e1]
  have h29 : ∀ j, (up (up (up s 29 l.toNatClampNeg 1) 34 0 l) 23 12 ((1 : Int32) <<< (l &&& 31))) 29 j = if j = l.toNatClampNeg then 1 else s 29 j := fun j => by simp [up_at]
  have h34 : (up (up (up s 29 l.toNatClampNeg 1) 34 0 l) 23 12 ((1 : Int32) <<< (l &&& 31))) 34 (0 : Int32).toNatClampNeg = l := by
    rw [show (0 : Int32).toNatClampNeg = 0 from rfl]; simp [up_at]
  generalize up (up (up s 29 l.toNatClampNeg 1) 34 0 l) 23 12 ((1 : Int32) <<< (l &&& 31)) = s1 at *
  have g30 : ∀ j, s1 30 j = -1 := fun j => by rw [hs1 _ _ (by decide) (by decide) (Or.inl (by decide))]; exact c30 j
  have g25 : ∀ j, s1 25 j = 0 := fun j => by rw [hs1 _ _ (by decide) (by decide) (Or.inl (by decide))]; exact c25 j
  have g13 : s1 23 13 = s 23 13 := hs1 _ _ (by decide) (by decide) (Or.inr (by decide))
  have eL : D_X4_load s1 l = up s1 30 l.toNatClampNeg 64 := load_0 g30 (has4 h0 (by rw [g13]; exact h1) (by rw [g13]; exact c6))
  obtain ⟨n, hn⟩ : ∃ n, BIG = n + 2 := ⟨2147483646, BIG_eq⟩
  have e1 : (B_X4_openOne_32 l 0 1 0 0 s1) = (true, (1, (0 : Int32) ||| ((1 : Int32) <<< (l &&& 31)), up s1 30 l.toNatClampNeg 64)) := by
    unfold B_X4_openOne_32
    rw [if_neg (by decide), if_neg (by decide), h34, if_pos (nload g30), eL, up_ne (by decide), h34]
    rfl
  have e2 : (B_X4_openOne_32 l 0 1 1 ((0 : Int32) ||| ((1 : Int32) <<< (l &&& 31))) (up s1 30 l.toNatClampNeg 64)) = (false, (1, (0 : Int32) ||| ((1 : Int32) <<< (l &&& 31)), up s1 30 l.toNatClampNeg 64)) := by
    unfold B_X4_openOne_32
    rw [if_pos (by decide)]
  have e3 : itr (uc3 (B_X4_openOne_32 l 0 1)) BIG (0, 0, s1) = (1, (0 : Int32) ||| ((1 : Int32) <<< (l &&& 31)), up s1 30 l.toNatClampNeg 64) := by
    rw [hn, itr_s (B := uc3 (B_X4_openOne_32 l 0 1)) (x := (0, 0, s1)) (y := (1, (0 : Int32) ||| ((1 : Int32) <<< (l &&& 31)), up s1 30 l.toNatClampNeg 64)) e1, itr_e (B := uc3 (B_X4_openOne_32 l 0 1)) (x := (1, (0 : Int32) ||| ((1 : Int32) <<< (l &&& 31)), up s1 30 l.toNatClampNeg 64)) (y := (1, (0 : Int32) ||| ((1 : Int32) <<< (l &&& 31)), up s1 30 l.toNatClampNeg 64)) e2]
  rw [e3]
  show (R_X4_openOne_90 (up s1 30 l.toNatClampNeg 64) l 0 1 ((0 : Int32) ||| ((1 : Int32) <<< (l &&& 31)))).1 = 1 ∧ L1 l 1 (R_X4_openOne_90 (up s1 30 l.toNatClampNeg 64) l 0 1 ((0 : Int32) ||| ((1 : Int32) <<< (l &&& 31)))).2
  unfold R_X4_openOne_90 R_X4_openOne_127
  have e4 : (itr (uc2 (B_X4_openOne_93 l 0 1 ((0 : Int32) ||| ((1 : Int32) <<< (l &&& 31))))) BIG (0, up s1 30 l.toNatClampNeg 64)).2 = up s1 30 l.toNatClampNeg 64 := by
    rw [hn, itr_e (B := uc2 (B_X4_openOne_93 l 0 1 ((0 : Int32) ||| ((1 : Int32) <<< (l &&& 31))))) (x := (0, up s1 30 l.toNatClampNeg 64)) (y := (0, up s1 30 l.toNatClampNeg 64)) (by show B_X4_openOne_93 l 0 1 _ 0 (up s1 30 l.toNatClampNeg 64) = _; unfold B_X4_openOne_93; rw [if_pos rfl])]
  rw [e4]
  refine ⟨b1, ?_⟩
  show L1 l 1 (D_X4_initialise (up s1 30 l.toNatClampNeg 64) l ((0 : Int32) ||| ((1 : Int32) <<< (l &&& 31))))
  have g15 : (up s1 30 l.toNatClampNeg 64) 23 15 = 0 := by rw [up_ne (by decide), hs1 _ _ (by decide) (by decide) (Or.inr (by decide))]; exact c15
  rw [init_0 (fun j => by rw [up_ne (by decide)]; exact g25 j), if_neg b3, g15, if_neg (by decide), show (0 : Int32) + 1 = 1 from rfl, show (0 : Int32).toNatClampNeg = 0 from rfl]
  refine ⟨?_, ?_, ?_, ?_, fun j => ?_, fun j => ?_, fun j => ?_, fun j => ?_⟩
  · rw [up_f (by decide), up_f (by decide), up_f (by decide), up_f (Or.inl (by decide)), g13]; exact c6
  · rw [up_f (by decide), up_f (by decide), up_f (by decide), up_f (Or.inl (by decide)), hs1 _ _ (by decide) (by decide) (Or.inr (by decide))]; exact c14
  · rw [rd_eq]
  · rw [up_f (by decide), rd_eq]
  · rw [up_ne (by decide), up_ne (by decide), up_ne (by decide), up_ne (by decide)]; exact g25 j
  · rw [up_ne (by decide), up_ne (by decide), up_ne (by decide), up_ne (by decide), h29, c29]
  · rw [up_ne (by decide), up_ne (by decide), up_ne (by decide), up_at]
    by_cases c : j = l.toNatClampNeg
    · rw [if_pos ⟨rfl, c⟩, if_pos c]
    · rw [if_neg (fun e => c e.2), if_neg c]; exact g30 j
  · rw [up_ne (by decide), up_ne (by decide), up_ne (by decide), up_ne (by decide), hs1 _ _ (by decide) (by decide) (Or.inl (by decide))]; exact c31 j
/-- once more -/
theorem open_2 (h : L1 l 1 s) (h0 : 0 ≤ l.toInt) (h1 : l.toInt < (s 23 13).toInt) : (D_X4_openOne s l 0).1 = 0 ∧ L1 l 2 (D_X4_openOne s l 0).2 := by
  obtain ⟨c6, c14, c15, c33, c25, c29, c30, c31⟩ := h
  unfold D_X4_openOne
  rw [if_neg (has4 h0 h1 c6), c29, if_pos rfl, show (1 : Int32) + 1 = 2 from rfl, row_0 (fun j => by rw [up_ne (by decide)]; exact c25 j)]
  have hs1 : ∀ k j, k ≠ 29 → k ≠ 34 → k ≠ 23 ∨ j ≠ 12 → (up (up (up s 29 l.toNatClampNeg 2) 34 0 l) 23 12 ((1 : Int32) <<< (l &&& 31))) k j = s k j := fun k j e1 e2 e3 => by rw [up_f e3, up_ne e2, up_ne e1]
  have h29 : ∀ j, (up (up (up s 29 l.toNatClampNeg 2) 34 0 l) 23 12 ((1 : Int32) <<< (l &&& 31))) 29 j = if j = l.toNatClampNeg then 2 else s 29 j := fun j => by simp [up_at]
  have h34 : (up (up (up s 29 l.toNatClampNeg 2) 34 0 l) 23 12 ((1 : Int32) <<< (l &&& 31))) 34 (0 : Int32).toNatClampNeg = l := by
    rw [show (0 : Int32).toNatClampNeg = 0 from rfl]; simp [up_at]
  generalize up (up (up s 29 l.toNatClampNeg 2) 34 0 l) 23 12 ((1 : Int32) <<< (l &&& 31)) = s1 at *
  have g30 : s1 30 l.toNatClampNeg = 64 := by rw [hs1 _ _ (by decide) (by decide) (Or.inl (by decide)), c30, if_pos rfl]
  have g25 : ∀ j, s1 25 j = 0 := fun j => by rw [hs1 _ _ (by decide) (by decide) (Or.inl (by decide))]; exact c25 j
  have g13 : s1 23 13 = s 23 13 := hs1 _ _ (by decide) (by decide) (Or.inr (by decide))
  have hl : ¬ D_X4_isLoaded s1 l = 0 := by
    unfold D_X4_isLoaded D_X4_base
    rw [if_neg (has4 h0 (by rw [g13]; exact h1) (by rw [g13]; exact c6)), g30]; decide
  obtain ⟨n, hn⟩ : ∃ n, BIG = n + 2 := ⟨2147483646, BIG_eq⟩
  have e1 : (B_X4_openOne_32 l 0 1 0 0 s1) = (true, (1, 0, s1)) := by
    unfold B_X4_openOne_32
    rw [if_neg (by decide), if_neg (by decide), h34, if_neg hl]
    rfl
  have e2 : (B_X4_openOne_32 l 0 1 1 0 s1) = (false, (1, 0, s1)) := by
    unfold B_X4_openOne_32
    rw [if_pos (by decide)]
  have e3 : itr (uc3 (B_X4_openOne_32 l 0 1)) BIG (0, 0, s1) = (1, 0, s1) := by
    rw [hn, itr_s (B := uc3 (B_X4_openOne_32 l 0 1)) (x := (0, 0, s1)) (y := (1, 0, s1)) e1, itr_e (B := uc3 (B_X4_openOne_32 l 0 1)) (x := (1, 0, s1)) (y := (1, 0, s1)) e2]
  rw [e3]
  show (R_X4_openOne_90 s1 l 0 1 0).1 = 0 ∧ L1 l 2 (R_X4_openOne_90 s1 l 0 1 0).2
  unfold R_X4_openOne_90 R_X4_openOne_127
  have e4 : (itr (uc2 (B_X4_openOne_93 l 0 1 0)) BIG (0, s1)).2 = s1 := by
    rw [hn, itr_e (B := uc2 (B_X4_openOne_93 l 0 1 0)) (x := (0, s1)) (y := (0, s1)) (by show B_X4_openOne_93 l 0 1 _ 0 s1 = _; unfold B_X4_openOne_93; rw [if_pos rfl])]
  rw [e4]
  refine ⟨by show D_J6_bitCount_0f7a4 0 = 0; decide +kernel, ?_⟩
  show L1 l 2 (D_X4_initialise s1 l 0)
  rw [init_0 g25, if_pos hb_0]
  refine ⟨?_, ?_, ?_, ?_, fun j => ?_, fun j => ?_, fun j => ?_, fun j => ?_⟩
  · rw [up_f (by decide), g13]; exact c6
  · rw [up_f (by decide), hs1 _ _ (by decide) (by decide) (Or.inr (by decide))]; exact c14
  · rw [up_f (by decide), hs1 _ _ (by decide) (by decide) (Or.inr (by decide))]; exact c15
  · rw [up_f (by decide), hs1 _ _ (by decide) (by decide) (Or.inl (by decide))]; exact c33
  · rw [up_ne (by decide)]; exact g25 j
  · rw [up_ne (by decide), h29]
    by_cases c : j = l.toNatClampNeg
    · rw [if_pos c, if_pos c]
    · rw [if_neg c, if_neg c, c29, if_neg c]
  · rw [up_ne (by decide), hs1 _ _ (by decide) (by decide) (Or.inl (by decide))]; exact c30 j
  · rw [up_ne (by decide), hs1 _ _ (by decide) (by decide) (Or.inl (by decide))]; exact c31 j
end LB
