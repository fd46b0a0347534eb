/-! settling names -/
theorem i_ma {x y : Int32} {n m : Nat} (k : Int32) (c : Nat) (hk : k.toInt = c) (h1 : rg x n) (h2 : rg y m) (hm : m ≤ c) (hn : n * c < 1000000) : (x * k + y).toNatClampNeg = x.toNatClampNeg * c + y.toNatClampNeg := by
  have h0 := i_mul_add k c hk h1 h2 hm hn
  obtain ⟨a1, a2⟩ := h1
  obtain ⟨b1, b2⟩ := h2
  have h3 : (x * k).toInt = x.toInt * c := by
    rw [Int32.toInt_mul, hk]
    have h5 : x.toInt * c ≤ n * c := Int.mul_le_mul_of_nonneg_right (by omega) (by omega)
    have h6 : 0 ≤ x.toInt * c := Int.mul_nonneg a1 (by omega)
    have h7 : (n : Int) * c < 1000000 := by rw [← Int.natCast_mul]; omega
    rw [Int.bmod_eq_of_le (by omega) (by omega)]
  have h8 : (x.toInt + 1) * c ≤ n * c := Int.mul_le_mul_of_nonneg_right (by omega) (by omega)
  have h9 : (x.toInt + 1) * c = x.toInt * c + c := by rw [Int.add_mul, Int.one_mul]
  have h6 : 0 ≤ x.toInt * c := Int.mul_nonneg a1 (by omega)
  have h7 : (n : Int) * c < 1000000 := by rw [← Int.natCast_mul]; omega
  have h10 : (x * k + y).toInt = x.toInt * c + y.toInt := by
    rw [Int32.toInt_add, h3, Int.bmod_eq_of_le (by omega) (by omega)]
  rw [tn, tn, tn, h10]
  have h11 : x.toInt.toNat * c = (x.toInt * c).toNat := by
    have : ((x.toInt.toNat * c : Nat) : Int) = x.toInt * c := by rw [Int.natCast_mul, Int.toNat_of_nonneg a1]
    omega
  rw [h11]
  omega
section X6
variable {s : Sg} {k j : Nat} {v : Int32}
theorem u6_has (h : 23 ≤ k) {a : Int32} : D_X6_has (up s k j v) a = D_X6_has s a := by unfold D_X6_has; rw [rd_nk (by omega)]
theorem u6_kind (h : 23 ≤ k) {a c : Int32} : D_X6_kind (up s k j v) a c = D_X6_kind s a c := by unfold D_X6_kind; rw [u6_has h, rd_nk (by omega), rd_nk (by omega)]
theorem u6_size (h : 23 ≤ k) {a c : Int32} : D_X6_size (up s k j v) a c = D_X6_size s a c := by unfold D_X6_size; rw [u6_has h, rd_nk (by omega)]
theorem u6_align (h : 23 ≤ k) {a c : Int32} : D_X6_align (up s k j v) a c = D_X6_align s a c := by unfold D_X6_align; rw [u6_has h, rd_nk (by omega)]
theorem u6_sec (h : 23 ≤ k) {a c : Int32} : D_X6_sectionOf (up s k j v) a c = D_X6_sectionOf s a c := by unfold D_X6_sectionOf; rw [u6_has h, rd_nk (by omega)]
theorem u6_place (h : 23 ≤ k) {a c : Int32} : D_X6_placeOf (up s k j v) a c = D_X6_placeOf s a c := by unfold D_X6_placeOf; rw [u6_has h, rd_nk (by omega)]
theorem u6_hid (h : 23 ≤ k) {a c : Int32} : D_X6_isHidden (up s k j v) a c = D_X6_isHidden s a c := by unfold D_X6_isHidden; rw [u6_has h, rd_nk (by omega)]
end X6
/-- a name's definition is another one now -/
noncomputable def ad (q : Nat) (s : Sg) (a1 a2 a3 : Int32) : Sg :=
  up (up (up (up (up (up (up s (q + 6) a1.toNatClampNeg a3) (q + 7) a1.toNatClampNeg (if a3 = 1 then -1 else a2)) (q + 8) a1.toNatClampNeg (D_X6_sectionOf s a2 a1)) (q + 9) a1.toNatClampNeg (D_X6_placeOf s a2 a1)) (q + 10) a1.toNatClampNeg (D_X6_size s a2 a1)) (q + 11) a1.toNatClampNeg (D_X6_align s a2 a1)) (q + 5) 8
    (if D_X6_isHidden s a2 a1 = 0 then ((s (q + 5) 8) &&& ((1 <<< (a1 &&& 31)) ^^^ (-1))) else ((s (q + 5) 8) ||| (1 <<< (a1 &&& 31))))
theorem adopt_n {q : Nat} (hq : 23 ≤ q) {s : Sg} {a1 a2 a3 : Int32} (hn : ¬ D_X11_isName a1 = 0) : D_X9_adopt q s a1 a2 a3 = ad q s a1 a2 a3 := by
  have e6 : 23 ≤ q + 6 := by omega
  have e7 : 23 ≤ q + 7 := by omega
  have e8 : 23 ≤ q + 8 := by omega
  have e9 : 23 ≤ q + 9 := by omega
  have e10 : 23 ≤ q + 10 := by omega
  have e11 : 23 ≤ q + 11 := by omega
  unfold D_X9_adopt ad
  rw [if_neg hn]
  simp only [u6_hid e6, u6_hid e7, u6_hid e8, u6_hid e9, u6_hid e10, u6_hid e11, u6_sec e6, u6_sec e7, u6_place e6, u6_place e7, u6_place e8, u6_size e6, u6_size e7, u6_size e8, u6_size e9, u6_align e6, u6_align e7, u6_align e8, u6_align e9, u6_align e10]
  by_cases c : a3 = 1
  · rw [if_pos c, if_pos c]
    by_cases d : D_X6_isHidden s a2 a1 = 0
    · rw [if_pos d, if_pos d]
    · rw [if_neg d, if_neg d]
  · rw [if_neg c, if_neg c]
    by_cases d : D_X6_isHidden s a2 a1 = 0
    · rw [if_pos d, if_pos d]
    · rw [if_neg d, if_neg d]
section X6E
variable {s t : Sg} {o n : Int32}
theorem has_no {s : Sg} {o : Int32} (ho : rg o 10) (h1 : o.toInt < (s 1 9).toInt) : ¬ D_X6_has s o = 0 := by
  unfold D_X6_has
  rw [if_neg (n_lt ho.1), if_neg (fun q => by have := Int32.le_iff_toInt_le.mp q; omega), if_neg (n_le (m := 10) (n := 10) ho.2 rfl)]
  decide
theorem on_at (ho : rg o 10) (hn : rg n 20) : ((o * 20) + n).toNatClampNeg = o.toNatClampNeg * 20 + n.toNatClampNeg := i_ma 20 20 rfl ho hn (by decide) (by decide)
theorem on_lt {m : Int} (ho : rg o 10) (hn : rg n 20) (h1 : o.toInt < m) : ((((o * 20) + n).toNatClampNeg : Nat) : Int) < 20 * m := by
  rw [on_at ho hn, tn, tn]
  have := ho.1; have := hn.1; have := hn.2
  omega
theorem e6_kind (h : Tb s t) (ho : rg o 10) (h1 : o.toInt < (s 1 9).toInt) (hn : rg n 20) : D_X6_kind t o n = D_X6_kind s o n := by
  have h2 : o.toInt < (t 1 9).toInt := by have := h.no1; omega
  unfold D_X6_kind
  rw [if_neg (has_no ho h1), if_neg (has_no ho h2), h.r2 _ (by rw [tn]; have := ho.1; omega), h.r5 _ (on_lt ho hn h1)]
theorem e6_size (h : Tb s t) (ho : rg o 10) (h1 : o.toInt < (s 1 9).toInt) (hn : rg n 20) : D_X6_size t o n = D_X6_size s o n := by
  have h2 : o.toInt < (t 1 9).toInt := by have := h.no1; omega
  unfold D_X6_size
  rw [if_neg (has_no ho h1), if_neg (has_no ho h2), h.r8 _ (on_lt ho hn h1)]
theorem e6_align (h : Tb s t) (ho : rg o 10) (h1 : o.toInt < (s 1 9).toInt) (hn : rg n 20) : D_X6_align t o n = D_X6_align s o n := by
  have h2 : o.toInt < (t 1 9).toInt := by have := h.no1; omega
  unfold D_X6_align
  rw [if_neg (has_no ho h1), if_neg (has_no ho h2), h.r9 _ (on_lt ho hn h1)]
theorem e6_sec (h : Tb s t) (ho : rg o 10) (h1 : o.toInt < (s 1 9).toInt) (hn : rg n 20) : D_X6_sectionOf t o n = D_X6_sectionOf s o n := by
  have h2 : o.toInt < (t 1 9).toInt := by have := h.no1; omega
  unfold D_X6_sectionOf
  rw [if_neg (has_no ho h1), if_neg (has_no ho h2), h.r6 _ (on_lt ho hn h1)]
theorem e6_place (h : Tb s t) (ho : rg o 10) (h1 : o.toInt < (s 1 9).toInt) (hn : rg n 20) : D_X6_placeOf t o n = D_X6_placeOf s o n := by
  have h2 : o.toInt < (t 1 9).toInt := by have := h.no1; omega
  unfold D_X6_placeOf
  rw [if_neg (has_no ho h1), if_neg (has_no ho h2), h.r7 _ (on_lt ho hn h1)]
theorem e6_hid (h : Tb s t) (ho : rg o 10) (h1 : o.toInt < (s 1 9).toInt) : D_X6_isHidden t o n = D_X6_isHidden s o n := by
  have h2 : o.toInt < (t 1 9).toInt := by have := h.no1; omega
  unfold D_X6_isHidden
  rw [if_neg (has_no ho h1), if_neg (has_no ho h2), h.c10]
end X6E
