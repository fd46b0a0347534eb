/-! bits -/
def bt_ (a : Int32) (k : Nat) : Bool := a.toBitVec.getLsbD k
theorem sm_k : ∀ k, k < 32 → ((Int32.ofInt ((k : Nat) : Int)) &&& 31).toBitVec.smod 32 = BitVec.ofNat 32 k ∧ (Int32.ofInt ((k : Nat) : Int)).toNatClampNeg = k := by
  decide
theorem one_bit {x : BitVec 32} : x &&& 1#32 = 0#32 ↔ x.getLsbD 0 = false := by
  constructor
  · intro h
    have h2 : (x &&& 1#32).getLsbD 0 = (0#32).getLsbD 0 := by rw [h]
    rw [BitVec.getLsbD_and] at h2
    simpa using h2
  · intro h
    apply BitVec.eq_of_getLsbD_eq
    intro i hi
    rw [BitVec.getLsbD_and]
    cases i with
    | zero => rw [h]; rfl
    | succ i => simp [BitVec.getLsbD_one]
theorem hb_z {a n : Int32} (h : rg n 32) : D_X11_hasBit a n = 0 ↔ bt_ a n.toNatClampNeg = false := by
  obtain ⟨k, hk, rfl⟩ := q_small h
  obtain ⟨h1, h2⟩ := sm_k k hk
  rw [h2]
  unfold D_X11_hasBit
  have h3 : ((a >>> (Int32.ofInt ((k : Nat) : Int) &&& 31)) &&& 1 = 0) ↔ bt_ a k = false := by
    rw [← Int32.toBitVec_inj, Int32.toBitVec_and, Int32.toBitVec_shiftRight, h1]
    show (a.toBitVec.sshiftRight' (BitVec.ofNat 32 k) &&& 1#32 = 0#32) ↔ _
    rw [one_bit]
    unfold BitVec.sshiftRight' bt_
    rw [BitVec.getLsbD_sshiftRight]
    have h4 : (BitVec.ofNat 32 k).toNat = k := by rw [BitVec.toNat_ofNat]; omega
    simp [h4, hk]
  by_cases hc : (a >>> (Int32.ofInt ((k : Nat) : Int) &&& 31)) &&& 1 = 0
  · rw [if_pos hc]; exact ⟨fun _ => h3.mp hc, fun _ => rfl⟩
  · rw [if_neg hc]; exact ⟨fun q => absurd q (by decide), fun q => absurd (h3.mpr q) hc⟩
theorem hb_n {a n : Int32} (h : rg n 32) : ¬ D_X11_hasBit a n = 0 ↔ bt_ a n.toNatClampNeg = true := by
  rw [hb_z h]; cases bt_ a n.toNatClampNeg <;> simp
theorem bt_and {a b : Int32} {k : Nat} : bt_ (a &&& b) k = (bt_ a k && bt_ b k) := by
  unfold bt_; rw [Int32.toBitVec_and, BitVec.getLsbD_and]
theorem bt_or {a b : Int32} {k : Nat} : bt_ (a ||| b) k = (bt_ a k || bt_ b k) := by
  unfold bt_; rw [Int32.toBitVec_or, BitVec.getLsbD_or]
theorem bt_0 {k : Nat} : bt_ 0 k = false := by
  unfold bt_; show (0#32).getLsbD k = false; simp
theorem one_sh : ∀ k, k < 32 → ((1 : Int32) <<< ((Int32.ofInt ((k : Nat) : Int)) &&& 31)).toBitVec = BitVec.ofNat 32 (2 ^ k) := by decide
theorem bt_1 {n : Int32} {i : Nat} (h : rg n 32) (hi : i < 32) : bt_ (1 <<< (n &&& 31)) i = decide (i = n.toNatClampNeg) := by
  obtain ⟨k, hk, rfl⟩ := q_small h
  rw [(sm_k k hk).2]
  unfold bt_
  rw [one_sh k hk, BitVec.getLsbD_ofNat, Nat.testBit_two_pow]
  simp [hi, eq_comm]
theorem bt_set {a n : Int32} {i : Nat} (h : rg n 32) (hi : i < 32) : bt_ (a ||| (1 <<< (n &&& 31))) i = (bt_ a i || decide (i = n.toNatClampNeg)) := by
  rw [bt_or, bt_1 h hi]
