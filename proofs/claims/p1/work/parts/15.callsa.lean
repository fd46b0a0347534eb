theorem ag_link_2_c0_c : (fun k_p0 : Nat => ([0, 1] : List Int32).all (fun p1 => chk 303 253 [.ref 0, .int (Int32.ofInt (0 + (k_p0 : Nat))), .int p1, .ref 104] [.ref 82, .int (Int32.ofInt (0 + (k_p0 : Nat))), .int p1])) 0 = true := by decide +kernel
theorem ag_link_2_c1_c : (fun k_p0 : Nat => ([0, 1] : List Int32).all (fun p1 => chk 303 253 [.ref 0, .int (Int32.ofInt (0 + (k_p0 : Nat))), .int p1, .ref 104] [.ref 82, .int (Int32.ofInt (0 + (k_p0 : Nat))), .int p1])) 1 = true := by decide +kernel
theorem ag_link_2_c2_c : (fun k_p0 : Nat => ([0, 1] : List Int32).all (fun p1 => chk 303 253 [.ref 0, .int (Int32.ofInt (0 + (k_p0 : Nat))), .int p1, .ref 104] [.ref 82, .int (Int32.ofInt (0 + (k_p0 : Nat))), .int p1])) 2 = true := by decide +kernel
theorem ag_link_2_c3_c : (fun k_p0 : Nat => ([0, 1] : List Int32).all (fun p1 => chk 303 253 [.ref 0, .int (Int32.ofInt (0 + (k_p0 : Nat))), .int p1, .ref 104] [.ref 82, .int (Int32.ofInt (0 + (k_p0 : Nat))), .int p1])) 3 = true := by decide +kernel
theorem ag_link_2_c4_c : (fun k_p0 : Nat => ([0, 1] : List Int32).all (fun p1 => chk 303 253 [.ref 0, .int (Int32.ofInt (0 + (k_p0 : Nat))), .int p1, .ref 104] [.ref 82, .int (Int32.ofInt (0 + (k_p0 : Nat))), .int p1])) 4 = true := by decide +kernel
theorem ag_link_2_c5_c : (fun k_p0 : Nat => ([0, 1] : List Int32).all (fun p1 => chk 303 253 [.ref 0, .int (Int32.ofInt (0 + (k_p0 : Nat))), .int p1, .ref 104] [.ref 82, .int (Int32.ofInt (0 + (k_p0 : Nat))), .int p1])) 5 = true := by decide +kernel
theorem ag_link_2_c6_c : (fun k_p0 : Nat => ([0, 1] : List Int32).all (fun p1 => chk 303 253 [.ref 0, .int (Int32.ofInt (0 + (k_p0 : Nat))), .int p1, .ref 104] [.ref 82, .int (Int32.ofInt (0 + (k_p0 : Nat))), .int p1])) 6 = true := by decide +kernel
theorem ag_link_2_c7_c : (fun k_p0 : Nat => ([0, 1] : List Int32).all (fun p1 => chk 303 253 [.ref 0, .int (Int32.ofInt (0 + (k_p0 : Nat))), .int p1, .ref 104] [.ref 82, .int (Int32.ofInt (0 + (k_p0 : Nat))), .int p1])) 7 = true := by decide +kernel
theorem ag_link_2_c8_c : (fun k_p0 : Nat => ([0, 1] : List Int32).all (fun p1 => chk 303 253 [.ref 0, .int (Int32.ofInt (0 + (k_p0 : Nat))), .int p1, .ref 104] [.ref 82, .int (Int32.ofInt (0 + (k_p0 : Nat))), .int p1])) 8 = true := by decide +kernel
theorem ag_link_2_c9_c : (fun k_p0 : Nat => ([0, 1] : List Int32).all (fun p1 => chk 303 253 [.ref 0, .int (Int32.ofInt (0 + (k_p0 : Nat))), .int p1, .ref 104] [.ref 82, .int (Int32.ofInt (0 + (k_p0 : Nat))), .int p1])) 9 = true := by decide +kernel
theorem ag_link_2_c10_c : (fun k_p0 : Nat => ([0, 1] : List Int32).all (fun p1 => chk 303 253 [.ref 0, .int (Int32.ofInt (0 + (k_p0 : Nat))), .int p1, .ref 104] [.ref 82, .int (Int32.ofInt (0 + (k_p0 : Nat))), .int p1])) 10 = true := by decide +kernel
theorem ag_link_2_c11_c : (fun k_p0 : Nat => ([0, 1] : List Int32).all (fun p1 => chk 303 253 [.ref 0, .int (Int32.ofInt (0 + (k_p0 : Nat))), .int p1, .ref 104] [.ref 82, .int (Int32.ofInt (0 + (k_p0 : Nat))), .int p1])) 11 = true := by decide +kernel
theorem ag_link_2_c12_c : (fun k_p0 : Nat => ([0, 1] : List Int32).all (fun p1 => chk 303 253 [.ref 0, .int (Int32.ofInt (0 + (k_p0 : Nat))), .int p1, .ref 104] [.ref 82, .int (Int32.ofInt (0 + (k_p0 : Nat))), .int p1])) 12 = true := by decide +kernel
theorem ag_link_2_c13_c : (fun k_p0 : Nat => ([0, 1] : List Int32).all (fun p1 => chk 303 253 [.ref 0, .int (Int32.ofInt (0 + (k_p0 : Nat))), .int p1, .ref 104] [.ref 82, .int (Int32.ofInt (0 + (k_p0 : Nat))), .int p1])) 13 = true := by decide +kernel
theorem ag_link_2_c14_c : (fun k_p0 : Nat => ([0, 1] : List Int32).all (fun p1 => chk 303 253 [.ref 0, .int (Int32.ofInt (0 + (k_p0 : Nat))), .int p1, .ref 104] [.ref 82, .int (Int32.ofInt (0 + (k_p0 : Nat))), .int p1])) 14 = true := by decide +kernel
theorem ag_link_2_c15_c : (fun k_p0 : Nat => ([0, 1] : List Int32).all (fun p1 => chk 303 253 [.ref 0, .int (Int32.ofInt (0 + (k_p0 : Nat))), .int p1, .ref 104] [.ref 82, .int (Int32.ofInt (0 + (k_p0 : Nat))), .int p1])) 15 = true := by decide +kernel
theorem ag_link_2_c16_c : (fun k_p0 : Nat => ([0, 1] : List Int32).all (fun p1 => chk 303 253 [.ref 0, .int (Int32.ofInt (0 + (k_p0 : Nat))), .int p1, .ref 104] [.ref 82, .int (Int32.ofInt (0 + (k_p0 : Nat))), .int p1])) 16 = true := by decide +kernel
theorem ag_link_2_c17_c : (fun k_p0 : Nat => ([0, 1] : List Int32).all (fun p1 => chk 303 253 [.ref 0, .int (Int32.ofInt (0 + (k_p0 : Nat))), .int p1, .ref 104] [.ref 82, .int (Int32.ofInt (0 + (k_p0 : Nat))), .int p1])) 17 = true := by decide +kernel
theorem ag_link_2_c18_c : (fun k_p0 : Nat => ([0, 1] : List Int32).all (fun p1 => chk 303 253 [.ref 0, .int (Int32.ofInt (0 + (k_p0 : Nat))), .int p1, .ref 104] [.ref 82, .int (Int32.ofInt (0 + (k_p0 : Nat))), .int p1])) 18 = true := by decide +kernel
theorem ag_link_2_c19_c : (fun k_p0 : Nat => ([0, 1] : List Int32).all (fun p1 => chk 303 253 [.ref 0, .int (Int32.ofInt (0 + (k_p0 : Nat))), .int p1, .ref 104] [.ref 82, .int (Int32.ofInt (0 + (k_p0 : Nat))), .int p1])) 19 = true := by decide +kernel
theorem ag_link_2_cc : ∀ k_p0 : Nat, k_p0 < 20 → ([0, 1] : List Int32).all (fun p1 => chk 303 253 [.ref 0, .int (Int32.ofInt (0 + (k_p0 : Nat))), .int p1, .ref 104] [.ref 82, .int (Int32.ofInt (0 + (k_p0 : Nat))), .int p1]) = true := fun k h => match k, h with
  | 0, _ => ag_link_2_c0_c
  | 1, _ => ag_link_2_c1_c
  | 2, _ => ag_link_2_c2_c
  | 3, _ => ag_link_2_c3_c
  | 4, _ => ag_link_2_c4_c
  | 5, _ => ag_link_2_c5_c
  | 6, _ => ag_link_2_c6_c
  | 7, _ => ag_link_2_c7_c
  | 8, _ => ag_link_2_c8_c
  | 9, _ => ag_link_2_c9_c
  | 10, _ => ag_link_2_c10_c
  | 11, _ => ag_link_2_c11_c
  | 12, _ => ag_link_2_c12_c
  | 13, _ => ag_link_2_c13_c
  | 14, _ => ag_link_2_c14_c
  | 15, _ => ag_link_2_c15_c
  | 16, _ => ag_link_2_c16_c
  | 17, _ => ag_link_2_c17_c
  | 18, _ => ag_link_2_c18_c
  | 19, _ => ag_link_2_c19_c
  | k + 20, h => absurd h (by omega)
theorem ag_link_2_c : (List.range 20).all (fun k_p0 => ([0, 1] : List Int32).all (fun p1 => chk 303 253 [.ref 0, .int (Int32.ofInt (0 + (k_p0 : Nat))), .int p1, .ref 104] [.ref 82, .int (Int32.ofInt (0 + (k_p0 : Nat))), .int p1])) = true := List.all_eq_true.mpr (fun k h => ag_link_2_cc k (List.mem_range.mp h))
theorem ag_ofName_3_c : (List.range 20).all (fun k_p0 => (List.range 5).all (fun k_p1 => chk 305 257 [.ref 0, .int (Int32.ofInt (0 + (k_p0 : Nat))), .int (Int32.ofInt (0 + (k_p1 : Nat))), .ref 104] [.ref 82, .int (Int32.ofInt (0 + (k_p0 : Nat))), .int (Int32.ofInt (0 + (k_p1 : Nat)))])) = true := by decide +kernel
theorem ag_publish_2_c : (List.range 64).all (fun k_p0 => chk 308 262 [.ref 0, .int (Int32.ofInt (0 + (k_p0 : Nat))), .ref 104] [.ref 82, .int (Int32.ofInt (0 + (k_p0 : Nat)))]) = true := by decide +kernel
theorem ag_many_2_c : (List.range 13).all (fun k_p0 => chk 314 282 [.ref 0, .int (Int32.ofInt (0 + (k_p0 : Nat))), .ref 104] [.ref 82, .int (Int32.ofInt (0 + (k_p0 : Nat)))]) = true := by decide +kernel
