theorem ag_object : agree 293 236 [.ref 0, .ref 104] [.ref 82] := chk_agree (by decide +kernel)
theorem hG_c1 (a b c d e : Int32) (o : Int64) (k n : Nat) : (hG a b c d e o k n).1[1]? = some (.inr 6, [.ref 2, .ref 3, .ref 4, .ref 5, .ref 6, .ref 7, .ref 8, .ref 9, .ref 10, .int 0]) := rfl
theorem ag_section_1 (p0 p1 p2 : Int32) (u_p0 : p0.toInt ≤ -1) : agree 294 237 [.ref 0, .int p0, .int p1, .int p2, .ref 104] [.ref 82, .int p0, .int p1, .int p2] := by
  have c3 : ev_call mt pg 3000 12 294 [.ref 0, .int p0, .int p1, .int p2, .ref 104] (hG 40 9999 0 40 9999 0 105 8641) = some (.inl (some (.int 1)), (hG 40 9999 0 40 9999 0 106 8647)) := by
    refine ev_mc rfl ?_ (ev_finx (by first | rfl | decide +kernel) rfl rfl)
    show ev_run (pg 294) (ev_call mt pg 3000 11) 3000 (0, [(0, .ref 0), (1, .int p0), (2, .int p1), (3, .int p2), (4, .ref 104)], []) (hG 40 9999 0 40 9999 0 105 8641) = _
    refine st_aload (p' := 2) rfl rfl rfl ?_
    refine st_push (p' := 3) rfl rfl ?_
    refine st_aload (p' := 4) rfl rfl rfl ?_
    refine st_iload (p' := 5) rfl rfl rfl ?_
    refine st_iload (p' := 6) rfl rfl rfl ?_
    refine st_iload (p' := 7) rfl rfl rfl ?_
    have c2 : ev_call mt pg 3000 11 162 [.ref 0, .int p0, .int p1, .int p2] (hG 40 9999 0 40 9999 0 105 8641) = some (.inr "java/lang/IndexOutOfBoundsException", (hG 40 9999 0 40 9999 0 106 8647)) := by
      refine ev_mc rfl ?_ (ev_finX (by decide +kernel) rfl rfl)
      show ev_run (pg 162) (ev_call mt pg 3000 10) 3000 (0, [(0, .ref 0), (1, .int p0), (2, .int p1), (3, .int p2)], []) (hG 40 9999 0 40 9999 0 105 8641) = _
      refine st_aload (p' := 1) rfl rfl rfl ?_
      refine st_getf (p' := 4) (v := .ref 1) rfl rfl (hG_x ..) rfl ?_
      refine st_iload (p' := 5) rfl rfl rfl ?_
      have c1 : ev_call mt pg 3000 10 90 [.ref 1, .int p0] (hG 40 9999 0 40 9999 0 105 8641) = some (.inl (some (.int 0)), (hG 40 9999 0 40 9999 0 105 8641)) := by
        refine ev_mc rfl ?_ (ev_finx (by first | rfl | decide +kernel) rfl rfl)
        show ev_run (pg 90) (ev_call mt pg 3000 9) 3000 (0, [(0, .ref 1), (1, .int p0)], []) (hG 40 9999 0 40 9999 0 105 8641) = _
        refine st_iload (p' := 1) rfl rfl rfl ?_
        refine st_ifT (p' := 22) rfl (q_lt (by rw [show (0 : Int32).toInt = 0 from by decide]; omega)) rfl ?_
        refine st_push (p' := 23) rfl rfl ?_
        exact st_ret_i rfl
      refine st_inv (p' := 8) (av := [.ref 1, .int p0]) (s' := [.int 0]) rfl rfl c1 rfl rfl (q_recv (hG_c1 ..)) rfl rfl ?_
      refine st_ifF (p' := 11) rfl (by decide +kernel) rfl ?_
      exact st_throw rfl rfl rfl
    refine st_invC (p' := 17) (q := 5) (l' := [(0, .ref 0), (1, .int p0), (2, .int p1), (3, .int p2), (4, .ref 104)]) (av := [.ref 0, .int p0, .int p1, .int p2]) rfl rfl c2 rfl rfl (q_recv (hG_x ..)) (by decide +kernel) rfl ?_
    refine st_push (p' := 18) rfl rfl ?_
    exact st_ret_i rfl
  have c7 : ev_call mt pg 3000 12 237 [.ref 82, .int p0, .int p1, .int p2] (hG 40 9999 0 40 9999 0 106 8647) = some (.inl (some (.int 0)), (hG 40 9999 1 40 9999 0 106 8647)) := by
    refine ev_mc rfl ?_ (ev_finx (by first | rfl | decide +kernel) rfl rfl)
    show ev_run (pg 237) (ev_call mt pg 3000 11) 3000 (0, [(0, .ref 82), (1, .int p0), (2, .int p1), (3, .int p2)], []) (hG 40 9999 0 40 9999 0 106 8647) = _
    refine st_aload (p' := 1) rfl rfl rfl ?_
    refine st_push (p' := 2) rfl rfl ?_
    refine st_putf (p' := 5) (h' := (hG 40 9999 0 40 9999 0 106 8647)) rfl rfl (hG_m ..) rfl (hG_sm ..) ?_
    refine st_aload (p' := 6) rfl rfl rfl ?_
    refine st_iload (p' := 7) rfl rfl rfl ?_
    have c5 : ev_call mt pg 3000 11 233 [.ref 82, .int p0] (hG 40 9999 0 40 9999 0 106 8647) = some (.inl (some (.int 0)), (hG 40 9999 0 40 9999 0 106 8647)) := by
      refine ev_mc rfl ?_ (ev_finx (by first | rfl | decide +kernel) rfl rfl)
      show ev_run (pg 233) (ev_call mt pg 3000 10) 3000 (0, [(0, .ref 82), (1, .int p0)], []) (hG 40 9999 0 40 9999 0 106 8647) = _
      refine st_iload (p' := 1) rfl rfl rfl ?_
      refine st_push (p' := 2) rfl rfl ?_
      refine st_aload (p' := 3) rfl rfl rfl ?_
      refine st_getf (p' := 6) (v := .int 0) rfl rfl (hG_m ..) rfl ?_
      refine st_push (p' := 7) rfl rfl ?_
      refine st_ii (p' := 8) (z := (-1)) rfl rfl (by decide +kernel) ?_
      have c4 : ev_call mt pg 3000 10 230 [.int p0, .int 0, .int (-1)] (hG 40 9999 0 40 9999 0 106 8647) = some (.inl (some (.int 0)), (hG 40 9999 0 40 9999 0 106 8647)) := by
        refine ev_mc rfl ?_ (ev_finx (by first | rfl | decide +kernel) rfl rfl)
        show ev_run (pg 230) (ev_call mt pg 3000 9) 3000 (0, [(0, .int p0), (1, .int 0), (2, .int (-1))], []) (hG 40 9999 0 40 9999 0 106 8647) = _
        refine st_iload (p' := 1) rfl rfl rfl ?_
        refine st_iload (p' := 2) rfl rfl rfl ?_
        refine st_icT (p' := 14) rfl (q_lt (by rw [show (0 : Int32).toInt = 0 from by decide]; omega)) rfl ?_
        refine st_push (p' := 15) rfl rfl ?_
        exact st_ret_i rfl
      refine st_inv (p' := 11) (av := [.int p0, .int 0, .int (-1)]) (s' := [.int 0]) rfl rfl c4 rfl rfl rfl rfl rfl ?_
      exact st_ret_i rfl
    refine st_inv (p' := 10) (av := [.ref 82, .int p0]) (s' := [.int 0]) rfl rfl c5 rfl rfl (q_recv (hG_m ..)) rfl rfl ?_
    refine st_ifF (p' := 13) rfl (by decide +kernel) rfl ?_
    refine st_aload (p' := 14) rfl rfl rfl ?_
    refine st_push (p' := 15) rfl rfl ?_
    have c6 : ev_call mt pg 3000 11 229 [.ref 82, .int 1] (hG 40 9999 0 40 9999 0 106 8647) = some (.inl (some (.int 0)), (hG 40 9999 1 40 9999 0 106 8647)) := by
      refine ev_mc rfl ?_ (ev_finx (by first | rfl | decide +kernel) rfl rfl)
      show ev_run (pg 229) (ev_call mt pg 3000 10) 3000 (0, [(0, .ref 82), (1, .int 1)], []) (hG 40 9999 0 40 9999 0 106 8647) = _
      refine st_aload (p' := 1) rfl rfl rfl ?_
      refine st_iload (p' := 2) rfl rfl rfl ?_
      refine st_putf (p' := 5) (h' := (hG 40 9999 1 40 9999 0 106 8647)) rfl rfl (hG_m ..) rfl (hG_sm ..) ?_
      refine st_push (p' := 6) rfl rfl ?_
      exact st_ret_i rfl
    refine st_inv (p' := 18) (av := [.ref 82, .int 1]) (s' := [.int 0]) rfl rfl c6 rfl rfl (q_recv (hG_m ..)) rfl rfl ?_
    exact st_ret_i rfl
  have c8 : ev_call mt pg 3000 12 228 [.ref 82] (hG 40 9999 1 40 9999 0 106 8647) = some (.inl (some (.int 1)), (hG 40 9999 1 40 9999 0 106 8647)) := by
    refine ev_mc rfl ?_ (ev_finx (by first | rfl | decide +kernel) rfl rfl)
    show ev_run (pg 228) (ev_call mt pg 3000 11) 3000 (0, [(0, .ref 82)], []) (hG 40 9999 1 40 9999 0 106 8647) = _
    refine st_aload (p' := 1) rfl rfl rfl ?_
    refine st_getf (p' := 4) (v := .int 1) rfl rfl (hG_m ..) rfl ?_
    exact st_ret_i rfl
  exact ⟨1, 0, _, _, _, _, c3, hG_m .., c7, hG_m .., c8, (fun h => absurd h (by decide)), Nat.le_of_ble_eq_true rfl, Nat.le_of_ble_eq_true rfl⟩
theorem ag_section_2 (p0 p1 p2 : Int32) (l_p0 : 0 ≤ p0.toInt) : agree 294 237 [.ref 0, .int p0, .int p1, .int p2, .ref 104] [.ref 82, .int p0, .int p1, .int p2] := by
  have c3 : ev_call mt pg 3000 12 294 [.ref 0, .int p0, .int p1, .int p2, .ref 104] (hG 40 9999 0 40 9999 0 105 8641) = some (.inl (some (.int 1)), (hG 40 9999 0 40 9999 0 106 8647)) := by
    refine ev_mc rfl ?_ (ev_finx (by first | rfl | decide +kernel) rfl rfl)
    show ev_run (pg 294) (ev_call mt pg 3000 11) 3000 (0, [(0, .ref 0), (1, .int p0), (2, .int p1), (3, .int p2), (4, .ref 104)], []) (hG 40 9999 0 40 9999 0 105 8641) = _
    refine st_aload (p' := 2) rfl rfl rfl ?_
    refine st_push (p' := 3) rfl rfl ?_
    refine st_aload (p' := 4) rfl rfl rfl ?_
    refine st_iload (p' := 5) rfl rfl rfl ?_
    refine st_iload (p' := 6) rfl rfl rfl ?_
    refine st_iload (p' := 7) rfl rfl rfl ?_
    have c2 : ev_call mt pg 3000 11 162 [.ref 0, .int p0, .int p1, .int p2] (hG 40 9999 0 40 9999 0 105 8641) = some (.inr "java/lang/IndexOutOfBoundsException", (hG 40 9999 0 40 9999 0 106 8647)) := by
      refine ev_mc rfl ?_ (ev_finX (by decide +kernel) rfl rfl)
      show ev_run (pg 162) (ev_call mt pg 3000 10) 3000 (0, [(0, .ref 0), (1, .int p0), (2, .int p1), (3, .int p2)], []) (hG 40 9999 0 40 9999 0 105 8641) = _
      refine st_aload (p' := 1) rfl rfl rfl ?_
      refine st_getf (p' := 4) (v := .ref 1) rfl rfl (hG_x ..) rfl ?_
      refine st_iload (p' := 5) rfl rfl rfl ?_
      have c1 : ev_call mt pg 3000 10 90 [.ref 1, .int p0] (hG 40 9999 0 40 9999 0 105 8641) = some (.inl (some (.int 0)), (hG 40 9999 0 40 9999 0 105 8641)) := by
        refine ev_mc rfl ?_ (ev_finx (by first | rfl | decide +kernel) rfl rfl)
        show ev_run (pg 90) (ev_call mt pg 3000 9) 3000 (0, [(0, .ref 1), (1, .int p0)], []) (hG 40 9999 0 40 9999 0 105 8641) = _
        refine st_iload (p' := 1) rfl rfl rfl ?_
        refine st_ifF (p' := 4) rfl (q_lt' (by rw [show (0 : Int32).toInt = 0 from by decide]; omega)) rfl ?_
        refine st_iload (p' := 5) rfl rfl rfl ?_
        refine st_aload (p' := 6) rfl rfl rfl ?_
        refine st_getf (p' := 9) (v := .int 0) rfl rfl (hG_c1 ..) rfl ?_
        refine st_icT (p' := 22) rfl (q_le (by rw [show (0 : Int32).toInt = 0 from by decide]; omega)) rfl ?_
        refine st_push (p' := 23) rfl rfl ?_
        exact st_ret_i rfl
      refine st_inv (p' := 8) (av := [.ref 1, .int p0]) (s' := [.int 0]) rfl rfl c1 rfl rfl (q_recv (hG_c1 ..)) rfl rfl ?_
      refine st_ifF (p' := 11) rfl (by decide +kernel) rfl ?_
      exact st_throw rfl rfl rfl
    refine st_invC (p' := 17) (q := 5) (l' := [(0, .ref 0), (1, .int p0), (2, .int p1), (3, .int p2), (4, .ref 104)]) (av := [.ref 0, .int p0, .int p1, .int p2]) rfl rfl c2 rfl rfl (q_recv (hG_x ..)) (by decide +kernel) rfl ?_
    refine st_push (p' := 18) rfl rfl ?_
    exact st_ret_i rfl
  have c7 : ev_call mt pg 3000 12 237 [.ref 82, .int p0, .int p1, .int p2] (hG 40 9999 0 40 9999 0 106 8647) = some (.inl (some (.int 0)), (hG 40 9999 1 40 9999 0 106 8647)) := by
    refine ev_mc rfl ?_ (ev_finx (by first | rfl | decide +kernel) rfl rfl)
    show ev_run (pg 237) (ev_call mt pg 3000 11) 3000 (0, [(0, .ref 82), (1, .int p0), (2, .int p1), (3, .int p2)], []) (hG 40 9999 0 40 9999 0 106 8647) = _
    refine st_aload (p' := 1) rfl rfl rfl ?_
    refine st_push (p' := 2) rfl rfl ?_
    refine st_putf (p' := 5) (h' := (hG 40 9999 0 40 9999 0 106 8647)) rfl rfl (hG_m ..) rfl (hG_sm ..) ?_
    refine st_aload (p' := 6) rfl rfl rfl ?_
    refine st_iload (p' := 7) rfl rfl rfl ?_
    have c5 : ev_call mt pg 3000 11 233 [.ref 82, .int p0] (hG 40 9999 0 40 9999 0 106 8647) = some (.inl (some (.int 0)), (hG 40 9999 0 40 9999 0 106 8647)) := by
      refine ev_mc rfl ?_ (ev_finx (by first | rfl | decide +kernel) rfl rfl)
      show ev_run (pg 233) (ev_call mt pg 3000 10) 3000 (0, [(0, .ref 82), (1, .int p0)], []) (hG 40 9999 0 40 9999 0 106 8647) = _
      refine st_iload (p' := 1) rfl rfl rfl ?_
      refine st_push (p' := 2) rfl rfl ?_
      refine st_aload (p' := 3) rfl rfl rfl ?_
      refine st_getf (p' := 6) (v := .int 0) rfl rfl (hG_m ..) rfl ?_
      refine st_push (p' := 7) rfl rfl ?_
      refine st_ii (p' := 8) (z := (-1)) rfl rfl (by decide +kernel) ?_
      have c4 : ev_call mt pg 3000 10 230 [.int p0, .int 0, .int (-1)] (hG 40 9999 0 40 9999 0 106 8647) = some (.inl (some (.int 0)), (hG 40 9999 0 40 9999 0 106 8647)) := by
        refine ev_mc rfl ?_ (ev_finx (by first | rfl | decide +kernel) rfl rfl)
        show ev_run (pg 230) (ev_call mt pg 3000 9) 3000 (0, [(0, .int p0), (1, .int 0), (2, .int (-1))], []) (hG 40 9999 0 40 9999 0 106 8647) = _
        refine st_iload (p' := 1) rfl rfl rfl ?_
        refine st_iload (p' := 2) rfl rfl rfl ?_
        refine st_icF (p' := 5) rfl (q_lt' (by rw [show (0 : Int32).toInt = 0 from by decide]; omega)) rfl ?_
        refine st_iload (p' := 6) rfl rfl rfl ?_
        refine st_iload (p' := 7) rfl rfl rfl ?_
        refine st_icT (p' := 14) rfl (q_lt (by rw [show ((-1) : Int32).toInt = (-1) from by decide]; omega)) rfl ?_
        refine st_push (p' := 15) rfl rfl ?_
        exact st_ret_i rfl
      refine st_inv (p' := 11) (av := [.int p0, .int 0, .int (-1)]) (s' := [.int 0]) rfl rfl c4 rfl rfl rfl rfl rfl ?_
      exact st_ret_i rfl
    refine st_inv (p' := 10) (av := [.ref 82, .int p0]) (s' := [.int 0]) rfl rfl c5 rfl rfl (q_recv (hG_m ..)) rfl rfl ?_
    refine st_ifF (p' := 13) rfl (by decide +kernel) rfl ?_
    refine st_aload (p' := 14) rfl rfl rfl ?_
    refine st_push (p' := 15) rfl rfl ?_
    have c6 : ev_call mt pg 3000 11 229 [.ref 82, .int 1] (hG 40 9999 0 40 9999 0 106 8647) = some (.inl (some (.int 0)), (hG 40 9999 1 40 9999 0 106 8647)) := by
      refine ev_mc rfl ?_ (ev_finx (by first | rfl | decide +kernel) rfl rfl)
      show ev_run (pg 229) (ev_call mt pg 3000 10) 3000 (0, [(0, .ref 82), (1, .int 1)], []) (hG 40 9999 0 40 9999 0 106 8647) = _
      refine st_aload (p' := 1) rfl rfl rfl ?_
      refine st_iload (p' := 2) rfl rfl rfl ?_
      refine st_putf (p' := 5) (h' := (hG 40 9999 1 40 9999 0 106 8647)) rfl rfl (hG_m ..) rfl (hG_sm ..) ?_
      refine st_push (p' := 6) rfl rfl ?_
      exact st_ret_i rfl
    refine st_inv (p' := 18) (av := [.ref 82, .int 1]) (s' := [.int 0]) rfl rfl c6 rfl rfl (q_recv (hG_m ..)) rfl rfl ?_
    exact st_ret_i rfl
  have c8 : ev_call mt pg 3000 12 228 [.ref 82] (hG 40 9999 1 40 9999 0 106 8647) = some (.inl (some (.int 1)), (hG 40 9999 1 40 9999 0 106 8647)) := by
    refine ev_mc rfl ?_ (ev_finx (by first | rfl | decide +kernel) rfl rfl)
    show ev_run (pg 228) (ev_call mt pg 3000 11) 3000 (0, [(0, .ref 82)], []) (hG 40 9999 1 40 9999 0 106 8647) = _
    refine st_aload (p' := 1) rfl rfl rfl ?_
    refine st_getf (p' := 4) (v := .int 1) rfl rfl (hG_m ..) rfl ?_
    exact st_ret_i rfl
  exact ⟨1, 0, _, _, _, _, c3, hG_m .., c7, hG_m .., c8, (fun h => absurd h (by decide)), Nat.le_of_ble_eq_true rfl, Nat.le_of_ble_eq_true rfl⟩
theorem ag_section (p0 p1 p2 : Int32) (h_p2 : p2 = 0 ∨ p2 = 1) : agree 294 237 [.ref 0, .int p0, .int p1, .int p2, .ref 104] [.ref 82, .int p0, .int p1, .int p2] := by
  rcases Int.lt_or_le p0.toInt 0 with h | h
  · exact ag_section_1 p0 p1 p2 (by omega)
  · exact ag_section_2 p0 p1 p2 (by omega)
theorem hG_c11 (a b c d e : Int32) (o : Int64) (k n : Nat) : (hG a b c d e o k n).1[11]? = some (.inr 8, [.ref 12, .ref 13, .ref 14, .ref 15, .ref 16, .ref 17, .ref 18, .ref 19, .int 0]) := rfl
theorem ag_fill_1 (p0 p1 : Int32) (u_p0 : p0.toInt ≤ -1) : agree 295 239 [.ref 0, .int p0, .int p1, .ref 104] [.ref 82, .int p0, .int p1] := by
  have c3 : ev_call mt pg 3000 12 295 [.ref 0, .int p0, .int p1, .ref 104] (hG 40 9999 0 40 9999 0 105 8641) = some (.inl (some (.int 1)), (hG 40 9999 0 40 9999 0 106 8647)) := by
    refine ev_mc rfl ?_ (ev_finx (by first | rfl | decide +kernel) rfl rfl)
    show ev_run (pg 295) (ev_call mt pg 3000 11) 3000 (0, [(0, .ref 0), (1, .int p0), (2, .int p1), (3, .ref 104)], []) (hG 40 9999 0 40 9999 0 105 8641) = _
    refine st_aload (p' := 1) rfl rfl rfl ?_
    refine st_push (p' := 2) rfl rfl ?_
    refine st_aload (p' := 3) rfl rfl rfl ?_
    refine st_iload (p' := 4) rfl rfl rfl ?_
    refine st_iload (p' := 5) rfl rfl rfl ?_
    have c2 : ev_call mt pg 3000 11 163 [.ref 0, .int p0, .int p1] (hG 40 9999 0 40 9999 0 105 8641) = some (.inr "java/lang/IndexOutOfBoundsException", (hG 40 9999 0 40 9999 0 106 8647)) := by
      refine ev_mc rfl ?_ (ev_finX (by decide +kernel) rfl rfl)
      show ev_run (pg 163) (ev_call mt pg 3000 10) 3000 (0, [(0, .ref 0), (1, .int p0), (2, .int p1)], []) (hG 40 9999 0 40 9999 0 105 8641) = _
      refine st_aload (p' := 1) rfl rfl rfl ?_
      refine st_getf (p' := 4) (v := .ref 11) rfl rfl (hG_x ..) rfl ?_
      refine st_iload (p' := 5) rfl rfl rfl ?_
      have c1 : ev_call mt pg 3000 10 121 [.ref 11, .int p0] (hG 40 9999 0 40 9999 0 105 8641) = some (.inl (some (.int 0)), (hG 40 9999 0 40 9999 0 105 8641)) := by
        refine ev_mc rfl ?_ (ev_finx (by first | rfl | decide +kernel) rfl rfl)
        show ev_run (pg 121) (ev_call mt pg 3000 9) 3000 (0, [(0, .ref 11), (1, .int p0)], []) (hG 40 9999 0 40 9999 0 105 8641) = _
        refine st_iload (p' := 1) rfl rfl rfl ?_
        refine st_ifT (p' := 22) rfl (q_lt (by rw [show (0 : Int32).toInt = 0 from by decide]; omega)) rfl ?_
        refine st_push (p' := 23) rfl rfl ?_
        exact st_ret_i rfl
      refine st_inv (p' := 8) (av := [.ref 11, .int p0]) (s' := [.int 0]) rfl rfl c1 rfl rfl (q_recv (hG_c11 ..)) rfl rfl ?_
      refine st_ifF (p' := 11) rfl (by decide +kernel) rfl ?_
      exact st_throw rfl rfl rfl
    refine st_invC (p' := 15) (q := 4) (l' := [(0, .ref 0), (1, .int p0), (2, .int p1), (3, .ref 104)]) (av := [.ref 0, .int p0, .int p1]) rfl rfl c2 rfl rfl (q_recv (hG_x ..)) (by decide +kernel) rfl ?_
    refine st_push (p' := 16) rfl rfl ?_
    exact st_ret_i rfl
  have c7 : ev_call mt pg 3000 12 239 [.ref 82, .int p0, .int p1] (hG 40 9999 0 40 9999 0 106 8647) = some (.inl (some (.int 0)), (hG 40 9999 1 40 9999 0 106 8647)) := by
    refine ev_mc rfl ?_ (ev_finx (by first | rfl | decide +kernel) rfl rfl)
    show ev_run (pg 239) (ev_call mt pg 3000 11) 3000 (0, [(0, .ref 82), (1, .int p0), (2, .int p1)], []) (hG 40 9999 0 40 9999 0 106 8647) = _
    refine st_aload (p' := 1) rfl rfl rfl ?_
    refine st_push (p' := 2) rfl rfl ?_
    refine st_putf (p' := 5) (h' := (hG 40 9999 0 40 9999 0 106 8647)) rfl rfl (hG_m ..) rfl (hG_sm ..) ?_
    refine st_aload (p' := 6) rfl rfl rfl ?_
    refine st_iload (p' := 7) rfl rfl rfl ?_
    have c5 : ev_call mt pg 3000 11 234 [.ref 82, .int p0] (hG 40 9999 0 40 9999 0 106 8647) = some (.inl (some (.int 0)), (hG 40 9999 0 40 9999 0 106 8647)) := by
      refine ev_mc rfl ?_ (ev_finx (by first | rfl | decide +kernel) rfl rfl)
      show ev_run (pg 234) (ev_call mt pg 3000 10) 3000 (0, [(0, .ref 82), (1, .int p0)], []) (hG 40 9999 0 40 9999 0 106 8647) = _
      refine st_iload (p' := 1) rfl rfl rfl ?_
      refine st_push (p' := 2) rfl rfl ?_
      refine st_aload (p' := 3) rfl rfl rfl ?_
      refine st_getf (p' := 6) (v := .int 0) rfl rfl (hG_m ..) rfl ?_
      refine st_push (p' := 7) rfl rfl ?_
      refine st_ii (p' := 8) (z := (-1)) rfl rfl (by decide +kernel) ?_
      have c4 : ev_call mt pg 3000 10 230 [.int p0, .int 0, .int (-1)] (hG 40 9999 0 40 9999 0 106 8647) = some (.inl (some (.int 0)), (hG 40 9999 0 40 9999 0 106 8647)) := by
        refine ev_mc rfl ?_ (ev_finx (by first | rfl | decide +kernel) rfl rfl)
        show ev_run (pg 230) (ev_call mt pg 3000 9) 3000 (0, [(0, .int p0), (1, .int 0), (2, .int (-1))], []) (hG 40 9999 0 40 9999 0 106 8647) = _
        refine st_iload (p' := 1) rfl rfl rfl ?_
        refine st_iload (p' := 2) rfl rfl rfl ?_
        refine st_icT (p' := 14) rfl (q_lt (by rw [show (0 : Int32).toInt = 0 from by decide]; omega)) rfl ?_
        refine st_push (p' := 15) rfl rfl ?_
        exact st_ret_i rfl
      refine st_inv (p' := 11) (av := [.int p0, .int 0, .int (-1)]) (s' := [.int 0]) rfl rfl c4 rfl rfl rfl rfl rfl ?_
      exact st_ret_i rfl
    refine st_inv (p' := 10) (av := [.ref 82, .int p0]) (s' := [.int 0]) rfl rfl c5 rfl rfl (q_recv (hG_m ..)) rfl rfl ?_
    refine st_ifF (p' := 13) rfl (by decide +kernel) rfl ?_
    refine st_aload (p' := 14) rfl rfl rfl ?_
    refine st_push (p' := 15) rfl rfl ?_
    have c6 : ev_call mt pg 3000 11 229 [.ref 82, .int 1] (hG 40 9999 0 40 9999 0 106 8647) = some (.inl (some (.int 0)), (hG 40 9999 1 40 9999 0 106 8647)) := by
      refine ev_mc rfl ?_ (ev_finx (by first | rfl | decide +kernel) rfl rfl)
      show ev_run (pg 229) (ev_call mt pg 3000 10) 3000 (0, [(0, .ref 82), (1, .int 1)], []) (hG 40 9999 0 40 9999 0 106 8647) = _
      refine st_aload (p' := 1) rfl rfl rfl ?_
      refine st_iload (p' := 2) rfl rfl rfl ?_
      refine st_putf (p' := 5) (h' := (hG 40 9999 1 40 9999 0 106 8647)) rfl rfl (hG_m ..) rfl (hG_sm ..) ?_
      refine st_push (p' := 6) rfl rfl ?_
      exact st_ret_i rfl
    refine st_inv (p' := 18) (av := [.ref 82, .int 1]) (s' := [.int 0]) rfl rfl c6 rfl rfl (q_recv (hG_m ..)) rfl rfl ?_
    exact st_ret_i rfl
  have c8 : ev_call mt pg 3000 12 228 [.ref 82] (hG 40 9999 1 40 9999 0 106 8647) = some (.inl (some (.int 1)), (hG 40 9999 1 40 9999 0 106 8647)) := by
    refine ev_mc rfl ?_ (ev_finx (by first | rfl | decide +kernel) rfl rfl)
    show ev_run (pg 228) (ev_call mt pg 3000 11) 3000 (0, [(0, .ref 82)], []) (hG 40 9999 1 40 9999 0 106 8647) = _
    refine st_aload (p' := 1) rfl rfl rfl ?_
    refine st_getf (p' := 4) (v := .int 1) rfl rfl (hG_m ..) rfl ?_
    exact st_ret_i rfl
  exact ⟨1, 0, _, _, _, _, c3, hG_m .., c7, hG_m .., c8, (fun h => absurd h (by decide)), Nat.le_of_ble_eq_true rfl, Nat.le_of_ble_eq_true rfl⟩
theorem ag_fill_2 (p0 p1 : Int32) (l_p0 : 0 ≤ p0.toInt) : agree 295 239 [.ref 0, .int p0, .int p1, .ref 104] [.ref 82, .int p0, .int p1] := by
  have c3 : ev_call mt pg 3000 12 295 [.ref 0, .int p0, .int p1, .ref 104] (hG 40 9999 0 40 9999 0 105 8641) = some (.inl (some (.int 1)), (hG 40 9999 0 40 9999 0 106 8647)) := by
    refine ev_mc rfl ?_ (ev_finx (by first | rfl | decide +kernel) rfl rfl)
    show ev_run (pg 295) (ev_call mt pg 3000 11) 3000 (0, [(0, .ref 0), (1, .int p0), (2, .int p1), (3, .ref 104)], []) (hG 40 9999 0 40 9999 0 105 8641) = _
    refine st_aload (p' := 1) rfl rfl rfl ?_
    refine st_push (p' := 2) rfl rfl ?_
    refine st_aload (p' := 3) rfl rfl rfl ?_
    refine st_iload (p' := 4) rfl rfl rfl ?_
    refine st_iload (p' := 5) rfl rfl rfl ?_
    have c2 : ev_call mt pg 3000 11 163 [.ref 0, .int p0, .int p1] (hG 40 9999 0 40 9999 0 105 8641) = some (.inr "java/lang/IndexOutOfBoundsException", (hG 40 9999 0 40 9999 0 106 8647)) := by
      refine ev_mc rfl ?_ (ev_finX (by decide +kernel) rfl rfl)
      show ev_run (pg 163) (ev_call mt pg 3000 10) 3000 (0, [(0, .ref 0), (1, .int p0), (2, .int p1)], []) (hG 40 9999 0 40 9999 0 105 8641) = _
      refine st_aload (p' := 1) rfl rfl rfl ?_
      refine st_getf (p' := 4) (v := .ref 11) rfl rfl (hG_x ..) rfl ?_
      refine st_iload (p' := 5) rfl rfl rfl ?_
      have c1 : ev_call mt pg 3000 10 121 [.ref 11, .int p0] (hG 40 9999 0 40 9999 0 105 8641) = some (.inl (some (.int 0)), (hG 40 9999 0 40 9999 0 105 8641)) := by
        refine ev_mc rfl ?_ (ev_finx (by first | rfl | decide +kernel) rfl rfl)
        show ev_run (pg 121) (ev_call mt pg 3000 9) 3000 (0, [(0, .ref 11), (1, .int p0)], []) (hG 40 9999 0 40 9999 0 105 8641) = _
        refine st_iload (p' := 1) rfl rfl rfl ?_
        refine st_ifF (p' := 4) rfl (q_lt' (by rw [show (0 : Int32).toInt = 0 from by decide]; omega)) rfl ?_
        refine st_iload (p' := 5) rfl rfl rfl ?_
        refine st_aload (p' := 6) rfl rfl rfl ?_
        refine st_getf (p' := 9) (v := .int 0) rfl rfl (hG_c11 ..) rfl ?_
        refine st_icT (p' := 22) rfl (q_le (by rw [show (0 : Int32).toInt = 0 from by decide]; omega)) rfl ?_
        refine st_push (p' := 23) rfl rfl ?_
        exact st_ret_i rfl
      refine st_inv (p' := 8) (av := [.ref 11, .int p0]) (s' := [.int 0]) rfl rfl c1 rfl rfl (q_recv (hG_c11 ..)) rfl rfl ?_
      refine st_ifF (p' := 11) rfl (by decide +kernel) rfl ?_
      exact st_throw rfl rfl rfl
    refine st_invC (p' := 15) (q := 4) (l' := [(0, .ref 0), (1, .int p0), (2, .int p1), (3, .ref 104)]) (av := [.ref 0, .int p0, .int p1]) rfl rfl c2 rfl rfl (q_recv (hG_x ..)) (by decide +kernel) rfl ?_
    refine st_push (p' := 16) rfl rfl ?_
    exact st_ret_i rfl
  have c7 : ev_call mt pg 3000 12 239 [.ref 82, .int p0, .int p1] (hG 40 9999 0 40 9999 0 106 8647) = some (.inl (some (.int 0)), (hG 40 9999 1 40 9999 0 106 8647)) := by
    refine ev_mc rfl ?_ (ev_finx (by first | rfl | decide +kernel) rfl rfl)
    show ev_run (pg 239) (ev_call mt pg 3000 11) 3000 (0, [(0, .ref 82), (1, .int p0), (2, .int p1)], []) (hG 40 9999 0 40 9999 0 106 8647) = _
    refine st_aload (p' := 1) rfl rfl rfl ?_
    refine st_push (p' := 2) rfl rfl ?_
    refine st_putf (p' := 5) (h' := (hG 40 9999 0 40 9999 0 106 8647)) rfl rfl (hG_m ..) rfl (hG_sm ..) ?_
    refine st_aload (p' := 6) rfl rfl rfl ?_
    refine st_iload (p' := 7) rfl rfl rfl ?_
    have c5 : ev_call mt pg 3000 11 234 [.ref 82, .int p0] (hG 40 9999 0 40 9999 0 106 8647) = some (.inl (some (.int 0)), (hG 40 9999 0 40 9999 0 106 8647)) := by
      refine ev_mc rfl ?_ (ev_finx (by first | rfl | decide +kernel) rfl rfl)
      show ev_run (pg 234) (ev_call mt pg 3000 10) 3000 (0, [(0, .ref 82), (1, .int p0)], []) (hG 40 9999 0 40 9999 0 106 8647) = _
      refine st_iload (p' := 1) rfl rfl rfl ?_
      refine st_push (p' := 2) rfl rfl ?_
      refine st_aload (p' := 3) rfl rfl rfl ?_
      refine st_getf (p' := 6) (v := .int 0) rfl rfl (hG_m ..) rfl ?_
      refine st_push (p' := 7) rfl rfl ?_
      refine st_ii (p' := 8) (z := (-1)) rfl rfl (by decide +kernel) ?_
      have c4 : ev_call mt pg 3000 10 230 [.int p0, .int 0, .int (-1)] (hG 40 9999 0 40 9999 0 106 8647) = some (.inl (some (.int 0)), (hG 40 9999 0 40 9999 0 106 8647)) := by
        refine ev_mc rfl ?_ (ev_finx (by first | rfl | decide +kernel) rfl rfl)
        show ev_run (pg 230) (ev_call mt pg 3000 9) 3000 (0, [(0, .int p0), (1, .int 0), (2, .int (-1))], []) (hG 40 9999 0 40 9999 0 106 8647) = _
        refine st_iload (p' := 1) rfl rfl rfl ?_
        refine st_iload (p' := 2) rfl rfl rfl ?_
        refine st_icF (p' := 5) rfl (q_lt' (by rw [show (0 : Int32).toInt = 0 from by decide]; omega)) rfl ?_
        refine st_iload (p' := 6) rfl rfl rfl ?_
        refine st_iload (p' := 7) rfl rfl rfl ?_
        refine st_icT (p' := 14) rfl (q_lt (by rw [show ((-1) : Int32).toInt = (-1) from by decide]; omega)) rfl ?_
        refine st_push (p' := 15) rfl rfl ?_
        exact st_ret_i rfl
      refine st_inv (p' := 11) (av := [.int p0, .int 0, .int (-1)]) (s' := [.int 0]) rfl rfl c4 rfl rfl rfl rfl rfl ?_
      exact st_ret_i rfl
    refine st_inv (p' := 10) (av := [.ref 82, .int p0]) (s' := [.int 0]) rfl rfl c5 rfl rfl (q_recv (hG_m ..)) rfl rfl ?_
    refine st_ifF (p' := 13) rfl (by decide +kernel) rfl ?_
    refine st_aload (p' := 14) rfl rfl rfl ?_
    refine st_push (p' := 15) rfl rfl ?_
    have c6 : ev_call mt pg 3000 11 229 [.ref 82, .int 1] (hG 40 9999 0 40 9999 0 106 8647) = some (.inl (some (.int 0)), (hG 40 9999 1 40 9999 0 106 8647)) := by
      refine ev_mc rfl ?_ (ev_finx (by first | rfl | decide +kernel) rfl rfl)
      show ev_run (pg 229) (ev_call mt pg 3000 10) 3000 (0, [(0, .ref 82), (1, .int 1)], []) (hG 40 9999 0 40 9999 0 106 8647) = _
      refine st_aload (p' := 1) rfl rfl rfl ?_
      refine st_iload (p' := 2) rfl rfl rfl ?_
      refine st_putf (p' := 5) (h' := (hG 40 9999 1 40 9999 0 106 8647)) rfl rfl (hG_m ..) rfl (hG_sm ..) ?_
      refine st_push (p' := 6) rfl rfl ?_
      exact st_ret_i rfl
    refine st_inv (p' := 18) (av := [.ref 82, .int 1]) (s' := [.int 0]) rfl rfl c6 rfl rfl (q_recv (hG_m ..)) rfl rfl ?_
    exact st_ret_i rfl
  have c8 : ev_call mt pg 3000 12 228 [.ref 82] (hG 40 9999 1 40 9999 0 106 8647) = some (.inl (some (.int 1)), (hG 40 9999 1 40 9999 0 106 8647)) := by
    refine ev_mc rfl ?_ (ev_finx (by first | rfl | decide +kernel) rfl rfl)
    show ev_run (pg 228) (ev_call mt pg 3000 11) 3000 (0, [(0, .ref 82)], []) (hG 40 9999 1 40 9999 0 106 8647) = _
    refine st_aload (p' := 1) rfl rfl rfl ?_
    refine st_getf (p' := 4) (v := .int 1) rfl rfl (hG_m ..) rfl ?_
    exact st_ret_i rfl
  exact ⟨1, 0, _, _, _, _, c3, hG_m .., c7, hG_m .., c8, (fun h => absurd h (by decide)), Nat.le_of_ble_eq_true rfl, Nat.le_of_ble_eq_true rfl⟩
theorem ag_fill (p0 p1 : Int32)  : agree 295 239 [.ref 0, .int p0, .int p1, .ref 104] [.ref 82, .int p0, .int p1] := by
  rcases Int.lt_or_le p0.toInt 0 with h | h
  · exact ag_fill_1 p0 p1 (by omega)
  · exact ag_fill_2 p0 p1 (by omega)
theorem ag_word_1 (p0 p1 p2 p3 : Int32) (u_p0 : p0.toInt ≤ -1) : agree 296 240 [.ref 0, .int p0, .int p1, .int p2, .int p3, .ref 104] [.ref 82, .int p0, .int p1, .int p2, .int p3] := by
  have c3 : ev_call mt pg 3000 12 296 [.ref 0, .int p0, .int p1, .int p2, .int p3, .ref 104] (hG 40 9999 0 40 9999 0 105 8641) = some (.inl (some (.int 1)), (hG 40 9999 0 40 9999 0 106 8647)) := by
    refine ev_mc rfl ?_ (ev_finx (by first | rfl | decide +kernel) rfl rfl)
    show ev_run (pg 296) (ev_call mt pg 3000 11) 3000 (0, [(0, .ref 0), (1, .int p0), (2, .int p1), (3, .int p2), (4, .int p3), (5, .ref 104)], []) (hG 40 9999 0 40 9999 0 105 8641) = _
    refine st_aload (p' := 2) rfl rfl rfl ?_
    refine st_push (p' := 3) rfl rfl ?_
    refine st_aload (p' := 4) rfl rfl rfl ?_
    refine st_iload (p' := 5) rfl rfl rfl ?_
    refine st_iload (p' := 6) rfl rfl rfl ?_
    refine st_iload (p' := 7) rfl rfl rfl ?_
    refine st_iload (p' := 9) rfl rfl rfl ?_
    have c2 : ev_call mt pg 3000 11 164 [.ref 0, .int p0, .int p1, .int p2, .int p3] (hG 40 9999 0 40 9999 0 105 8641) = some (.inr "java/lang/IndexOutOfBoundsException", (hG 40 9999 0 40 9999 0 106 8647)) := by
      refine ev_mc rfl ?_ (ev_finX (by decide +kernel) rfl rfl)
      show ev_run (pg 164) (ev_call mt pg 3000 10) 3000 (0, [(0, .ref 0), (1, .int p0), (2, .int p1), (3, .int p2), (4, .int p3)], []) (hG 40 9999 0 40 9999 0 105 8641) = _
      refine st_aload (p' := 1) rfl rfl rfl ?_
      refine st_getf (p' := 4) (v := .ref 11) rfl rfl (hG_x ..) rfl ?_
      refine st_iload (p' := 5) rfl rfl rfl ?_
      have c1 : ev_call mt pg 3000 10 121 [.ref 11, .int p0] (hG 40 9999 0 40 9999 0 105 8641) = some (.inl (some (.int 0)), (hG 40 9999 0 40 9999 0 105 8641)) := by
        refine ev_mc rfl ?_ (ev_finx (by first | rfl | decide +kernel) rfl rfl)
        show ev_run (pg 121) (ev_call mt pg 3000 9) 3000 (0, [(0, .ref 11), (1, .int p0)], []) (hG 40 9999 0 40 9999 0 105 8641) = _
        refine st_iload (p' := 1) rfl rfl rfl ?_
        refine st_ifT (p' := 22) rfl (q_lt (by rw [show (0 : Int32).toInt = 0 from by decide]; omega)) rfl ?_
        refine st_push (p' := 23) rfl rfl ?_
        exact st_ret_i rfl
      refine st_inv (p' := 8) (av := [.ref 11, .int p0]) (s' := [.int 0]) rfl rfl c1 rfl rfl (q_recv (hG_c11 ..)) rfl rfl ?_
      refine st_ifF (p' := 11) rfl (by decide +kernel) rfl ?_
      exact st_throw rfl rfl rfl
    refine st_invC (p' := 19) (q := 6) (l' := [(0, .ref 0), (1, .int p0), (2, .int p1), (3, .int p2), (4, .int p3), (5, .ref 104)]) (av := [.ref 0, .int p0, .int p1, .int p2, .int p3]) rfl rfl c2 rfl rfl (q_recv (hG_x ..)) (by decide +kernel) rfl ?_
    refine st_push (p' := 20) rfl rfl ?_
    exact st_ret_i rfl
  have c7 : ev_call mt pg 3000 12 240 [.ref 82, .int p0, .int p1, .int p2, .int p3] (hG 40 9999 0 40 9999 0 106 8647) = some (.inl (some (.int 0)), (hG 40 9999 1 40 9999 0 106 8647)) := by
    refine ev_mc rfl ?_ (ev_finx (by first | rfl | decide +kernel) rfl rfl)
    show ev_run (pg 240) (ev_call mt pg 3000 11) 3000 (0, [(0, .ref 82), (1, .int p0), (2, .int p1), (3, .int p2), (4, .int p3)], []) (hG 40 9999 0 40 9999 0 106 8647) = _
    refine st_aload (p' := 1) rfl rfl rfl ?_
    refine st_push (p' := 2) rfl rfl ?_
    refine st_putf (p' := 5) (h' := (hG 40 9999 0 40 9999 0 106 8647)) rfl rfl (hG_m ..) rfl (hG_sm ..) ?_
    refine st_aload (p' := 6) rfl rfl rfl ?_
    refine st_iload (p' := 7) rfl rfl rfl ?_
    have c5 : ev_call mt pg 3000 11 234 [.ref 82, .int p0] (hG 40 9999 0 40 9999 0 106 8647) = some (.inl (some (.int 0)), (hG 40 9999 0 40 9999 0 106 8647)) := by
      refine ev_mc rfl ?_ (ev_finx (by first | rfl | decide +kernel) rfl rfl)
      show ev_run (pg 234) (ev_call mt pg 3000 10) 3000 (0, [(0, .ref 82), (1, .int p0)], []) (hG 40 9999 0 40 9999 0 106 8647) = _
      refine st_iload (p' := 1) rfl rfl rfl ?_
      refine st_push (p' := 2) rfl rfl ?_
      refine st_aload (p' := 3) rfl rfl rfl ?_
      refine st_getf (p' := 6) (v := .int 0) rfl rfl (hG_m ..) rfl ?_
      refine st_push (p' := 7) rfl rfl ?_
      refine st_ii (p' := 8) (z := (-1)) rfl rfl (by decide +kernel) ?_
      have c4 : ev_call mt pg 3000 10 230 [.int p0, .int 0, .int (-1)] (hG 40 9999 0 40 9999 0 106 8647) = some (.inl (some (.int 0)), (hG 40 9999 0 40 9999 0 106 8647)) := by
        refine ev_mc rfl ?_ (ev_finx (by first | rfl | decide +kernel) rfl rfl)
        show ev_run (pg 230) (ev_call mt pg 3000 9) 3000 (0, [(0, .int p0), (1, .int 0), (2, .int (-1))], []) (hG 40 9999 0 40 9999 0 106 8647) = _
        refine st_iload (p' := 1) rfl rfl rfl ?_
        refine st_iload (p' := 2) rfl rfl rfl ?_
        refine st_icT (p' := 14) rfl (q_lt (by rw [show (0 : Int32).toInt = 0 from by decide]; omega)) rfl ?_
        refine st_push (p' := 15) rfl rfl ?_
        exact st_ret_i rfl
      refine st_inv (p' := 11) (av := [.int p0, .int 0, .int (-1)]) (s' := [.int 0]) rfl rfl c4 rfl rfl rfl rfl rfl ?_
      exact st_ret_i rfl
    refine st_inv (p' := 10) (av := [.ref 82, .int p0]) (s' := [.int 0]) rfl rfl c5 rfl rfl (q_recv (hG_m ..)) rfl rfl ?_
    refine st_ifF (p' := 13) rfl (by decide +kernel) rfl ?_
    refine st_aload (p' := 14) rfl rfl rfl ?_
    refine st_push (p' := 15) rfl rfl ?_
    have c6 : ev_call mt pg 3000 11 229 [.ref 82, .int 1] (hG 40 9999 0 40 9999 0 106 8647) = some (.inl (some (.int 0)), (hG 40 9999 1 40 9999 0 106 8647)) := by
      refine ev_mc rfl ?_ (ev_finx (by first | rfl | decide +kernel) rfl rfl)
      show ev_run (pg 229) (ev_call mt pg 3000 10) 3000 (0, [(0, .ref 82), (1, .int 1)], []) (hG 40 9999 0 40 9999 0 106 8647) = _
      refine st_aload (p' := 1) rfl rfl rfl ?_
      refine st_iload (p' := 2) rfl rfl rfl ?_
      refine st_putf (p' := 5) (h' := (hG 40 9999 1 40 9999 0 106 8647)) rfl rfl (hG_m ..) rfl (hG_sm ..) ?_
      refine st_push (p' := 6) rfl rfl ?_
      exact st_ret_i rfl
    refine st_inv (p' := 18) (av := [.ref 82, .int 1]) (s' := [.int 0]) rfl rfl c6 rfl rfl (q_recv (hG_m ..)) rfl rfl ?_
    exact st_ret_i rfl
  have c8 : ev_call mt pg 3000 12 228 [.ref 82] (hG 40 9999 1 40 9999 0 106 8647) = some (.inl (some (.int 1)), (hG 40 9999 1 40 9999 0 106 8647)) := by
    refine ev_mc rfl ?_ (ev_finx (by first | rfl | decide +kernel) rfl rfl)
    show ev_run (pg 228) (ev_call mt pg 3000 11) 3000 (0, [(0, .ref 82)], []) (hG 40 9999 1 40 9999 0 106 8647) = _
    refine st_aload (p' := 1) rfl rfl rfl ?_
    refine st_getf (p' := 4) (v := .int 1) rfl rfl (hG_m ..) rfl ?_
    exact st_ret_i rfl
  exact ⟨1, 0, _, _, _, _, c3, hG_m .., c7, hG_m .., c8, (fun h => absurd h (by decide)), Nat.le_of_ble_eq_true rfl, Nat.le_of_ble_eq_true rfl⟩
theorem ag_word_2 (p0 p1 p2 p3 : Int32) (l_p0 : 0 ≤ p0.toInt) : agree 296 240 [.ref 0, .int p0, .int p1, .int p2, .int p3, .ref 104] [.ref 82, .int p0, .int p1, .int p2, .int p3] := by
  have c3 : ev_call mt pg 3000 12 296 [.ref 0, .int p0, .int p1, .int p2, .int p3, .ref 104] (hG 40 9999 0 40 9999 0 105 8641) = some (.inl (some (.int 1)), (hG 40 9999 0 40 9999 0 106 8647)) := by
    refine ev_mc rfl ?_ (ev_finx (by first | rfl | decide +kernel) rfl rfl)
    show ev_run (pg 296) (ev_call mt pg 3000 11) 3000 (0, [(0, .ref 0), (1, .int p0), (2, .int p1), (3, .int p2), (4, .int p3), (5, .ref 104)], []) (hG 40 9999 0 40 9999 0 105 8641) = _
    refine st_aload (p' := 2) rfl rfl rfl ?_
    refine st_push (p' := 3) rfl rfl ?_
    refine st_aload (p' := 4) rfl rfl rfl ?_
    refine st_iload (p' := 5) rfl rfl rfl ?_
    refine st_iload (p' := 6) rfl rfl rfl ?_
    refine st_iload (p' := 7) rfl rfl rfl ?_
    refine st_iload (p' := 9) rfl rfl rfl ?_
    have c2 : ev_call mt pg 3000 11 164 [.ref 0, .int p0, .int p1, .int p2, .int p3] (hG 40 9999 0 40 9999 0 105 8641) = some (.inr "java/lang/IndexOutOfBoundsException", (hG 40 9999 0 40 9999 0 106 8647)) := by
      refine ev_mc rfl ?_ (ev_finX (by decide +kernel) rfl rfl)
      show ev_run (pg 164) (ev_call mt pg 3000 10) 3000 (0, [(0, .ref 0), (1, .int p0), (2, .int p1), (3, .int p2), (4, .int p3)], []) (hG 40 9999 0 40 9999 0 105 8641) = _
      refine st_aload (p' := 1) rfl rfl rfl ?_
      refine st_getf (p' := 4) (v := .ref 11) rfl rfl (hG_x ..) rfl ?_
      refine st_iload (p' := 5) rfl rfl rfl ?_
      have c1 : ev_call mt pg 3000 10 121 [.ref 11, .int p0] (hG 40 9999 0 40 9999 0 105 8641) = some (.inl (some (.int 0)), (hG 40 9999 0 40 9999 0 105 8641)) := by
        refine ev_mc rfl ?_ (ev_finx (by first | rfl | decide +kernel) rfl rfl)
        show ev_run (pg 121) (ev_call mt pg 3000 9) 3000 (0, [(0, .ref 11), (1, .int p0)], []) (hG 40 9999 0 40 9999 0 105 8641) = _
        refine st_iload (p' := 1) rfl rfl rfl ?_
        refine st_ifF (p' := 4) rfl (q_lt' (by rw [show (0 : Int32).toInt = 0 from by decide]; omega)) rfl ?_
        refine st_iload (p' := 5) rfl rfl rfl ?_
        refine st_aload (p' := 6) rfl rfl rfl ?_
        refine st_getf (p' := 9) (v := .int 0) rfl rfl (hG_c11 ..) rfl ?_
        refine st_icT (p' := 22) rfl (q_le (by rw [show (0 : Int32).toInt = 0 from by decide]; omega)) rfl ?_
        refine st_push (p' := 23) rfl rfl ?_
        exact st_ret_i rfl
      refine st_inv (p' := 8) (av := [.ref 11, .int p0]) (s' := [.int 0]) rfl rfl c1 rfl rfl (q_recv (hG_c11 ..)) rfl rfl ?_
      refine st_ifF (p' := 11) rfl (by decide +kernel) rfl ?_
      exact st_throw rfl rfl rfl
    refine st_invC (p' := 19) (q := 6) (l' := [(0, .ref 0), (1, .int p0), (2, .int p1), (3, .int p2), (4, .int p3), (5, .ref 104)]) (av := [.ref 0, .int p0, .int p1, .int p2, .int p3]) rfl rfl c2 rfl rfl (q_recv (hG_x ..)) (by decide +kernel) rfl ?_
    refine st_push (p' := 20) rfl rfl ?_
    exact st_ret_i rfl
  have c7 : ev_call mt pg 3000 12 240 [.ref 82, .int p0, .int p1, .int p2, .int p3] (hG 40 9999 0 40 9999 0 106 8647) = some (.inl (some (.int 0)), (hG 40 9999 1 40 9999 0 106 8647)) := by
    refine ev_mc rfl ?_ (ev_finx (by first | rfl | decide +kernel) rfl rfl)
    show ev_run (pg 240) (ev_call mt pg 3000 11) 3000 (0, [(0, .ref 82), (1, .int p0), (2, .int p1), (3, .int p2), (4, .int p3)], []) (hG 40 9999 0 40 9999 0 106 8647) = _
    refine st_aload (p' := 1) rfl rfl rfl ?_
    refine st_push (p' := 2) rfl rfl ?_
    refine st_putf (p' := 5) (h' := (hG 40 9999 0 40 9999 0 106 8647)) rfl rfl (hG_m ..) rfl (hG_sm ..) ?_
    refine st_aload (p' := 6) rfl rfl rfl ?_
    refine st_iload (p' := 7) rfl rfl rfl ?_
    have c5 : ev_call mt pg 3000 11 234 [.ref 82, .int p0] (hG 40 9999 0 40 9999 0 106 8647) = some (.inl (some (.int 0)), (hG 40 9999 0 40 9999 0 106 8647)) := by
      refine ev_mc rfl ?_ (ev_finx (by first | rfl | decide +kernel) rfl rfl)
      show ev_run (pg 234) (ev_call mt pg 3000 10) 3000 (0, [(0, .ref 82), (1, .int p0)], []) (hG 40 9999 0 40 9999 0 106 8647) = _
      refine st_iload (p' := 1) rfl rfl rfl ?_
      refine st_push (p' := 2) rfl rfl ?_
      refine st_aload (p' := 3) rfl rfl rfl ?_
      refine st_getf (p' := 6) (v := .int 0) rfl rfl (hG_m ..) rfl ?_
      refine st_push (p' := 7) rfl rfl ?_
      refine st_ii (p' := 8) (z := (-1)) rfl rfl (by decide +kernel) ?_
      have c4 : ev_call mt pg 3000 10 230 [.int p0, .int 0, .int (-1)] (hG 40 9999 0 40 9999 0 106 8647) = some (.inl (some (.int 0)), (hG 40 9999 0 40 9999 0 106 8647)) := by
        refine ev_mc rfl ?_ (ev_finx (by first | rfl | decide +kernel) rfl rfl)
        show ev_run (pg 230) (ev_call mt pg 3000 9) 3000 (0, [(0, .int p0), (1, .int 0), (2, .int (-1))], []) (hG 40 9999 0 40 9999 0 106 8647) = _
        refine st_iload (p' := 1) rfl rfl rfl ?_
        refine st_iload (p' := 2) rfl rfl rfl ?_
        refine st_icF (p' := 5) rfl (q_lt' (by rw [show (0 : Int32).toInt = 0 from by decide]; omega)) rfl ?_
        refine st_iload (p' := 6) rfl rfl rfl ?_
        refine st_iload (p' := 7) rfl rfl rfl ?_
        refine st_icT (p' := 14) rfl (q_lt (by rw [show ((-1) : Int32).toInt = (-1) from by decide]; omega)) rfl ?_
        refine st_push (p' := 15) rfl rfl ?_
        exact st_ret_i rfl
      refine st_inv (p' := 11) (av := [.int p0, .int 0, .int (-1)]) (s' := [.int 0]) rfl rfl c4 rfl rfl rfl rfl rfl ?_
      exact st_ret_i rfl
    refine st_inv (p' := 10) (av := [.ref 82, .int p0]) (s' := [.int 0]) rfl rfl c5 rfl rfl (q_recv (hG_m ..)) rfl rfl ?_
    refine st_ifF (p' := 13) rfl (by decide +kernel) rfl ?_
    refine st_aload (p' := 14) rfl rfl rfl ?_
    refine st_push (p' := 15) rfl rfl ?_
    have c6 : ev_call mt pg 3000 11 229 [.ref 82, .int 1] (hG 40 9999 0 40 9999 0 106 8647) = some (.inl (some (.int 0)), (hG 40 9999 1 40 9999 0 106 8647)) := by
      refine ev_mc rfl ?_ (ev_finx (by first | rfl | decide +kernel) rfl rfl)
      show ev_run (pg 229) (ev_call mt pg 3000 10) 3000 (0, [(0, .ref 82), (1, .int 1)], []) (hG 40 9999 0 40 9999 0 106 8647) = _
      refine st_aload (p' := 1) rfl rfl rfl ?_
      refine st_iload (p' := 2) rfl rfl rfl ?_
      refine st_putf (p' := 5) (h' := (hG 40 9999 1 40 9999 0 106 8647)) rfl rfl (hG_m ..) rfl (hG_sm ..) ?_
      refine st_push (p' := 6) rfl rfl ?_
      exact st_ret_i rfl
    refine st_inv (p' := 18) (av := [.ref 82, .int 1]) (s' := [.int 0]) rfl rfl c6 rfl rfl (q_recv (hG_m ..)) rfl rfl ?_
    exact st_ret_i rfl
  have c8 : ev_call mt pg 3000 12 228 [.ref 82] (hG 40 9999 1 40 9999 0 106 8647) = some (.inl (some (.int 1)), (hG 40 9999 1 40 9999 0 106 8647)) := by
    refine ev_mc rfl ?_ (ev_finx (by first | rfl | decide +kernel) rfl rfl)
    show ev_run (pg 228) (ev_call mt pg 3000 11) 3000 (0, [(0, .ref 82)], []) (hG 40 9999 1 40 9999 0 106 8647) = _
    refine st_aload (p' := 1) rfl rfl rfl ?_
    refine st_getf (p' := 4) (v := .int 1) rfl rfl (hG_m ..) rfl ?_
    exact st_ret_i rfl
  exact ⟨1, 0, _, _, _, _, c3, hG_m .., c7, hG_m .., c8, (fun h => absurd h (by decide)), Nat.le_of_ble_eq_true rfl, Nat.le_of_ble_eq_true rfl⟩
theorem ag_word (p0 p1 p2 p3 : Int32) (h_p3 : p3 = 0 ∨ p3 = 1) : agree 296 240 [.ref 0, .int p0, .int p1, .int p2, .int p3, .ref 104] [.ref 82, .int p0, .int p1, .int p2, .int p3] := by
  rcases Int.lt_or_le p0.toInt 0 with h | h
  · exact ag_word_1 p0 p1 p2 p3 (by omega)
  · exact ag_word_2 p0 p1 p2 p3 (by omega)
theorem ag_jump_1 (p0 p1 p2 : Int32) (u_p0 : p0.toInt ≤ -1) : agree 297 241 [.ref 0, .int p0, .int p1, .int p2, .ref 104] [.ref 82, .int p0, .int p1, .int p2] := by
  have c3 : ev_call mt pg 3000 12 297 [.ref 0, .int p0, .int p1, .int p2, .ref 104] (hG 40 9999 0 40 9999 0 105 8641) = some (.inl (some (.int 1)), (hG 40 9999 0 40 9999 0 106 8647)) := by
    refine ev_mc rfl ?_ (ev_finx (by first | rfl | decide +kernel) rfl rfl)
    show ev_run (pg 297) (ev_call mt pg 3000 11) 3000 (0, [(0, .ref 0), (1, .int p0), (2, .int p1), (3, .int p2), (4, .ref 104)], []) (hG 40 9999 0 40 9999 0 105 8641) = _
    refine st_aload (p' := 2) rfl rfl rfl ?_
    refine st_push (p' := 3) rfl rfl ?_
    refine st_aload (p' := 4) rfl rfl rfl ?_
    refine st_iload (p' := 5) rfl rfl rfl ?_
    refine st_iload (p' := 6) rfl rfl rfl ?_
    refine st_iload (p' := 7) rfl rfl rfl ?_
    have c2 : ev_call mt pg 3000 11 165 [.ref 0, .int p0, .int p1, .int p2] (hG 40 9999 0 40 9999 0 105 8641) = some (.inr "java/lang/IndexOutOfBoundsException", (hG 40 9999 0 40 9999 0 106 8647)) := by
      refine ev_mc rfl ?_ (ev_finX (by decide +kernel) rfl rfl)
      show ev_run (pg 165) (ev_call mt pg 3000 10) 3000 (0, [(0, .ref 0), (1, .int p0), (2, .int p1), (3, .int p2)], []) (hG 40 9999 0 40 9999 0 105 8641) = _
      refine st_aload (p' := 1) rfl rfl rfl ?_
      refine st_getf (p' := 4) (v := .ref 11) rfl rfl (hG_x ..) rfl ?_
      refine st_iload (p' := 5) rfl rfl rfl ?_
      have c1 : ev_call mt pg 3000 10 121 [.ref 11, .int p0] (hG 40 9999 0 40 9999 0 105 8641) = some (.inl (some (.int 0)), (hG 40 9999 0 40 9999 0 105 8641)) := by
        refine ev_mc rfl ?_ (ev_finx (by first | rfl | decide +kernel) rfl rfl)
        show ev_run (pg 121) (ev_call mt pg 3000 9) 3000 (0, [(0, .ref 11), (1, .int p0)], []) (hG 40 9999 0 40 9999 0 105 8641) = _
        refine st_iload (p' := 1) rfl rfl rfl ?_
        refine st_ifT (p' := 22) rfl (q_lt (by rw [show (0 : Int32).toInt = 0 from by decide]; omega)) rfl ?_
        refine st_push (p' := 23) rfl rfl ?_
        exact st_ret_i rfl
      refine st_inv (p' := 8) (av := [.ref 11, .int p0]) (s' := [.int 0]) rfl rfl c1 rfl rfl (q_recv (hG_c11 ..)) rfl rfl ?_
      refine st_ifF (p' := 11) rfl (by decide +kernel) rfl ?_
      exact st_throw rfl rfl rfl
    refine st_invC (p' := 17) (q := 5) (l' := [(0, .ref 0), (1, .int p0), (2, .int p1), (3, .int p2), (4, .ref 104)]) (av := [.ref 0, .int p0, .int p1, .int p2]) rfl rfl c2 rfl rfl (q_recv (hG_x ..)) (by decide +kernel) rfl ?_
    refine st_push (p' := 18) rfl rfl ?_
    exact st_ret_i rfl
  have c7 : ev_call mt pg 3000 12 241 [.ref 82, .int p0, .int p1, .int p2] (hG 40 9999 0 40 9999 0 106 8647) = some (.inl (some (.int 0)), (hG 40 9999 1 40 9999 0 106 8647)) := by
    refine ev_mc rfl ?_ (ev_finx (by first | rfl | decide +kernel) rfl rfl)
    show ev_run (pg 241) (ev_call mt pg 3000 11) 3000 (0, [(0, .ref 82), (1, .int p0), (2, .int p1), (3, .int p2)], []) (hG 40 9999 0 40 9999 0 106 8647) = _
    refine st_aload (p' := 1) rfl rfl rfl ?_
    refine st_push (p' := 2) rfl rfl ?_
    refine st_putf (p' := 5) (h' := (hG 40 9999 0 40 9999 0 106 8647)) rfl rfl (hG_m ..) rfl (hG_sm ..) ?_
    refine st_aload (p' := 6) rfl rfl rfl ?_
    refine st_iload (p' := 7) rfl rfl rfl ?_
    have c5 : ev_call mt pg 3000 11 234 [.ref 82, .int p0] (hG 40 9999 0 40 9999 0 106 8647) = some (.inl (some (.int 0)), (hG 40 9999 0 40 9999 0 106 8647)) := by
      refine ev_mc rfl ?_ (ev_finx (by first | rfl | decide +kernel) rfl rfl)
      show ev_run (pg 234) (ev_call mt pg 3000 10) 3000 (0, [(0, .ref 82), (1, .int p0)], []) (hG 40 9999 0 40 9999 0 106 8647) = _
      refine st_iload (p' := 1) rfl rfl rfl ?_
      refine st_push (p' := 2) rfl rfl ?_
      refine st_aload (p' := 3) rfl rfl rfl ?_
      refine st_getf (p' := 6) (v := .int 0) rfl rfl (hG_m ..) rfl ?_
      refine st_push (p' := 7) rfl rfl ?_
      refine st_ii (p' := 8) (z := (-1)) rfl rfl (by decide +kernel) ?_
      have c4 : ev_call mt pg 3000 10 230 [.int p0, .int 0, .int (-1)] (hG 40 9999 0 40 9999 0 106 8647) = some (.inl (some (.int 0)), (hG 40 9999 0 40 9999 0 106 8647)) := by
        refine ev_mc rfl ?_ (ev_finx (by first | rfl | decide +kernel) rfl rfl)
        show ev_run (pg 230) (ev_call mt pg 3000 9) 3000 (0, [(0, .int p0), (1, .int 0), (2, .int (-1))], []) (hG 40 9999 0 40 9999 0 106 8647) = _
        refine st_iload (p' := 1) rfl rfl rfl ?_
        refine st_iload (p' := 2) rfl rfl rfl ?_
        refine st_icT (p' := 14) rfl (q_lt (by rw [show (0 : Int32).toInt = 0 from by decide]; omega)) rfl ?_
        refine st_push (p' := 15) rfl rfl ?_
        exact st_ret_i rfl
      refine st_inv (p' := 11) (av := [.int p0, .int 0, .int (-1)]) (s' := [.int 0]) rfl rfl c4 rfl rfl rfl rfl rfl ?_
      exact st_ret_i rfl
    refine st_inv (p' := 10) (av := [.ref 82, .int p0]) (s' := [.int 0]) rfl rfl c5 rfl rfl (q_recv (hG_m ..)) rfl rfl ?_
    refine st_ifF (p' := 13) rfl (by decide +kernel) rfl ?_
    refine st_aload (p' := 14) rfl rfl rfl ?_
    refine st_push (p' := 15) rfl rfl ?_
    have c6 : ev_call mt pg 3000 11 229 [.ref 82, .int 1] (hG 40 9999 0 40 9999 0 106 8647) = some (.inl (some (.int 0)), (hG 40 9999 1 40 9999 0 106 8647)) := by
      refine ev_mc rfl ?_ (ev_finx (by first | rfl | decide +kernel) rfl rfl)
      show ev_run (pg 229) (ev_call mt pg 3000 10) 3000 (0, [(0, .ref 82), (1, .int 1)], []) (hG 40 9999 0 40 9999 0 106 8647) = _
      refine st_aload (p' := 1) rfl rfl rfl ?_
      refine st_iload (p' := 2) rfl rfl rfl ?_
      refine st_putf (p' := 5) (h' := (hG 40 9999 1 40 9999 0 106 8647)) rfl rfl (hG_m ..) rfl (hG_sm ..) ?_
      refine st_push (p' := 6) rfl rfl ?_
      exact st_ret_i rfl
    refine st_inv (p' := 18) (av := [.ref 82, .int 1]) (s' := [.int 0]) rfl rfl c6 rfl rfl (q_recv (hG_m ..)) rfl rfl ?_
    exact st_ret_i rfl
  have c8 : ev_call mt pg 3000 12 228 [.ref 82] (hG 40 9999 1 40 9999 0 106 8647) = some (.inl (some (.int 1)), (hG 40 9999 1 40 9999 0 106 8647)) := by
    refine ev_mc rfl ?_ (ev_finx (by first | rfl | decide +kernel) rfl rfl)
    show ev_run (pg 228) (ev_call mt pg 3000 11) 3000 (0, [(0, .ref 82)], []) (hG 40 9999 1 40 9999 0 106 8647) = _
    refine st_aload (p' := 1) rfl rfl rfl ?_
    refine st_getf (p' := 4) (v := .int 1) rfl rfl (hG_m ..) rfl ?_
    exact st_ret_i rfl
  exact ⟨1, 0, _, _, _, _, c3, hG_m .., c7, hG_m .., c8, (fun h => absurd h (by decide)), Nat.le_of_ble_eq_true rfl, Nat.le_of_ble_eq_true rfl⟩
theorem ag_jump_2 (p0 p1 p2 : Int32) (l_p0 : 0 ≤ p0.toInt) : agree 297 241 [.ref 0, .int p0, .int p1, .int p2, .ref 104] [.ref 82, .int p0, .int p1, .int p2] := by
  have c3 : ev_call mt pg 3000 12 297 [.ref 0, .int p0, .int p1, .int p2, .ref 104] (hG 40 9999 0 40 9999 0 105 8641) = some (.inl (some (.int 1)), (hG 40 9999 0 40 9999 0 106 8647)) := by
    refine ev_mc rfl ?_ (ev_finx (by first | rfl | decide +kernel) rfl rfl)
    show ev_run (pg 297) (ev_call mt pg 3000 11) 3000 (0, [(0, .ref 0), (1, .int p0), (2, .int p1), (3, .int p2), (4, .ref 104)], []) (hG 40 9999 0 40 9999 0 105 8641) = _
    refine st_aload (p' := 2) rfl rfl rfl ?_
    refine st_push (p' := 3) rfl rfl ?_
    refine st_aload (p' := 4) rfl rfl rfl ?_
    refine st_iload (p' := 5) rfl rfl rfl ?_
    refine st_iload (p' := 6) rfl rfl rfl ?_
    refine st_iload (p' := 7) rfl rfl rfl ?_
    have c2 : ev_call mt pg 3000 11 165 [.ref 0, .int p0, .int p1, .int p2] (hG 40 9999 0 40 9999 0 105 8641) = some (.inr "java/lang/IndexOutOfBoundsException", (hG 40 9999 0 40 9999 0 106 8647)) := by
      refine ev_mc rfl ?_ (ev_finX (by decide +kernel) rfl rfl)
      show ev_run (pg 165) (ev_call mt pg 3000 10) 3000 (0, [(0, .ref 0), (1, .int p0), (2, .int p1), (3, .int p2)], []) (hG 40 9999 0 40 9999 0 105 8641) = _
      refine st_aload (p' := 1) rfl rfl rfl ?_
      refine st_getf (p' := 4) (v := .ref 11) rfl rfl (hG_x ..) rfl ?_
      refine st_iload (p' := 5) rfl rfl rfl ?_
      have c1 : ev_call mt pg 3000 10 121 [.ref 11, .int p0] (hG 40 9999 0 40 9999 0 105 8641) = some (.inl (some (.int 0)), (hG 40 9999 0 40 9999 0 105 8641)) := by
        refine ev_mc rfl ?_ (ev_finx (by first | rfl | decide +kernel) rfl rfl)
        show ev_run (pg 121) (ev_call mt pg 3000 9) 3000 (0, [(0, .ref 11), (1, .int p0)], []) (hG 40 9999 0 40 9999 0 105 8641) = _
        refine st_iload (p' := 1) rfl rfl rfl ?_
        refine st_ifF (p' := 4) rfl (q_lt' (by rw [show (0 : Int32).toInt = 0 from by decide]; omega)) rfl ?_
        refine st_iload (p' := 5) rfl rfl rfl ?_
        refine st_aload (p' := 6) rfl rfl rfl ?_
        refine st_getf (p' := 9) (v := .int 0) rfl rfl (hG_c11 ..) rfl ?_
        refine st_icT (p' := 22) rfl (q_le (by rw [show (0 : Int32).toInt = 0 from by decide]; omega)) rfl ?_
        refine st_push (p' := 23) rfl rfl ?_
        exact st_ret_i rfl
      refine st_inv (p' := 8) (av := [.ref 11, .int p0]) (s' := [.int 0]) rfl rfl c1 rfl rfl (q_recv (hG_c11 ..)) rfl rfl ?_
      refine st_ifF (p' := 11) rfl (by decide +kernel) rfl ?_
      exact st_throw rfl rfl rfl
    refine st_invC (p' := 17) (q := 5) (l' := [(0, .ref 0), (1, .int p0), (2, .int p1), (3, .int p2), (4, .ref 104)]) (av := [.ref 0, .int p0, .int p1, .int p2]) rfl rfl c2 rfl rfl (q_recv (hG_x ..)) (by decide +kernel) rfl ?_
    refine st_push (p' := 18) rfl rfl ?_
    exact st_ret_i rfl
  have c7 : ev_call mt pg 3000 12 241 [.ref 82, .int p0, .int p1, .int p2] (hG 40 9999 0 40 9999 0 106 8647) = some (.inl (some (.int 0)), (hG 40 9999 1 40 9999 0 106 8647)) := by
    refine ev_mc rfl ?_ (ev_finx (by first | rfl | decide +kernel) rfl rfl)
    show ev_run (pg 241) (ev_call mt pg 3000 11) 3000 (0, [(0, .ref 82), (1, .int p0), (2, .int p1), (3, .int p2)], []) (hG 40 9999 0 40 9999 0 106 8647) = _
    refine st_aload (p' := 1) rfl rfl rfl ?_
    refine st_push (p' := 2) rfl rfl ?_
    refine st_putf (p' := 5) (h' := (hG 40 9999 0 40 9999 0 106 8647)) rfl rfl (hG_m ..) rfl (hG_sm ..) ?_
    refine st_aload (p' := 6) rfl rfl rfl ?_
    refine st_iload (p' := 7) rfl rfl rfl ?_
    have c5 : ev_call mt pg 3000 11 234 [.ref 82, .int p0] (hG 40 9999 0 40 9999 0 106 8647) = some (.inl (some (.int 0)), (hG 40 9999 0 40 9999 0 106 8647)) := by
      refine ev_mc rfl ?_ (ev_finx (by first | rfl | decide +kernel) rfl rfl)
      show ev_run (pg 234) (ev_call mt pg 3000 10) 3000 (0, [(0, .ref 82), (1, .int p0)], []) (hG 40 9999 0 40 9999 0 106 8647) = _
      refine st_iload (p' := 1) rfl rfl rfl ?_
      refine st_push (p' := 2) rfl rfl ?_
      refine st_aload (p' := 3) rfl rfl rfl ?_
      refine st_getf (p' := 6) (v := .int 0) rfl rfl (hG_m ..) rfl ?_
      refine st_push (p' := 7) rfl rfl ?_
      refine st_ii (p' := 8) (z := (-1)) rfl rfl (by decide +kernel) ?_
      have c4 : ev_call mt pg 3000 10 230 [.int p0, .int 0, .int (-1)] (hG 40 9999 0 40 9999 0 106 8647) = some (.inl (some (.int 0)), (hG 40 9999 0 40 9999 0 106 8647)) := by
        refine ev_mc rfl ?_ (ev_finx (by first | rfl | decide +kernel) rfl rfl)
        show ev_run (pg 230) (ev_call mt pg 3000 9) 3000 (0, [(0, .int p0), (1, .int 0), (2, .int (-1))], []) (hG 40 9999 0 40 9999 0 106 8647) = _
        refine st_iload (p' := 1) rfl rfl rfl ?_
        refine st_iload (p' := 2) rfl rfl rfl ?_
        refine st_icF (p' := 5) rfl (q_lt' (by rw [show (0 : Int32).toInt = 0 from by decide]; omega)) rfl ?_
        refine st_iload (p' := 6) rfl rfl rfl ?_
        refine st_iload (p' := 7) rfl rfl rfl ?_
        refine st_icT (p' := 14) rfl (q_lt (by rw [show ((-1) : Int32).toInt = (-1) from by decide]; omega)) rfl ?_
        refine st_push (p' := 15) rfl rfl ?_
        exact st_ret_i rfl
      refine st_inv (p' := 11) (av := [.int p0, .int 0, .int (-1)]) (s' := [.int 0]) rfl rfl c4 rfl rfl rfl rfl rfl ?_
      exact st_ret_i rfl
    refine st_inv (p' := 10) (av := [.ref 82, .int p0]) (s' := [.int 0]) rfl rfl c5 rfl rfl (q_recv (hG_m ..)) rfl rfl ?_
    refine st_ifF (p' := 13) rfl (by decide +kernel) rfl ?_
    refine st_aload (p' := 14) rfl rfl rfl ?_
    refine st_push (p' := 15) rfl rfl ?_
    have c6 : ev_call mt pg 3000 11 229 [.ref 82, .int 1] (hG 40 9999 0 40 9999 0 106 8647) = some (.inl (some (.int 0)), (hG 40 9999 1 40 9999 0 106 8647)) := by
      refine ev_mc rfl ?_ (ev_finx (by first | rfl | decide +kernel) rfl rfl)
      show ev_run (pg 229) (ev_call mt pg 3000 10) 3000 (0, [(0, .ref 82), (1, .int 1)], []) (hG 40 9999 0 40 9999 0 106 8647) = _
      refine st_aload (p' := 1) rfl rfl rfl ?_
      refine st_iload (p' := 2) rfl rfl rfl ?_
      refine st_putf (p' := 5) (h' := (hG 40 9999 1 40 9999 0 106 8647)) rfl rfl (hG_m ..) rfl (hG_sm ..) ?_
      refine st_push (p' := 6) rfl rfl ?_
      exact st_ret_i rfl
    refine st_inv (p' := 18) (av := [.ref 82, .int 1]) (s' := [.int 0]) rfl rfl c6 rfl rfl (q_recv (hG_m ..)) rfl rfl ?_
    exact st_ret_i rfl
  have c8 : ev_call mt pg 3000 12 228 [.ref 82] (hG 40 9999 1 40 9999 0 106 8647) = some (.inl (some (.int 1)), (hG 40 9999 1 40 9999 0 106 8647)) := by
    refine ev_mc rfl ?_ (ev_finx (by first | rfl | decide +kernel) rfl rfl)
    show ev_run (pg 228) (ev_call mt pg 3000 11) 3000 (0, [(0, .ref 82)], []) (hG 40 9999 1 40 9999 0 106 8647) = _
    refine st_aload (p' := 1) rfl rfl rfl ?_
    refine st_getf (p' := 4) (v := .int 1) rfl rfl (hG_m ..) rfl ?_
    exact st_ret_i rfl
  exact ⟨1, 0, _, _, _, _, c3, hG_m .., c7, hG_m .., c8, (fun h => absurd h (by decide)), Nat.le_of_ble_eq_true rfl, Nat.le_of_ble_eq_true rfl⟩
theorem ag_jump (p0 p1 p2 : Int32) (h_p2 : p2 = 0 ∨ p2 = 1) : agree 297 241 [.ref 0, .int p0, .int p1, .int p2, .ref 104] [.ref 82, .int p0, .int p1, .int p2] := by
  rcases Int.lt_or_le p0.toInt 0 with h | h
  · exact ag_jump_1 p0 p1 p2 (by omega)
  · exact ag_jump_2 p0 p1 p2 (by omega)
theorem ag_define_1 (p0 p1 p2 p3 : Int32) (u_p0 : p0.toInt ≤ -1) : agree 298 243 [.ref 0, .int p0, .int p1, .int p2, .int p3, .ref 104] [.ref 82, .int p0, .int p1, .int p2, .int p3] := by
  have c3 : ev_call mt pg 3000 12 298 [.ref 0, .int p0, .int p1, .int p2, .int p3, .ref 104] (hG 40 9999 0 40 9999 0 105 8641) = some (.inl (some (.int 1)), (hG 40 9999 0 40 9999 0 106 8647)) := by
    refine ev_mc rfl ?_ (ev_finx (by first | rfl | decide +kernel) rfl rfl)
    show ev_run (pg 298) (ev_call mt pg 3000 11) 3000 (0, [(0, .ref 0), (1, .int p0), (2, .int p1), (3, .int p2), (4, .int p3), (5, .ref 104)], []) (hG 40 9999 0 40 9999 0 105 8641) = _
    refine st_aload (p' := 2) rfl rfl rfl ?_
    refine st_push (p' := 3) rfl rfl ?_
    refine st_aload (p' := 4) rfl rfl rfl ?_
    refine st_iload (p' := 5) rfl rfl rfl ?_
    refine st_iload (p' := 6) rfl rfl rfl ?_
    refine st_iload (p' := 7) rfl rfl rfl ?_
    refine st_iload (p' := 9) rfl rfl rfl ?_
    have c2 : ev_call mt pg 3000 11 166 [.ref 0, .int p0, .int p1, .int p2, .int p3] (hG 40 9999 0 40 9999 0 105 8641) = some (.inr "java/lang/IndexOutOfBoundsException", (hG 40 9999 0 40 9999 0 106 8647)) := by
      refine ev_mc rfl ?_ (ev_finX (by decide +kernel) rfl rfl)
      show ev_run (pg 166) (ev_call mt pg 3000 10) 3000 (0, [(0, .ref 0), (1, .int p0), (2, .int p1), (3, .int p2), (4, .int p3)], []) (hG 40 9999 0 40 9999 0 105 8641) = _
      refine st_aload (p' := 1) rfl rfl rfl ?_
      refine st_getf (p' := 4) (v := .ref 11) rfl rfl (hG_x ..) rfl ?_
      refine st_iload (p' := 5) rfl rfl rfl ?_
      have c1 : ev_call mt pg 3000 10 121 [.ref 11, .int p0] (hG 40 9999 0 40 9999 0 105 8641) = some (.inl (some (.int 0)), (hG 40 9999 0 40 9999 0 105 8641)) := by
        refine ev_mc rfl ?_ (ev_finx (by first | rfl | decide +kernel) rfl rfl)
        show ev_run (pg 121) (ev_call mt pg 3000 9) 3000 (0, [(0, .ref 11), (1, .int p0)], []) (hG 40 9999 0 40 9999 0 105 8641) = _
        refine st_iload (p' := 1) rfl rfl rfl ?_
        refine st_ifT (p' := 22) rfl (q_lt (by rw [show (0 : Int32).toInt = 0 from by decide]; omega)) rfl ?_
        refine st_push (p' := 23) rfl rfl ?_
        exact st_ret_i rfl
      refine st_inv (p' := 8) (av := [.ref 11, .int p0]) (s' := [.int 0]) rfl rfl c1 rfl rfl (q_recv (hG_c11 ..)) rfl rfl ?_
      refine st_ifF (p' := 11) rfl (by decide +kernel) rfl ?_
      exact st_throw rfl rfl rfl
    refine st_invC (p' := 19) (q := 6) (l' := [(0, .ref 0), (1, .int p0), (2, .int p1), (3, .int p2), (4, .int p3), (5, .ref 104)]) (av := [.ref 0, .int p0, .int p1, .int p2, .int p3]) rfl rfl c2 rfl rfl (q_recv (hG_x ..)) (by decide +kernel) rfl ?_
    refine st_push (p' := 20) rfl rfl ?_
    exact st_ret_i rfl
  have c7 : ev_call mt pg 3000 12 243 [.ref 82, .int p0, .int p1, .int p2, .int p3] (hG 40 9999 0 40 9999 0 106 8647) = some (.inl (some (.int 0)), (hG 40 9999 1 40 9999 0 106 8647)) := by
    refine ev_mc rfl ?_ (ev_finx (by first | rfl | decide +kernel) rfl rfl)
    show ev_run (pg 243) (ev_call mt pg 3000 11) 3000 (0, [(0, .ref 82), (1, .int p0), (2, .int p1), (3, .int p2), (4, .int p3)], []) (hG 40 9999 0 40 9999 0 106 8647) = _
    refine st_aload (p' := 1) rfl rfl rfl ?_
    refine st_push (p' := 2) rfl rfl ?_
    refine st_putf (p' := 5) (h' := (hG 40 9999 0 40 9999 0 106 8647)) rfl rfl (hG_m ..) rfl (hG_sm ..) ?_
    refine st_aload (p' := 6) rfl rfl rfl ?_
    refine st_iload (p' := 7) rfl rfl rfl ?_
    have c5 : ev_call mt pg 3000 11 234 [.ref 82, .int p0] (hG 40 9999 0 40 9999 0 106 8647) = some (.inl (some (.int 0)), (hG 40 9999 0 40 9999 0 106 8647)) := by
      refine ev_mc rfl ?_ (ev_finx (by first | rfl | decide +kernel) rfl rfl)
      show ev_run (pg 234) (ev_call mt pg 3000 10) 3000 (0, [(0, .ref 82), (1, .int p0)], []) (hG 40 9999 0 40 9999 0 106 8647) = _
      refine st_iload (p' := 1) rfl rfl rfl ?_
      refine st_push (p' := 2) rfl rfl ?_
      refine st_aload (p' := 3) rfl rfl rfl ?_
      refine st_getf (p' := 6) (v := .int 0) rfl rfl (hG_m ..) rfl ?_
      refine st_push (p' := 7) rfl rfl ?_
      refine st_ii (p' := 8) (z := (-1)) rfl rfl (by decide +kernel) ?_
      have c4 : ev_call mt pg 3000 10 230 [.int p0, .int 0, .int (-1)] (hG 40 9999 0 40 9999 0 106 8647) = some (.inl (some (.int 0)), (hG 40 9999 0 40 9999 0 106 8647)) := by
        refine ev_mc rfl ?_ (ev_finx (by first | rfl | decide +kernel) rfl rfl)
        show ev_run (pg 230) (ev_call mt pg 3000 9) 3000 (0, [(0, .int p0), (1, .int 0), (2, .int (-1))], []) (hG 40 9999 0 40 9999 0 106 8647) = _
        refine st_iload (p' := 1) rfl rfl rfl ?_
        refine st_iload (p' := 2) rfl rfl rfl ?_
        refine st_icT (p' := 14) rfl (q_lt (by rw [show (0 : Int32).toInt = 0 from by decide]; omega)) rfl ?_
        refine st_push (p' := 15) rfl rfl ?_
        exact st_ret_i rfl
      refine st_inv (p' := 11) (av := [.int p0, .int 0, .int (-1)]) (s' := [.int 0]) rfl rfl c4 rfl rfl rfl rfl rfl ?_
      exact st_ret_i rfl
    refine st_inv (p' := 10) (av := [.ref 82, .int p0]) (s' := [.int 0]) rfl rfl c5 rfl rfl (q_recv (hG_m ..)) rfl rfl ?_
    refine st_ifF (p' := 13) rfl (by decide +kernel) rfl ?_
    refine st_aload (p' := 14) rfl rfl rfl ?_
    refine st_push (p' := 15) rfl rfl ?_
    have c6 : ev_call mt pg 3000 11 229 [.ref 82, .int 1] (hG 40 9999 0 40 9999 0 106 8647) = some (.inl (some (.int 0)), (hG 40 9999 1 40 9999 0 106 8647)) := by
      refine ev_mc rfl ?_ (ev_finx (by first | rfl | decide +kernel) rfl rfl)
      show ev_run (pg 229) (ev_call mt pg 3000 10) 3000 (0, [(0, .ref 82), (1, .int 1)], []) (hG 40 9999 0 40 9999 0 106 8647) = _
      refine st_aload (p' := 1) rfl rfl rfl ?_
      refine st_iload (p' := 2) rfl rfl rfl ?_
      refine st_putf (p' := 5) (h' := (hG 40 9999 1 40 9999 0 106 8647)) rfl rfl (hG_m ..) rfl (hG_sm ..) ?_
      refine st_push (p' := 6) rfl rfl ?_
      exact st_ret_i rfl
    refine st_inv (p' := 18) (av := [.ref 82, .int 1]) (s' := [.int 0]) rfl rfl c6 rfl rfl (q_recv (hG_m ..)) rfl rfl ?_
    exact st_ret_i rfl
  have c8 : ev_call mt pg 3000 12 228 [.ref 82] (hG 40 9999 1 40 9999 0 106 8647) = some (.inl (some (.int 1)), (hG 40 9999 1 40 9999 0 106 8647)) := by
    refine ev_mc rfl ?_ (ev_finx (by first | rfl | decide +kernel) rfl rfl)
    show ev_run (pg 228) (ev_call mt pg 3000 11) 3000 (0, [(0, .ref 82)], []) (hG 40 9999 1 40 9999 0 106 8647) = _
    refine st_aload (p' := 1) rfl rfl rfl ?_
    refine st_getf (p' := 4) (v := .int 1) rfl rfl (hG_m ..) rfl ?_
    exact st_ret_i rfl
  exact ⟨1, 0, _, _, _, _, c3, hG_m .., c7, hG_m .., c8, (fun h => absurd h (by decide)), Nat.le_of_ble_eq_true rfl, Nat.le_of_ble_eq_true rfl⟩
theorem ag_define_2 (p0 p1 p2 p3 : Int32) (l_p0 : 0 ≤ p0.toInt) : agree 298 243 [.ref 0, .int p0, .int p1, .int p2, .int p3, .ref 104] [.ref 82, .int p0, .int p1, .int p2, .int p3] := by
  have c3 : ev_call mt pg 3000 12 298 [.ref 0, .int p0, .int p1, .int p2, .int p3, .ref 104] (hG 40 9999 0 40 9999 0 105 8641) = some (.inl (some (.int 1)), (hG 40 9999 0 40 9999 0 106 8647)) := by
    refine ev_mc rfl ?_ (ev_finx (by first | rfl | decide +kernel) rfl rfl)
    show ev_run (pg 298) (ev_call mt pg 3000 11) 3000 (0, [(0, .ref 0), (1, .int p0), (2, .int p1), (3, .int p2), (4, .int p3), (5, .ref 104)], []) (hG 40 9999 0 40 9999 0 105 8641) = _
    refine st_aload (p' := 2) rfl rfl rfl ?_
    refine st_push (p' := 3) rfl rfl ?_
    refine st_aload (p' := 4) rfl rfl rfl ?_
    refine st_iload (p' := 5) rfl rfl rfl ?_
    refine st_iload (p' := 6) rfl rfl rfl ?_
    refine st_iload (p' := 7) rfl rfl rfl ?_
    refine st_iload (p' := 9) rfl rfl rfl ?_
    have c2 : ev_call mt pg 3000 11 166 [.ref 0, .int p0, .int p1, .int p2, .int p3] (hG 40 9999 0 40 9999 0 105 8641) = some (.inr "java/lang/IndexOutOfBoundsException", (hG 40 9999 0 40 9999 0 106 8647)) := by
      refine ev_mc rfl ?_ (ev_finX (by decide +kernel) rfl rfl)
      show ev_run (pg 166) (ev_call mt pg 3000 10) 3000 (0, [(0, .ref 0), (1, .int p0), (2, .int p1), (3, .int p2), (4, .int p3)], []) (hG 40 9999 0 40 9999 0 105 8641) = _
      refine st_aload (p' := 1) rfl rfl rfl ?_
      refine st_getf (p' := 4) (v := .ref 11) rfl rfl (hG_x ..) rfl ?_
      refine st_iload (p' := 5) rfl rfl rfl ?_
      have c1 : ev_call mt pg 3000 10 121 [.ref 11, .int p0] (hG 40 9999 0 40 9999 0 105 8641) = some (.inl (some (.int 0)), (hG 40 9999 0 40 9999 0 105 8641)) := by
        refine ev_mc rfl ?_ (ev_finx (by first | rfl | decide +kernel) rfl rfl)
        show ev_run (pg 121) (ev_call mt pg 3000 9) 3000 (0, [(0, .ref 11), (1, .int p0)], []) (hG 40 9999 0 40 9999 0 105 8641) = _
        refine st_iload (p' := 1) rfl rfl rfl ?_
        refine st_ifF (p' := 4) rfl (q_lt' (by rw [show (0 : Int32).toInt = 0 from by decide]; omega)) rfl ?_
        refine st_iload (p' := 5) rfl rfl rfl ?_
        refine st_aload (p' := 6) rfl rfl rfl ?_
        refine st_getf (p' := 9) (v := .int 0) rfl rfl (hG_c11 ..) rfl ?_
        refine st_icT (p' := 22) rfl (q_le (by rw [show (0 : Int32).toInt = 0 from by decide]; omega)) rfl ?_
        refine st_push (p' := 23) rfl rfl ?_
        exact st_ret_i rfl
      refine st_inv (p' := 8) (av := [.ref 11, .int p0]) (s' := [.int 0]) rfl rfl c1 rfl rfl (q_recv (hG_c11 ..)) rfl rfl ?_
      refine st_ifF (p' := 11) rfl (by decide +kernel) rfl ?_
      exact st_throw rfl rfl rfl
    refine st_invC (p' := 19) (q := 6) (l' := [(0, .ref 0), (1, .int p0), (2, .int p1), (3, .int p2), (4, .int p3), (5, .ref 104)]) (av := [.ref 0, .int p0, .int p1, .int p2, .int p3]) rfl rfl c2 rfl rfl (q_recv (hG_x ..)) (by decide +kernel) rfl ?_
    refine st_push (p' := 20) rfl rfl ?_
    exact st_ret_i rfl
  have c7 : ev_call mt pg 3000 12 243 [.ref 82, .int p0, .int p1, .int p2, .int p3] (hG 40 9999 0 40 9999 0 106 8647) = some (.inl (some (.int 0)), (hG 40 9999 1 40 9999 0 106 8647)) := by
    refine ev_mc rfl ?_ (ev_finx (by first | rfl | decide +kernel) rfl rfl)
    show ev_run (pg 243) (ev_call mt pg 3000 11) 3000 (0, [(0, .ref 82), (1, .int p0), (2, .int p1), (3, .int p2), (4, .int p3)], []) (hG 40 9999 0 40 9999 0 106 8647) = _
    refine st_aload (p' := 1) rfl rfl rfl ?_
    refine st_push (p' := 2) rfl rfl ?_
    refine st_putf (p' := 5) (h' := (hG 40 9999 0 40 9999 0 106 8647)) rfl rfl (hG_m ..) rfl (hG_sm ..) ?_
    refine st_aload (p' := 6) rfl rfl rfl ?_
    refine st_iload (p' := 7) rfl rfl rfl ?_
    have c5 : ev_call mt pg 3000 11 234 [.ref 82, .int p0] (hG 40 9999 0 40 9999 0 106 8647) = some (.inl (some (.int 0)), (hG 40 9999 0 40 9999 0 106 8647)) := by
      refine ev_mc rfl ?_ (ev_finx (by first | rfl | decide +kernel) rfl rfl)
      show ev_run (pg 234) (ev_call mt pg 3000 10) 3000 (0, [(0, .ref 82), (1, .int p0)], []) (hG 40 9999 0 40 9999 0 106 8647) = _
      refine st_iload (p' := 1) rfl rfl rfl ?_
      refine st_push (p' := 2) rfl rfl ?_
      refine st_aload (p' := 3) rfl rfl rfl ?_
      refine st_getf (p' := 6) (v := .int 0) rfl rfl (hG_m ..) rfl ?_
      refine st_push (p' := 7) rfl rfl ?_
      refine st_ii (p' := 8) (z := (-1)) rfl rfl (by decide +kernel) ?_
      have c4 : ev_call mt pg 3000 10 230 [.int p0, .int 0, .int (-1)] (hG 40 9999 0 40 9999 0 106 8647) = some (.inl (some (.int 0)), (hG 40 9999 0 40 9999 0 106 8647)) := by
        refine ev_mc rfl ?_ (ev_finx (by first | rfl | decide +kernel) rfl rfl)
        show ev_run (pg 230) (ev_call mt pg 3000 9) 3000 (0, [(0, .int p0), (1, .int 0), (2, .int (-1))], []) (hG 40 9999 0 40 9999 0 106 8647) = _
        refine st_iload (p' := 1) rfl rfl rfl ?_
        refine st_iload (p' := 2) rfl rfl rfl ?_
        refine st_icF (p' := 5) rfl (q_lt' (by rw [show (0 : Int32).toInt = 0 from by decide]; omega)) rfl ?_
        refine st_iload (p' := 6) rfl rfl rfl ?_
        refine st_iload (p' := 7) rfl rfl rfl ?_
        refine st_icT (p' := 14) rfl (q_lt (by rw [show ((-1) : Int32).toInt = (-1) from by decide]; omega)) rfl ?_
        refine st_push (p' := 15) rfl rfl ?_
        exact st_ret_i rfl
      refine st_inv (p' := 11) (av := [.int p0, .int 0, .int (-1)]) (s' := [.int 0]) rfl rfl c4 rfl rfl rfl rfl rfl ?_
      exact st_ret_i rfl
    refine st_inv (p' := 10) (av := [.ref 82, .int p0]) (s' := [.int 0]) rfl rfl c5 rfl rfl (q_recv (hG_m ..)) rfl rfl ?_
    refine st_ifF (p' := 13) rfl (by decide +kernel) rfl ?_
    refine st_aload (p' := 14) rfl rfl rfl ?_
    refine st_push (p' := 15) rfl rfl ?_
    have c6 : ev_call mt pg 3000 11 229 [.ref 82, .int 1] (hG 40 9999 0 40 9999 0 106 8647) = some (.inl (some (.int 0)), (hG 40 9999 1 40 9999 0 106 8647)) := by
      refine ev_mc rfl ?_ (ev_finx (by first | rfl | decide +kernel) rfl rfl)
      show ev_run (pg 229) (ev_call mt pg 3000 10) 3000 (0, [(0, .ref 82), (1, .int 1)], []) (hG 40 9999 0 40 9999 0 106 8647) = _
      refine st_aload (p' := 1) rfl rfl rfl ?_
      refine st_iload (p' := 2) rfl rfl rfl ?_
      refine st_putf (p' := 5) (h' := (hG 40 9999 1 40 9999 0 106 8647)) rfl rfl (hG_m ..) rfl (hG_sm ..) ?_
      refine st_push (p' := 6) rfl rfl ?_
      exact st_ret_i rfl
    refine st_inv (p' := 18) (av := [.ref 82, .int 1]) (s' := [.int 0]) rfl rfl c6 rfl rfl (q_recv (hG_m ..)) rfl rfl ?_
    exact st_ret_i rfl
  have c8 : ev_call mt pg 3000 12 228 [.ref 82] (hG 40 9999 1 40 9999 0 106 8647) = some (.inl (some (.int 1)), (hG 40 9999 1 40 9999 0 106 8647)) := by
    refine ev_mc rfl ?_ (ev_finx (by first | rfl | decide +kernel) rfl rfl)
    show ev_run (pg 228) (ev_call mt pg 3000 11) 3000 (0, [(0, .ref 82)], []) (hG 40 9999 1 40 9999 0 106 8647) = _
    refine st_aload (p' := 1) rfl rfl rfl ?_
    refine st_getf (p' := 4) (v := .int 1) rfl rfl (hG_m ..) rfl ?_
    exact st_ret_i rfl
  exact ⟨1, 0, _, _, _, _, c3, hG_m .., c7, hG_m .., c8, (fun h => absurd h (by decide)), Nat.le_of_ble_eq_true rfl, Nat.le_of_ble_eq_true rfl⟩
theorem ag_define (p0 p1 p2 p3 : Int32) (h_p2 : p2 = 0 ∨ p2 = 1) (h_p3 : p3 = 0 ∨ p3 = 1) : agree 298 243 [.ref 0, .int p0, .int p1, .int p2, .int p3, .ref 104] [.ref 82, .int p0, .int p1, .int p2, .int p3] := by
  rcases Int.lt_or_le p0.toInt 0 with h | h
  · exact ag_define_1 p0 p1 p2 p3 (by omega)
  · exact ag_define_2 p0 p1 p2 p3 (by omega)
theorem ag_common_1 (p0 p1 p2 p3 : Int32) (u_p0 : p0.toInt ≤ -1) : agree 299 245 [.ref 0, .int p0, .int p1, .int p2, .int p3, .ref 104] [.ref 82, .int p0, .int p1, .int p2, .int p3] := by
  have c3 : ev_call mt pg 3000 12 299 [.ref 0, .int p0, .int p1, .int p2, .int p3, .ref 104] (hG 40 9999 0 40 9999 0 105 8641) = some (.inl (some (.int 1)), (hG 40 9999 0 40 9999 0 106 8647)) := by
    refine ev_mc rfl ?_ (ev_finx (by first | rfl | decide +kernel) rfl rfl)
    show ev_run (pg 299) (ev_call mt pg 3000 11) 3000 (0, [(0, .ref 0), (1, .int p0), (2, .int p1), (3, .int p2), (4, .int p3), (5, .ref 104)], []) (hG 40 9999 0 40 9999 0 105 8641) = _
    refine st_aload (p' := 2) rfl rfl rfl ?_
    refine st_push (p' := 3) rfl rfl ?_
    refine st_aload (p' := 4) rfl rfl rfl ?_
    refine st_iload (p' := 5) rfl rfl rfl ?_
    refine st_iload (p' := 6) rfl rfl rfl ?_
    refine st_iload (p' := 7) rfl rfl rfl ?_
    refine st_iload (p' := 9) rfl rfl rfl ?_
    have c2 : ev_call mt pg 3000 11 167 [.ref 0, .int p0, .int p1, .int p2, .int p3] (hG 40 9999 0 40 9999 0 105 8641) = some (.inr "java/lang/IndexOutOfBoundsException", (hG 40 9999 0 40 9999 0 106 8647)) := by
      refine ev_mc rfl ?_ (ev_finX (by decide +kernel) rfl rfl)
      show ev_run (pg 167) (ev_call mt pg 3000 10) 3000 (0, [(0, .ref 0), (1, .int p0), (2, .int p1), (3, .int p2), (4, .int p3)], []) (hG 40 9999 0 40 9999 0 105 8641) = _
      refine st_aload (p' := 1) rfl rfl rfl ?_
      refine st_getf (p' := 4) (v := .ref 1) rfl rfl (hG_x ..) rfl ?_
      refine st_iload (p' := 5) rfl rfl rfl ?_
      have c1 : ev_call mt pg 3000 10 90 [.ref 1, .int p0] (hG 40 9999 0 40 9999 0 105 8641) = some (.inl (some (.int 0)), (hG 40 9999 0 40 9999 0 105 8641)) := by
        refine ev_mc rfl ?_ (ev_finx (by first | rfl | decide +kernel) rfl rfl)
        show ev_run (pg 90) (ev_call mt pg 3000 9) 3000 (0, [(0, .ref 1), (1, .int p0)], []) (hG 40 9999 0 40 9999 0 105 8641) = _
        refine st_iload (p' := 1) rfl rfl rfl ?_
        refine st_ifT (p' := 22) rfl (q_lt (by rw [show (0 : Int32).toInt = 0 from by decide]; omega)) rfl ?_
        refine st_push (p' := 23) rfl rfl ?_
        exact st_ret_i rfl
      refine st_inv (p' := 8) (av := [.ref 1, .int p0]) (s' := [.int 0]) rfl rfl c1 rfl rfl (q_recv (hG_c1 ..)) rfl rfl ?_
      refine st_ifF (p' := 11) rfl (by decide +kernel) rfl ?_
      exact st_throw rfl rfl rfl
    refine st_invC (p' := 19) (q := 6) (l' := [(0, .ref 0), (1, .int p0), (2, .int p1), (3, .int p2), (4, .int p3), (5, .ref 104)]) (av := [.ref 0, .int p0, .int p1, .int p2, .int p3]) rfl rfl c2 rfl rfl (q_recv (hG_x ..)) (by decide +kernel) rfl ?_
    refine st_push (p' := 20) rfl rfl ?_
    exact st_ret_i rfl
  have c7 : ev_call mt pg 3000 12 245 [.ref 82, .int p0, .int p1, .int p2, .int p3] (hG 40 9999 0 40 9999 0 106 8647) = some (.inl (some (.int 0)), (hG 40 9999 1 40 9999 0 106 8647)) := by
    refine ev_mc rfl ?_ (ev_finx (by first | rfl | decide +kernel) rfl rfl)
    show ev_run (pg 245) (ev_call mt pg 3000 11) 3000 (0, [(0, .ref 82), (1, .int p0), (2, .int p1), (3, .int p2), (4, .int p3)], []) (hG 40 9999 0 40 9999 0 106 8647) = _
    refine st_aload (p' := 1) rfl rfl rfl ?_
    refine st_push (p' := 2) rfl rfl ?_
    refine st_putf (p' := 5) (h' := (hG 40 9999 0 40 9999 0 106 8647)) rfl rfl (hG_m ..) rfl (hG_sm ..) ?_
    refine st_aload (p' := 6) rfl rfl rfl ?_
    refine st_iload (p' := 7) rfl rfl rfl ?_
    have c5 : ev_call mt pg 3000 11 233 [.ref 82, .int p0] (hG 40 9999 0 40 9999 0 106 8647) = some (.inl (some (.int 0)), (hG 40 9999 0 40 9999 0 106 8647)) := by
      refine ev_mc rfl ?_ (ev_finx (by first | rfl | decide +kernel) rfl rfl)
      show ev_run (pg 233) (ev_call mt pg 3000 10) 3000 (0, [(0, .ref 82), (1, .int p0)], []) (hG 40 9999 0 40 9999 0 106 8647) = _
      refine st_iload (p' := 1) rfl rfl rfl ?_
      refine st_push (p' := 2) rfl rfl ?_
      refine st_aload (p' := 3) rfl rfl rfl ?_
      refine st_getf (p' := 6) (v := .int 0) rfl rfl (hG_m ..) rfl ?_
      refine st_push (p' := 7) rfl rfl ?_
      refine st_ii (p' := 8) (z := (-1)) rfl rfl (by decide +kernel) ?_
      have c4 : ev_call mt pg 3000 10 230 [.int p0, .int 0, .int (-1)] (hG 40 9999 0 40 9999 0 106 8647) = some (.inl (some (.int 0)), (hG 40 9999 0 40 9999 0 106 8647)) := by
        refine ev_mc rfl ?_ (ev_finx (by first | rfl | decide +kernel) rfl rfl)
        show ev_run (pg 230) (ev_call mt pg 3000 9) 3000 (0, [(0, .int p0), (1, .int 0), (2, .int (-1))], []) (hG 40 9999 0 40 9999 0 106 8647) = _
        refine st_iload (p' := 1) rfl rfl rfl ?_
        refine st_iload (p' := 2) rfl rfl rfl ?_
        refine st_icT (p' := 14) rfl (q_lt (by rw [show (0 : Int32).toInt = 0 from by decide]; omega)) rfl ?_
        refine st_push (p' := 15) rfl rfl ?_
        exact st_ret_i rfl
      refine st_inv (p' := 11) (av := [.int p0, .int 0, .int (-1)]) (s' := [.int 0]) rfl rfl c4 rfl rfl rfl rfl rfl ?_
      exact st_ret_i rfl
    refine st_inv (p' := 10) (av := [.ref 82, .int p0]) (s' := [.int 0]) rfl rfl c5 rfl rfl (q_recv (hG_m ..)) rfl rfl ?_
    refine st_ifF (p' := 13) rfl (by decide +kernel) rfl ?_
    refine st_aload (p' := 14) rfl rfl rfl ?_
    refine st_push (p' := 15) rfl rfl ?_
    have c6 : ev_call mt pg 3000 11 229 [.ref 82, .int 1] (hG 40 9999 0 40 9999 0 106 8647) = some (.inl (some (.int 0)), (hG 40 9999 1 40 9999 0 106 8647)) := by
      refine ev_mc rfl ?_ (ev_finx (by first | rfl | decide +kernel) rfl rfl)
      show ev_run (pg 229) (ev_call mt pg 3000 10) 3000 (0, [(0, .ref 82), (1, .int 1)], []) (hG 40 9999 0 40 9999 0 106 8647) = _
      refine st_aload (p' := 1) rfl rfl rfl ?_
      refine st_iload (p' := 2) rfl rfl rfl ?_
      refine st_putf (p' := 5) (h' := (hG 40 9999 1 40 9999 0 106 8647)) rfl rfl (hG_m ..) rfl (hG_sm ..) ?_
      refine st_push (p' := 6) rfl rfl ?_
      exact st_ret_i rfl
    refine st_inv (p' := 18) (av := [.ref 82, .int 1]) (s' := [.int 0]) rfl rfl c6 rfl rfl (q_recv (hG_m ..)) rfl rfl ?_
    exact st_ret_i rfl
  have c8 : ev_call mt pg 3000 12 228 [.ref 82] (hG 40 9999 1 40 9999 0 106 8647) = some (.inl (some (.int 1)), (hG 40 9999 1 40 9999 0 106 8647)) := by
    refine ev_mc rfl ?_ (ev_finx (by first | rfl | decide +kernel) rfl rfl)
    show ev_run (pg 228) (ev_call mt pg 3000 11) 3000 (0, [(0, .ref 82)], []) (hG 40 9999 1 40 9999 0 106 8647) = _
    refine st_aload (p' := 1) rfl rfl rfl ?_
    refine st_getf (p' := 4) (v := .int 1) rfl rfl (hG_m ..) rfl ?_
    exact st_ret_i rfl
  exact ⟨1, 0, _, _, _, _, c3, hG_m .., c7, hG_m .., c8, (fun h => absurd h (by decide)), Nat.le_of_ble_eq_true rfl, Nat.le_of_ble_eq_true rfl⟩
theorem ag_common_2 (p0 p1 p2 p3 : Int32) (l_p0 : 0 ≤ p0.toInt) : agree 299 245 [.ref 0, .int p0, .int p1, .int p2, .int p3, .ref 104] [.ref 82, .int p0, .int p1, .int p2, .int p3] := by
  have c3 : ev_call mt pg 3000 12 299 [.ref 0, .int p0, .int p1, .int p2, .int p3, .ref 104] (hG 40 9999 0 40 9999 0 105 8641) = some (.inl (some (.int 1)), (hG 40 9999 0 40 9999 0 106 8647)) := by
    refine ev_mc rfl ?_ (ev_finx (by first | rfl | decide +kernel) rfl rfl)
    show ev_run (pg 299) (ev_call mt pg 3000 11) 3000 (0, [(0, .ref 0), (1, .int p0), (2, .int p1), (3, .int p2), (4, .int p3), (5, .ref 104)], []) (hG 40 9999 0 40 9999 0 105 8641) = _
    refine st_aload (p' := 2) rfl rfl rfl ?_
    refine st_push (p' := 3) rfl rfl ?_
    refine st_aload (p' := 4) rfl rfl rfl ?_
    refine st_iload (p' := 5) rfl rfl rfl ?_
    refine st_iload (p' := 6) rfl rfl rfl ?_
    refine st_iload (p' := 7) rfl rfl rfl ?_
    refine st_iload (p' := 9) rfl rfl rfl ?_
    have c2 : ev_call mt pg 3000 11 167 [.ref 0, .int p0, .int p1, .int p2, .int p3] (hG 40 9999 0 40 9999 0 105 8641) = some (.inr "java/lang/IndexOutOfBoundsException", (hG 40 9999 0 40 9999 0 106 8647)) := by
      refine ev_mc rfl ?_ (ev_finX (by decide +kernel) rfl rfl)
      show ev_run (pg 167) (ev_call mt pg 3000 10) 3000 (0, [(0, .ref 0), (1, .int p0), (2, .int p1), (3, .int p2), (4, .int p3)], []) (hG 40 9999 0 40 9999 0 105 8641) = _
      refine st_aload (p' := 1) rfl rfl rfl ?_
      refine st_getf (p' := 4) (v := .ref 1) rfl rfl (hG_x ..) rfl ?_
      refine st_iload (p' := 5) rfl rfl rfl ?_
      have c1 : ev_call mt pg 3000 10 90 [.ref 1, .int p0] (hG 40 9999 0 40 9999 0 105 8641) = some (.inl (some (.int 0)), (hG 40 9999 0 40 9999 0 105 8641)) := by
        refine ev_mc rfl ?_ (ev_finx (by first | rfl | decide +kernel) rfl rfl)
        show ev_run (pg 90) (ev_call mt pg 3000 9) 3000 (0, [(0, .ref 1), (1, .int p0)], []) (hG 40 9999 0 40 9999 0 105 8641) = _
        refine st_iload (p' := 1) rfl rfl rfl ?_
        refine st_ifF (p' := 4) rfl (q_lt' (by rw [show (0 : Int32).toInt = 0 from by decide]; omega)) rfl ?_
        refine st_iload (p' := 5) rfl rfl rfl ?_
        refine st_aload (p' := 6) rfl rfl rfl ?_
        refine st_getf (p' := 9) (v := .int 0) rfl rfl (hG_c1 ..) rfl ?_
        refine st_icT (p' := 22) rfl (q_le (by rw [show (0 : Int32).toInt = 0 from by decide]; omega)) rfl ?_
        refine st_push (p' := 23) rfl rfl ?_
        exact st_ret_i rfl
      refine st_inv (p' := 8) (av := [.ref 1, .int p0]) (s' := [.int 0]) rfl rfl c1 rfl rfl (q_recv (hG_c1 ..)) rfl rfl ?_
      refine st_ifF (p' := 11) rfl (by decide +kernel) rfl ?_
      exact st_throw rfl rfl rfl
    refine st_invC (p' := 19) (q := 6) (l' := [(0, .ref 0), (1, .int p0), (2, .int p1), (3, .int p2), (4, .int p3), (5, .ref 104)]) (av := [.ref 0, .int p0, .int p1, .int p2, .int p3]) rfl rfl c2 rfl rfl (q_recv (hG_x ..)) (by decide +kernel) rfl ?_
    refine st_push (p' := 20) rfl rfl ?_
    exact st_ret_i rfl
  have c7 : ev_call mt pg 3000 12 245 [.ref 82, .int p0, .int p1, .int p2, .int p3] (hG 40 9999 0 40 9999 0 106 8647) = some (.inl (some (.int 0)), (hG 40 9999 1 40 9999 0 106 8647)) := by
    refine ev_mc rfl ?_ (ev_finx (by first | rfl | decide +kernel) rfl rfl)
    show ev_run (pg 245) (ev_call mt pg 3000 11) 3000 (0, [(0, .ref 82), (1, .int p0), (2, .int p1), (3, .int p2), (4, .int p3)], []) (hG 40 9999 0 40 9999 0 106 8647) = _
    refine st_aload (p' := 1) rfl rfl rfl ?_
    refine st_push (p' := 2) rfl rfl ?_
    refine st_putf (p' := 5) (h' := (hG 40 9999 0 40 9999 0 106 8647)) rfl rfl (hG_m ..) rfl (hG_sm ..) ?_
    refine st_aload (p' := 6) rfl rfl rfl ?_
    refine st_iload (p' := 7) rfl rfl rfl ?_
    have c5 : ev_call mt pg 3000 11 233 [.ref 82, .int p0] (hG 40 9999 0 40 9999 0 106 8647) = some (.inl (some (.int 0)), (hG 40 9999 0 40 9999 0 106 8647)) := by
      refine ev_mc rfl ?_ (ev_finx (by first | rfl | decide +kernel) rfl rfl)
      show ev_run (pg 233) (ev_call mt pg 3000 10) 3000 (0, [(0, .ref 82), (1, .int p0)], []) (hG 40 9999 0 40 9999 0 106 8647) = _
      refine st_iload (p' := 1) rfl rfl rfl ?_
      refine st_push (p' := 2) rfl rfl ?_
      refine st_aload (p' := 3) rfl rfl rfl ?_
      refine st_getf (p' := 6) (v := .int 0) rfl rfl (hG_m ..) rfl ?_
      refine st_push (p' := 7) rfl rfl ?_
      refine st_ii (p' := 8) (z := (-1)) rfl rfl (by decide +kernel) ?_
      have c4 : ev_call mt pg 3000 10 230 [.int p0, .int 0, .int (-1)] (hG 40 9999 0 40 9999 0 106 8647) = some (.inl (some (.int 0)), (hG 40 9999 0 40 9999 0 106 8647)) := by
        refine ev_mc rfl ?_ (ev_finx (by first | rfl | decide +kernel) rfl rfl)
        show ev_run (pg 230) (ev_call mt pg 3000 9) 3000 (0, [(0, .int p0), (1, .int 0), (2, .int (-1))], []) (hG 40 9999 0 40 9999 0 106 8647) = _
        refine st_iload (p' := 1) rfl rfl rfl ?_
        refine st_iload (p' := 2) rfl rfl rfl ?_
        refine st_icF (p' := 5) rfl (q_lt' (by rw [show (0 : Int32).toInt = 0 from by decide]; omega)) rfl ?_
        refine st_iload (p' := 6) rfl rfl rfl ?_
        refine st_iload (p' := 7) rfl rfl rfl ?_
        refine st_icT (p' := 14) rfl (q_lt (by rw [show ((-1) : Int32).toInt = (-1) from by decide]; omega)) rfl ?_
        refine st_push (p' := 15) rfl rfl ?_
        exact st_ret_i rfl
      refine st_inv (p' := 11) (av := [.int p0, .int 0, .int (-1)]) (s' := [.int 0]) rfl rfl c4 rfl rfl rfl rfl rfl ?_
      exact st_ret_i rfl
    refine st_inv (p' := 10) (av := [.ref 82, .int p0]) (s' := [.int 0]) rfl rfl c5 rfl rfl (q_recv (hG_m ..)) rfl rfl ?_
    refine st_ifF (p' := 13) rfl (by decide +kernel) rfl ?_
    refine st_aload (p' := 14) rfl rfl rfl ?_
    refine st_push (p' := 15) rfl rfl ?_
    have c6 : ev_call mt pg 3000 11 229 [.ref 82, .int 1] (hG 40 9999 0 40 9999 0 106 8647) = some (.inl (some (.int 0)), (hG 40 9999 1 40 9999 0 106 8647)) := by
      refine ev_mc rfl ?_ (ev_finx (by first | rfl | decide +kernel) rfl rfl)
      show ev_run (pg 229) (ev_call mt pg 3000 10) 3000 (0, [(0, .ref 82), (1, .int 1)], []) (hG 40 9999 0 40 9999 0 106 8647) = _
      refine st_aload (p' := 1) rfl rfl rfl ?_
      refine st_iload (p' := 2) rfl rfl rfl ?_
      refine st_putf (p' := 5) (h' := (hG 40 9999 1 40 9999 0 106 8647)) rfl rfl (hG_m ..) rfl (hG_sm ..) ?_
      refine st_push (p' := 6) rfl rfl ?_
      exact st_ret_i rfl
    refine st_inv (p' := 18) (av := [.ref 82, .int 1]) (s' := [.int 0]) rfl rfl c6 rfl rfl (q_recv (hG_m ..)) rfl rfl ?_
    exact st_ret_i rfl
  have c8 : ev_call mt pg 3000 12 228 [.ref 82] (hG 40 9999 1 40 9999 0 106 8647) = some (.inl (some (.int 1)), (hG 40 9999 1 40 9999 0 106 8647)) := by
    refine ev_mc rfl ?_ (ev_finx (by first | rfl | decide +kernel) rfl rfl)
    show ev_run (pg 228) (ev_call mt pg 3000 11) 3000 (0, [(0, .ref 82)], []) (hG 40 9999 1 40 9999 0 106 8647) = _
    refine st_aload (p' := 1) rfl rfl rfl ?_
    refine st_getf (p' := 4) (v := .int 1) rfl rfl (hG_m ..) rfl ?_
    exact st_ret_i rfl
  exact ⟨1, 0, _, _, _, _, c3, hG_m .., c7, hG_m .., c8, (fun h => absurd h (by decide)), Nat.le_of_ble_eq_true rfl, Nat.le_of_ble_eq_true rfl⟩
theorem ag_common (p0 p1 p2 p3 : Int32)  : agree 299 245 [.ref 0, .int p0, .int p1, .int p2, .int p3, .ref 104] [.ref 82, .int p0, .int p1, .int p2, .int p3] := by
  rcases Int.lt_or_le p0.toInt 0 with h | h
  · exact ag_common_1 p0 p1 p2 p3 (by omega)
  · exact ag_common_2 p0 p1 p2 p3 (by omega)
theorem ag_item_1 (p0 p1 : Int32) (u_p0 : p0.toInt ≤ 0) : agree 300 247 [.ref 0, .int p0, .int p1, .ref 104] [.ref 82, .int p0, .int p1] := by
  have c2 : ev_call mt pg 3000 12 300 [.ref 0, .int p0, .int p1, .ref 104] (hG 40 9999 0 40 9999 0 105 8641) = some (.inl (some (.int 1)), (hG 40 9999 0 40 9999 0 106 8647)) := by
    refine ev_mc rfl ?_ (ev_finx (by first | rfl | decide +kernel) rfl rfl)
    show ev_run (pg 300) (ev_call mt pg 3000 11) 3000 (0, [(0, .ref 0), (1, .int p0), (2, .int p1), (3, .ref 104)], []) (hG 40 9999 0 40 9999 0 105 8641) = _
    refine st_aload (p' := 1) rfl rfl rfl ?_
    refine st_push (p' := 2) rfl rfl ?_
    refine st_aload (p' := 3) rfl rfl rfl ?_
    refine st_iload (p' := 4) rfl rfl rfl ?_
    refine st_iload (p' := 5) rfl rfl rfl ?_
    have c1 : ev_call mt pg 3000 11 168 [.ref 0, .int p0, .int p1] (hG 40 9999 0 40 9999 0 105 8641) = some (.inr "java/lang/IllegalArgumentException", (hG 40 9999 0 40 9999 0 106 8647)) := by
      refine ev_mc rfl ?_ (ev_finX (by decide +kernel) rfl rfl)
      show ev_run (pg 168) (ev_call mt pg 3000 10) 3000 (0, [(0, .ref 0), (1, .int p0), (2, .int p1)], []) (hG 40 9999 0 40 9999 0 105 8641) = _
      refine st_iload (p' := 1) rfl rfl rfl ?_
      refine st_push (p' := 2) rfl rfl ?_
      refine st_icT (p' := 25) rfl (q_lt (by rw [show (1 : Int32).toInt = 1 from by decide]; omega)) rfl ?_
      exact st_throw rfl rfl rfl
    refine st_invC (p' := 15) (q := 4) (l' := [(0, .ref 0), (1, .int p0), (2, .int p1), (3, .ref 104)]) (av := [.ref 0, .int p0, .int p1]) rfl rfl c1 rfl rfl (q_recv (hG_x ..)) (by decide +kernel) rfl ?_
    refine st_push (p' := 16) rfl rfl ?_
    exact st_ret_i rfl
  have c5 : ev_call mt pg 3000 12 247 [.ref 82, .int p0, .int p1] (hG 40 9999 0 40 9999 0 106 8647) = some (.inl (some (.int 0)), (hG 40 9999 1 40 9999 0 106 8647)) := by
    refine ev_mc rfl ?_ (ev_finx (by first | rfl | decide +kernel) rfl rfl)
    show ev_run (pg 247) (ev_call mt pg 3000 11) 3000 (0, [(0, .ref 82), (1, .int p0), (2, .int p1)], []) (hG 40 9999 0 40 9999 0 106 8647) = _
    refine st_aload (p' := 1) rfl rfl rfl ?_
    refine st_push (p' := 2) rfl rfl ?_
    refine st_putf (p' := 5) (h' := (hG 40 9999 0 40 9999 0 106 8647)) rfl rfl (hG_m ..) rfl (hG_sm ..) ?_
    refine st_iload (p' := 6) rfl rfl rfl ?_
    refine st_push (p' := 7) rfl rfl ?_
    refine st_push (p' := 8) rfl rfl ?_
    refine st_aload (p' := 9) rfl rfl rfl ?_
    refine st_getf (p' := 12) (v := .int 0) rfl rfl (hG_m ..) rfl ?_
    refine st_ii (p' := 13) (z := 1) rfl rfl (by decide +kernel) ?_
    refine st_push (p' := 14) rfl rfl ?_
    refine st_ii (p' := 15) (z := 0) rfl rfl (by decide +kernel) ?_
    have c3 : ev_call mt pg 3000 11 230 [.int p0, .int 1, .int 0] (hG 40 9999 0 40 9999 0 106 8647) = some (.inl (some (.int 0)), (hG 40 9999 0 40 9999 0 106 8647)) := by
      refine ev_mc rfl ?_ (ev_finx (by first | rfl | decide +kernel) rfl rfl)
      show ev_run (pg 230) (ev_call mt pg 3000 10) 3000 (0, [(0, .int p0), (1, .int 1), (2, .int 0)], []) (hG 40 9999 0 40 9999 0 106 8647) = _
      refine st_iload (p' := 1) rfl rfl rfl ?_
      refine st_iload (p' := 2) rfl rfl rfl ?_
      refine st_icT (p' := 14) rfl (q_lt (by rw [show (1 : Int32).toInt = 1 from by decide]; omega)) rfl ?_
      refine st_push (p' := 15) rfl rfl ?_
      exact st_ret_i rfl
    refine st_inv (p' := 18) (av := [.int p0, .int 1, .int 0]) (s' := [.int 0]) rfl rfl c3 rfl rfl rfl rfl rfl ?_
    refine st_ifT (p' := 30) rfl (by decide +kernel) rfl ?_
    refine st_aload (p' := 31) rfl rfl rfl ?_
    refine st_push (p' := 32) rfl rfl ?_
    have c4 : ev_call mt pg 3000 11 229 [.ref 82, .int 1] (hG 40 9999 0 40 9999 0 106 8647) = some (.inl (some (.int 0)), (hG 40 9999 1 40 9999 0 106 8647)) := by
      refine ev_mc rfl ?_ (ev_finx (by first | rfl | decide +kernel) rfl rfl)
      show ev_run (pg 229) (ev_call mt pg 3000 10) 3000 (0, [(0, .ref 82), (1, .int 1)], []) (hG 40 9999 0 40 9999 0 106 8647) = _
      refine st_aload (p' := 1) rfl rfl rfl ?_
      refine st_iload (p' := 2) rfl rfl rfl ?_
      refine st_putf (p' := 5) (h' := (hG 40 9999 1 40 9999 0 106 8647)) rfl rfl (hG_m ..) rfl (hG_sm ..) ?_
      refine st_push (p' := 6) rfl rfl ?_
      exact st_ret_i rfl
    refine st_inv (p' := 35) (av := [.ref 82, .int 1]) (s' := [.int 0]) rfl rfl c4 rfl rfl (q_recv (hG_m ..)) rfl rfl ?_
    exact st_ret_i rfl
  have c6 : ev_call mt pg 3000 12 228 [.ref 82] (hG 40 9999 1 40 9999 0 106 8647) = some (.inl (some (.int 1)), (hG 40 9999 1 40 9999 0 106 8647)) := by
    refine ev_mc rfl ?_ (ev_finx (by first | rfl | decide +kernel) rfl rfl)
    show ev_run (pg 228) (ev_call mt pg 3000 11) 3000 (0, [(0, .ref 82)], []) (hG 40 9999 1 40 9999 0 106 8647) = _
    refine st_aload (p' := 1) rfl rfl rfl ?_
    refine st_getf (p' := 4) (v := .int 1) rfl rfl (hG_m ..) rfl ?_
    exact st_ret_i rfl
  exact ⟨1, 0, _, _, _, _, c2, hG_m .., c5, hG_m .., c6, (fun h => absurd h (by decide)), Nat.le_of_ble_eq_true rfl, Nat.le_of_ble_eq_true rfl⟩
theorem ag_item_2 (p0 p1 : Int32) (l_p0 : 1 ≤ p0.toInt) : agree 300 247 [.ref 0, .int p0, .int p1, .ref 104] [.ref 82, .int p0, .int p1] := by
  have c3 : ev_call mt pg 3000 12 300 [.ref 0, .int p0, .int p1, .ref 104] (hG 40 9999 0 40 9999 0 105 8641) = some (.inl (some (.int 1)), (hG 40 9999 0 40 9999 0 106 8647)) := by
    refine ev_mc rfl ?_ (ev_finx (by first | rfl | decide +kernel) rfl rfl)
    show ev_run (pg 300) (ev_call mt pg 3000 11) 3000 (0, [(0, .ref 0), (1, .int p0), (2, .int p1), (3, .ref 104)], []) (hG 40 9999 0 40 9999 0 105 8641) = _
    refine st_aload (p' := 1) rfl rfl rfl ?_
    refine st_push (p' := 2) rfl rfl ?_
    refine st_aload (p' := 3) rfl rfl rfl ?_
    refine st_iload (p' := 4) rfl rfl rfl ?_
    refine st_iload (p' := 5) rfl rfl rfl ?_
    have c2 : ev_call mt pg 3000 11 168 [.ref 0, .int p0, .int p1] (hG 40 9999 0 40 9999 0 105 8641) = some (.inr "java/lang/IllegalArgumentException", (hG 40 9999 0 40 9999 0 106 8647)) := by
      refine ev_mc rfl ?_ (ev_finX (by decide +kernel) rfl rfl)
      show ev_run (pg 168) (ev_call mt pg 3000 10) 3000 (0, [(0, .ref 0), (1, .int p0), (2, .int p1)], []) (hG 40 9999 0 40 9999 0 105 8641) = _
      refine st_iload (p' := 1) rfl rfl rfl ?_
      refine st_push (p' := 2) rfl rfl ?_
      refine st_icF (p' := 5) rfl (q_lt' (by rw [show (1 : Int32).toInt = 1 from by decide]; omega)) rfl ?_
      refine st_aload (p' := 6) rfl rfl rfl ?_
      refine st_getf (p' := 9) (v := .ref 1) rfl rfl (hG_x ..) rfl ?_
      refine st_iload (p' := 10) rfl rfl rfl ?_
      have c1 : ev_call mt pg 3000 10 91 [.ref 1, .int p0] (hG 40 9999 0 40 9999 0 105 8641) = some (.inl (some (.int 0)), (hG 40 9999 0 40 9999 0 105 8641)) := by
        refine ev_mc rfl ?_ (ev_finx (by first | rfl | decide +kernel) rfl rfl)
        show ev_run (pg 91) (ev_call mt pg 3000 9) 3000 (0, [(0, .ref 1), (1, .int p0)], []) (hG 40 9999 0 40 9999 0 105 8641) = _
        refine st_iload (p' := 1) rfl rfl rfl ?_
        refine st_aload (p' := 2) rfl rfl rfl ?_
        refine st_getf (p' := 5) (v := .int 0) rfl rfl (hG_c1 ..) rfl ?_
        refine st_ii (p' := 6) (z := p0) rfl rfl (q_shr0 _) ?_
        refine st_ifT (p' := 13) rfl (q_ne (by rw [show (0 : Int32).toInt = 0 from by decide]; omega)) rfl ?_
        refine st_push (p' := 14) rfl rfl ?_
        exact st_ret_i rfl
      refine st_inv (p' := 13) (av := [.ref 1, .int p0]) (s' := [.int 0]) rfl rfl c1 rfl rfl (q_recv (hG_c1 ..)) rfl rfl ?_
      refine st_ifT (p' := 25) rfl (by decide +kernel) rfl ?_
      exact st_throw rfl rfl rfl
    refine st_invC (p' := 15) (q := 4) (l' := [(0, .ref 0), (1, .int p0), (2, .int p1), (3, .ref 104)]) (av := [.ref 0, .int p0, .int p1]) rfl rfl c2 rfl rfl (q_recv (hG_x ..)) (by decide +kernel) rfl ?_
    refine st_push (p' := 16) rfl rfl ?_
    exact st_ret_i rfl
  have c6 : ev_call mt pg 3000 12 247 [.ref 82, .int p0, .int p1] (hG 40 9999 0 40 9999 0 106 8647) = some (.inl (some (.int 0)), (hG 40 9999 1 40 9999 0 106 8647)) := by
    refine ev_mc rfl ?_ (ev_finx (by first | rfl | decide +kernel) rfl rfl)
    show ev_run (pg 247) (ev_call mt pg 3000 11) 3000 (0, [(0, .ref 82), (1, .int p0), (2, .int p1)], []) (hG 40 9999 0 40 9999 0 106 8647) = _
    refine st_aload (p' := 1) rfl rfl rfl ?_
    refine st_push (p' := 2) rfl rfl ?_
    refine st_putf (p' := 5) (h' := (hG 40 9999 0 40 9999 0 106 8647)) rfl rfl (hG_m ..) rfl (hG_sm ..) ?_
    refine st_iload (p' := 6) rfl rfl rfl ?_
    refine st_push (p' := 7) rfl rfl ?_
    refine st_push (p' := 8) rfl rfl ?_
    refine st_aload (p' := 9) rfl rfl rfl ?_
    refine st_getf (p' := 12) (v := .int 0) rfl rfl (hG_m ..) rfl ?_
    refine st_ii (p' := 13) (z := 1) rfl rfl (by decide +kernel) ?_
    refine st_push (p' := 14) rfl rfl ?_
    refine st_ii (p' := 15) (z := 0) rfl rfl (by decide +kernel) ?_
    have c4 : ev_call mt pg 3000 11 230 [.int p0, .int 1, .int 0] (hG 40 9999 0 40 9999 0 106 8647) = some (.inl (some (.int 0)), (hG 40 9999 0 40 9999 0 106 8647)) := by
      refine ev_mc rfl ?_ (ev_finx (by first | rfl | decide +kernel) rfl rfl)
      show ev_run (pg 230) (ev_call mt pg 3000 10) 3000 (0, [(0, .int p0), (1, .int 1), (2, .int 0)], []) (hG 40 9999 0 40 9999 0 106 8647) = _
      refine st_iload (p' := 1) rfl rfl rfl ?_
      refine st_iload (p' := 2) rfl rfl rfl ?_
      refine st_icF (p' := 5) rfl (q_lt' (by rw [show (1 : Int32).toInt = 1 from by decide]; omega)) rfl ?_
      refine st_iload (p' := 6) rfl rfl rfl ?_
      refine st_iload (p' := 7) rfl rfl rfl ?_
      refine st_icT (p' := 14) rfl (q_lt (by rw [show (0 : Int32).toInt = 0 from by decide]; omega)) rfl ?_
      refine st_push (p' := 15) rfl rfl ?_
      exact st_ret_i rfl
    refine st_inv (p' := 18) (av := [.int p0, .int 1, .int 0]) (s' := [.int 0]) rfl rfl c4 rfl rfl rfl rfl rfl ?_
    refine st_ifT (p' := 30) rfl (by decide +kernel) rfl ?_
    refine st_aload (p' := 31) rfl rfl rfl ?_
    refine st_push (p' := 32) rfl rfl ?_
    have c5 : ev_call mt pg 3000 11 229 [.ref 82, .int 1] (hG 40 9999 0 40 9999 0 106 8647) = some (.inl (some (.int 0)), (hG 40 9999 1 40 9999 0 106 8647)) := by
      refine ev_mc rfl ?_ (ev_finx (by first | rfl | decide +kernel) rfl rfl)
      show ev_run (pg 229) (ev_call mt pg 3000 10) 3000 (0, [(0, .ref 82), (1, .int 1)], []) (hG 40 9999 0 40 9999 0 106 8647) = _
      refine st_aload (p' := 1) rfl rfl rfl ?_
      refine st_iload (p' := 2) rfl rfl rfl ?_
      refine st_putf (p' := 5) (h' := (hG 40 9999 1 40 9999 0 106 8647)) rfl rfl (hG_m ..) rfl (hG_sm ..) ?_
      refine st_push (p' := 6) rfl rfl ?_
      exact st_ret_i rfl
    refine st_inv (p' := 35) (av := [.ref 82, .int 1]) (s' := [.int 0]) rfl rfl c5 rfl rfl (q_recv (hG_m ..)) rfl rfl ?_
    exact st_ret_i rfl
  have c7 : ev_call mt pg 3000 12 228 [.ref 82] (hG 40 9999 1 40 9999 0 106 8647) = some (.inl (some (.int 1)), (hG 40 9999 1 40 9999 0 106 8647)) := by
    refine ev_mc rfl ?_ (ev_finx (by first | rfl | decide +kernel) rfl rfl)
    show ev_run (pg 228) (ev_call mt pg 3000 11) 3000 (0, [(0, .ref 82)], []) (hG 40 9999 1 40 9999 0 106 8647) = _
    refine st_aload (p' := 1) rfl rfl rfl ?_
    refine st_getf (p' := 4) (v := .int 1) rfl rfl (hG_m ..) rfl ?_
    exact st_ret_i rfl
  exact ⟨1, 0, _, _, _, _, c3, hG_m .., c6, hG_m .., c7, (fun h => absurd h (by decide)), Nat.le_of_ble_eq_true rfl, Nat.le_of_ble_eq_true rfl⟩
theorem ag_item (p0 p1 : Int32)  : agree 300 247 [.ref 0, .int p0, .int p1, .ref 104] [.ref 82, .int p0, .int p1] := by
  rcases Int.lt_or_le p0.toInt 1 with h | h
  · exact ag_item_1 p0 p1 (by omega)
  · exact ag_item_2 p0 p1 (by omega)
theorem ag_ofObject_1 (p0 p1 : Int32) (u_p0 : p0.toInt ≤ -1) : agree 301 251 [.ref 0, .int p0, .int p1, .ref 104] [.ref 82, .int p0, .int p1] := by
  have c3 : ev_call mt pg 3000 12 301 [.ref 0, .int p0, .int p1, .ref 104] (hG 40 9999 0 40 9999 0 105 8641) = some (.inl (some (.int 1)), (hG 40 9999 0 40 9999 0 106 8647)) := by
    refine ev_mc rfl ?_ (ev_finx (by first | rfl | decide +kernel) rfl rfl)
    show ev_run (pg 301) (ev_call mt pg 3000 11) 3000 (0, [(0, .ref 0), (1, .int p0), (2, .int p1), (3, .ref 104)], []) (hG 40 9999 0 40 9999 0 105 8641) = _
    refine st_aload (p' := 1) rfl rfl rfl ?_
    refine st_push (p' := 2) rfl rfl ?_
    refine st_aload (p' := 3) rfl rfl rfl ?_
    refine st_iload (p' := 4) rfl rfl rfl ?_
    refine st_iload (p' := 5) rfl rfl rfl ?_
    have c2 : ev_call mt pg 3000 11 170 [.ref 0, .int p0, .int p1] (hG 40 9999 0 40 9999 0 105 8641) = some (.inr "java/lang/IndexOutOfBoundsException", (hG 40 9999 0 40 9999 0 106 8647)) := by
      refine ev_mc rfl ?_ (ev_finX (by decide +kernel) rfl rfl)
      show ev_run (pg 170) (ev_call mt pg 3000 10) 3000 (0, [(0, .ref 0), (1, .int p0), (2, .int p1)], []) (hG 40 9999 0 40 9999 0 105 8641) = _
      refine st_aload (p' := 1) rfl rfl rfl ?_
      refine st_getf (p' := 4) (v := .ref 1) rfl rfl (hG_x ..) rfl ?_
      refine st_iload (p' := 5) rfl rfl rfl ?_
      have c1 : ev_call mt pg 3000 10 90 [.ref 1, .int p0] (hG 40 9999 0 40 9999 0 105 8641) = some (.inl (some (.int 0)), (hG 40 9999 0 40 9999 0 105 8641)) := by
        refine ev_mc rfl ?_ (ev_finx (by first | rfl | decide +kernel) rfl rfl)
        show ev_run (pg 90) (ev_call mt pg 3000 9) 3000 (0, [(0, .ref 1), (1, .int p0)], []) (hG 40 9999 0 40 9999 0 105 8641) = _
        refine st_iload (p' := 1) rfl rfl rfl ?_
        refine st_ifT (p' := 22) rfl (q_lt (by rw [show (0 : Int32).toInt = 0 from by decide]; omega)) rfl ?_
        refine st_push (p' := 23) rfl rfl ?_
        exact st_ret_i rfl
      refine st_inv (p' := 8) (av := [.ref 1, .int p0]) (s' := [.int 0]) rfl rfl c1 rfl rfl (q_recv (hG_c1 ..)) rfl rfl ?_
      refine st_ifF (p' := 11) rfl (by decide +kernel) rfl ?_
      exact st_throw rfl rfl rfl
    refine st_invC (p' := 15) (q := 4) (l' := [(0, .ref 0), (1, .int p0), (2, .int p1), (3, .ref 104)]) (av := [.ref 0, .int p0, .int p1]) rfl rfl c2 rfl rfl (q_recv (hG_x ..)) (by decide +kernel) rfl ?_
    refine st_push (p' := 16) rfl rfl ?_
    exact st_ret_i rfl
  have c7 : ev_call mt pg 3000 12 251 [.ref 82, .int p0, .int p1] (hG 40 9999 0 40 9999 0 106 8647) = some (.inl (some (.int 0)), (hG 40 9999 1 40 9999 0 106 8647)) := by
    refine ev_mc rfl ?_ (ev_finx (by first | rfl | decide +kernel) rfl rfl)
    show ev_run (pg 251) (ev_call mt pg 3000 11) 3000 (0, [(0, .ref 82), (1, .int p0), (2, .int p1)], []) (hG 40 9999 0 40 9999 0 106 8647) = _
    refine st_aload (p' := 1) rfl rfl rfl ?_
    refine st_push (p' := 2) rfl rfl ?_
    refine st_putf (p' := 5) (h' := (hG 40 9999 0 40 9999 0 106 8647)) rfl rfl (hG_m ..) rfl (hG_sm ..) ?_
    refine st_aload (p' := 6) rfl rfl rfl ?_
    refine st_iload (p' := 7) rfl rfl rfl ?_
    have c5 : ev_call mt pg 3000 11 233 [.ref 82, .int p0] (hG 40 9999 0 40 9999 0 106 8647) = some (.inl (some (.int 0)), (hG 40 9999 0 40 9999 0 106 8647)) := by
      refine ev_mc rfl ?_ (ev_finx (by first | rfl | decide +kernel) rfl rfl)
      show ev_run (pg 233) (ev_call mt pg 3000 10) 3000 (0, [(0, .ref 82), (1, .int p0)], []) (hG 40 9999 0 40 9999 0 106 8647) = _
      refine st_iload (p' := 1) rfl rfl rfl ?_
      refine st_push (p' := 2) rfl rfl ?_
      refine st_aload (p' := 3) rfl rfl rfl ?_
      refine st_getf (p' := 6) (v := .int 0) rfl rfl (hG_m ..) rfl ?_
      refine st_push (p' := 7) rfl rfl ?_
      refine st_ii (p' := 8) (z := (-1)) rfl rfl (by decide +kernel) ?_
      have c4 : ev_call mt pg 3000 10 230 [.int p0, .int 0, .int (-1)] (hG 40 9999 0 40 9999 0 106 8647) = some (.inl (some (.int 0)), (hG 40 9999 0 40 9999 0 106 8647)) := by
        refine ev_mc rfl ?_ (ev_finx (by first | rfl | decide +kernel) rfl rfl)
        show ev_run (pg 230) (ev_call mt pg 3000 9) 3000 (0, [(0, .int p0), (1, .int 0), (2, .int (-1))], []) (hG 40 9999 0 40 9999 0 106 8647) = _
        refine st_iload (p' := 1) rfl rfl rfl ?_
        refine st_iload (p' := 2) rfl rfl rfl ?_
        refine st_icT (p' := 14) rfl (q_lt (by rw [show (0 : Int32).toInt = 0 from by decide]; omega)) rfl ?_
        refine st_push (p' := 15) rfl rfl ?_
        exact st_ret_i rfl
      refine st_inv (p' := 11) (av := [.int p0, .int 0, .int (-1)]) (s' := [.int 0]) rfl rfl c4 rfl rfl rfl rfl rfl ?_
      exact st_ret_i rfl
    refine st_inv (p' := 10) (av := [.ref 82, .int p0]) (s' := [.int 0]) rfl rfl c5 rfl rfl (q_recv (hG_m ..)) rfl rfl ?_
    refine st_ifF (p' := 13) rfl (by decide +kernel) rfl ?_
    refine st_aload (p' := 14) rfl rfl rfl ?_
    refine st_push (p' := 15) rfl rfl ?_
    have c6 : ev_call mt pg 3000 11 229 [.ref 82, .int 1] (hG 40 9999 0 40 9999 0 106 8647) = some (.inl (some (.int 0)), (hG 40 9999 1 40 9999 0 106 8647)) := by
      refine ev_mc rfl ?_ (ev_finx (by first | rfl | decide +kernel) rfl rfl)
      show ev_run (pg 229) (ev_call mt pg 3000 10) 3000 (0, [(0, .ref 82), (1, .int 1)], []) (hG 40 9999 0 40 9999 0 106 8647) = _
      refine st_aload (p' := 1) rfl rfl rfl ?_
      refine st_iload (p' := 2) rfl rfl rfl ?_
      refine st_putf (p' := 5) (h' := (hG 40 9999 1 40 9999 0 106 8647)) rfl rfl (hG_m ..) rfl (hG_sm ..) ?_
      refine st_push (p' := 6) rfl rfl ?_
      exact st_ret_i rfl
    refine st_inv (p' := 18) (av := [.ref 82, .int 1]) (s' := [.int 0]) rfl rfl c6 rfl rfl (q_recv (hG_m ..)) rfl rfl ?_
    exact st_ret_i rfl
  have c8 : ev_call mt pg 3000 12 228 [.ref 82] (hG 40 9999 1 40 9999 0 106 8647) = some (.inl (some (.int 1)), (hG 40 9999 1 40 9999 0 106 8647)) := by
    refine ev_mc rfl ?_ (ev_finx (by first | rfl | decide +kernel) rfl rfl)
    show ev_run (pg 228) (ev_call mt pg 3000 11) 3000 (0, [(0, .ref 82)], []) (hG 40 9999 1 40 9999 0 106 8647) = _
    refine st_aload (p' := 1) rfl rfl rfl ?_
    refine st_getf (p' := 4) (v := .int 1) rfl rfl (hG_m ..) rfl ?_
    exact st_ret_i rfl
  exact ⟨1, 0, _, _, _, _, c3, hG_m .., c7, hG_m .., c8, (fun h => absurd h (by decide)), Nat.le_of_ble_eq_true rfl, Nat.le_of_ble_eq_true rfl⟩
theorem ag_ofObject_2 (p0 p1 : Int32) (l_p0 : 0 ≤ p0.toInt) : agree 301 251 [.ref 0, .int p0, .int p1, .ref 104] [.ref 82, .int p0, .int p1] := by
  have c3 : ev_call mt pg 3000 12 301 [.ref 0, .int p0, .int p1, .ref 104] (hG 40 9999 0 40 9999 0 105 8641) = some (.inl (some (.int 1)), (hG 40 9999 0 40 9999 0 106 8647)) := by
    refine ev_mc rfl ?_ (ev_finx (by first | rfl | decide +kernel) rfl rfl)
    show ev_run (pg 301) (ev_call mt pg 3000 11) 3000 (0, [(0, .ref 0), (1, .int p0), (2, .int p1), (3, .ref 104)], []) (hG 40 9999 0 40 9999 0 105 8641) = _
    refine st_aload (p' := 1) rfl rfl rfl ?_
    refine st_push (p' := 2) rfl rfl ?_
    refine st_aload (p' := 3) rfl rfl rfl ?_
    refine st_iload (p' := 4) rfl rfl rfl ?_
    refine st_iload (p' := 5) rfl rfl rfl ?_
    have c2 : ev_call mt pg 3000 11 170 [.ref 0, .int p0, .int p1] (hG 40 9999 0 40 9999 0 105 8641) = some (.inr "java/lang/IndexOutOfBoundsException", (hG 40 9999 0 40 9999 0 106 8647)) := by
      refine ev_mc rfl ?_ (ev_finX (by decide +kernel) rfl rfl)
      show ev_run (pg 170) (ev_call mt pg 3000 10) 3000 (0, [(0, .ref 0), (1, .int p0), (2, .int p1)], []) (hG 40 9999 0 40 9999 0 105 8641) = _
      refine st_aload (p' := 1) rfl rfl rfl ?_
      refine st_getf (p' := 4) (v := .ref 1) rfl rfl (hG_x ..) rfl ?_
      refine st_iload (p' := 5) rfl rfl rfl ?_
      have c1 : ev_call mt pg 3000 10 90 [.ref 1, .int p0] (hG 40 9999 0 40 9999 0 105 8641) = some (.inl (some (.int 0)), (hG 40 9999 0 40 9999 0 105 8641)) := by
        refine ev_mc rfl ?_ (ev_finx (by first | rfl | decide +kernel) rfl rfl)
        show ev_run (pg 90) (ev_call mt pg 3000 9) 3000 (0, [(0, .ref 1), (1, .int p0)], []) (hG 40 9999 0 40 9999 0 105 8641) = _
        refine st_iload (p' := 1) rfl rfl rfl ?_
        refine st_ifF (p' := 4) rfl (q_lt' (by rw [show (0 : Int32).toInt = 0 from by decide]; omega)) rfl ?_
        refine st_iload (p' := 5) rfl rfl rfl ?_
        refine st_aload (p' := 6) rfl rfl rfl ?_
        refine st_getf (p' := 9) (v := .int 0) rfl rfl (hG_c1 ..) rfl ?_
        refine st_icT (p' := 22) rfl (q_le (by rw [show (0 : Int32).toInt = 0 from by decide]; omega)) rfl ?_
        refine st_push (p' := 23) rfl rfl ?_
        exact st_ret_i rfl
      refine st_inv (p' := 8) (av := [.ref 1, .int p0]) (s' := [.int 0]) rfl rfl c1 rfl rfl (q_recv (hG_c1 ..)) rfl rfl ?_
      refine st_ifF (p' := 11) rfl (by decide +kernel) rfl ?_
      exact st_throw rfl rfl rfl
    refine st_invC (p' := 15) (q := 4) (l' := [(0, .ref 0), (1, .int p0), (2, .int p1), (3, .ref 104)]) (av := [.ref 0, .int p0, .int p1]) rfl rfl c2 rfl rfl (q_recv (hG_x ..)) (by decide +kernel) rfl ?_
    refine st_push (p' := 16) rfl rfl ?_
    exact st_ret_i rfl
  have c7 : ev_call mt pg 3000 12 251 [.ref 82, .int p0, .int p1] (hG 40 9999 0 40 9999 0 106 8647) = some (.inl (some (.int 0)), (hG 40 9999 1 40 9999 0 106 8647)) := by
    refine ev_mc rfl ?_ (ev_finx (by first | rfl | decide +kernel) rfl rfl)
    show ev_run (pg 251) (ev_call mt pg 3000 11) 3000 (0, [(0, .ref 82), (1, .int p0), (2, .int p1)], []) (hG 40 9999 0 40 9999 0 106 8647) = _
    refine st_aload (p' := 1) rfl rfl rfl ?_
    refine st_push (p' := 2) rfl rfl ?_
    refine st_putf (p' := 5) (h' := (hG 40 9999 0 40 9999 0 106 8647)) rfl rfl (hG_m ..) rfl (hG_sm ..) ?_
    refine st_aload (p' := 6) rfl rfl rfl ?_
    refine st_iload (p' := 7) rfl rfl rfl ?_
    have c5 : ev_call mt pg 3000 11 233 [.ref 82, .int p0] (hG 40 9999 0 40 9999 0 106 8647) = some (.inl (some (.int 0)), (hG 40 9999 0 40 9999 0 106 8647)) := by
      refine ev_mc rfl ?_ (ev_finx (by first | rfl | decide +kernel) rfl rfl)
      show ev_run (pg 233) (ev_call mt pg 3000 10) 3000 (0, [(0, .ref 82), (1, .int p0)], []) (hG 40 9999 0 40 9999 0 106 8647) = _
      refine st_iload (p' := 1) rfl rfl rfl ?_
      refine st_push (p' := 2) rfl rfl ?_
      refine st_aload (p' := 3) rfl rfl rfl ?_
      refine st_getf (p' := 6) (v := .int 0) rfl rfl (hG_m ..) rfl ?_
      refine st_push (p' := 7) rfl rfl ?_
      refine st_ii (p' := 8) (z := (-1)) rfl rfl (by decide +kernel) ?_
      have c4 : ev_call mt pg 3000 10 230 [.int p0, .int 0, .int (-1)] (hG 40 9999 0 40 9999 0 106 8647) = some (.inl (some (.int 0)), (hG 40 9999 0 40 9999 0 106 8647)) := by
        refine ev_mc rfl ?_ (ev_finx (by first | rfl | decide +kernel) rfl rfl)
        show ev_run (pg 230) (ev_call mt pg 3000 9) 3000 (0, [(0, .int p0), (1, .int 0), (2, .int (-1))], []) (hG 40 9999 0 40 9999 0 106 8647) = _
        refine st_iload (p' := 1) rfl rfl rfl ?_
        refine st_iload (p' := 2) rfl rfl rfl ?_
        refine st_icF (p' := 5) rfl (q_lt' (by rw [show (0 : Int32).toInt = 0 from by decide]; omega)) rfl ?_
        refine st_iload (p' := 6) rfl rfl rfl ?_
        refine st_iload (p' := 7) rfl rfl rfl ?_
        refine st_icT (p' := 14) rfl (q_lt (by rw [show ((-1) : Int32).toInt = (-1) from by decide]; omega)) rfl ?_
        refine st_push (p' := 15) rfl rfl ?_
        exact st_ret_i rfl
      refine st_inv (p' := 11) (av := [.int p0, .int 0, .int (-1)]) (s' := [.int 0]) rfl rfl c4 rfl rfl rfl rfl rfl ?_
      exact st_ret_i rfl
    refine st_inv (p' := 10) (av := [.ref 82, .int p0]) (s' := [.int 0]) rfl rfl c5 rfl rfl (q_recv (hG_m ..)) rfl rfl ?_
    refine st_ifF (p' := 13) rfl (by decide +kernel) rfl ?_
    refine st_aload (p' := 14) rfl rfl rfl ?_
    refine st_push (p' := 15) rfl rfl ?_
    have c6 : ev_call mt pg 3000 11 229 [.ref 82, .int 1] (hG 40 9999 0 40 9999 0 106 8647) = some (.inl (some (.int 0)), (hG 40 9999 1 40 9999 0 106 8647)) := by
      refine ev_mc rfl ?_ (ev_finx (by first | rfl | decide +kernel) rfl rfl)
      show ev_run (pg 229) (ev_call mt pg 3000 10) 3000 (0, [(0, .ref 82), (1, .int 1)], []) (hG 40 9999 0 40 9999 0 106 8647) = _
      refine st_aload (p' := 1) rfl rfl rfl ?_
      refine st_iload (p' := 2) rfl rfl rfl ?_
      refine st_putf (p' := 5) (h' := (hG 40 9999 1 40 9999 0 106 8647)) rfl rfl (hG_m ..) rfl (hG_sm ..) ?_
      refine st_push (p' := 6) rfl rfl ?_
      exact st_ret_i rfl
    refine st_inv (p' := 18) (av := [.ref 82, .int 1]) (s' := [.int 0]) rfl rfl c6 rfl rfl (q_recv (hG_m ..)) rfl rfl ?_
    exact st_ret_i rfl
  have c8 : ev_call mt pg 3000 12 228 [.ref 82] (hG 40 9999 1 40 9999 0 106 8647) = some (.inl (some (.int 1)), (hG 40 9999 1 40 9999 0 106 8647)) := by
    refine ev_mc rfl ?_ (ev_finx (by first | rfl | decide +kernel) rfl rfl)
    show ev_run (pg 228) (ev_call mt pg 3000 11) 3000 (0, [(0, .ref 82)], []) (hG 40 9999 1 40 9999 0 106 8647) = _
    refine st_aload (p' := 1) rfl rfl rfl ?_
    refine st_getf (p' := 4) (v := .int 1) rfl rfl (hG_m ..) rfl ?_
    exact st_ret_i rfl
  exact ⟨1, 0, _, _, _, _, c3, hG_m .., c7, hG_m .., c8, (fun h => absurd h (by decide)), Nat.le_of_ble_eq_true rfl, Nat.le_of_ble_eq_true rfl⟩
theorem ag_ofObject (p0 p1 : Int32)  : agree 301 251 [.ref 0, .int p0, .int p1, .ref 104] [.ref 82, .int p0, .int p1] := by
  rcases Int.lt_or_le p0.toInt 0 with h | h
  · exact ag_ofObject_1 p0 p1 (by omega)
  · exact ag_ofObject_2 p0 p1 (by omega)
theorem ag_bounds_1 (p0 p1 : Int32) (u_p0 : p0.toInt ≤ 0) : agree 302 252 [.ref 0, .int p0, .int p1, .ref 104] [.ref 82, .int p0, .int p1] := by
  have c3 : ev_call mt pg 3000 12 302 [.ref 0, .int p0, .int p1, .ref 104] (hG 40 9999 0 40 9999 0 105 8641) = some (.inl (some (.int 1)), (hG 40 9999 0 40 9999 0 106 8647)) := by
    refine ev_mc rfl ?_ (ev_finx (by first | rfl | decide +kernel) rfl rfl)
    show ev_run (pg 302) (ev_call mt pg 3000 11) 3000 (0, [(0, .ref 0), (1, .int p0), (2, .int p1), (3, .ref 104)], []) (hG 40 9999 0 40 9999 0 105 8641) = _
    refine st_aload (p' := 1) rfl rfl rfl ?_
    refine st_push (p' := 2) rfl rfl ?_
    refine st_aload (p' := 3) rfl rfl rfl ?_
    refine st_iload (p' := 4) rfl rfl rfl ?_
    refine st_iload (p' := 5) rfl rfl rfl ?_
    have c2 : ev_call mt pg 3000 11 171 [.ref 0, .int p0, .int p1] (hG 40 9999 0 40 9999 0 105 8641) = some (.inr "java/lang/IllegalArgumentException", (hG 40 9999 0 40 9999 0 106 8647)) := by
      refine ev_mc rfl ?_ (ev_finX (by decide +kernel) rfl rfl)
      show ev_run (pg 171) (ev_call mt pg 3000 10) 3000 (0, [(0, .ref 0), (1, .int p0), (2, .int p1)], []) (hG 40 9999 0 40 9999 0 105 8641) = _
      refine st_iload (p' := 1) rfl rfl rfl ?_
      have c1 : ev_call mt pg 3000 10 199 [.int p0] (hG 40 9999 0 40 9999 0 105 8641) = some (.inl (some (.int 0)), (hG 40 9999 0 40 9999 0 105 8641)) := by
        refine ev_mc rfl ?_ (ev_finx (by first | rfl | decide +kernel) rfl rfl)
        show ev_run (pg 199) (ev_call mt pg 3000 9) 3000 (0, [(0, .int p0)], []) (hG 40 9999 0 40 9999 0 105 8641) = _
        refine st_iload (p' := 1) rfl rfl rfl ?_
        refine st_push (p' := 2) rfl rfl ?_
        refine st_icT (p' := 16) rfl (q_lt (by rw [show (1 : Int32).toInt = 1 from by decide]; omega)) rfl ?_
        refine st_push (p' := 17) rfl rfl ?_
        exact st_ret_i rfl
      refine st_inv (p' := 4) (av := [.int p0]) (s' := [.int 0]) rfl rfl c1 rfl rfl rfl rfl rfl ?_
      refine st_ifT (p' := 18) rfl (by decide +kernel) rfl ?_
      exact st_throw rfl rfl rfl
    refine st_invC (p' := 15) (q := 4) (l' := [(0, .ref 0), (1, .int p0), (2, .int p1), (3, .ref 104)]) (av := [.ref 0, .int p0, .int p1]) rfl rfl c2 rfl rfl (q_recv (hG_x ..)) (by decide +kernel) rfl ?_
    refine st_push (p' := 16) rfl rfl ?_
    exact st_ret_i rfl
  have c6 : ev_call mt pg 3000 12 252 [.ref 82, .int p0, .int p1] (hG 40 9999 0 40 9999 0 106 8647) = some (.inl (some (.int 0)), (hG 40 9999 1 40 9999 0 106 8647)) := by
    refine ev_mc rfl ?_ (ev_finx (by first | rfl | decide +kernel) rfl rfl)
    show ev_run (pg 252) (ev_call mt pg 3000 11) 3000 (0, [(0, .ref 82), (1, .int p0), (2, .int p1)], []) (hG 40 9999 0 40 9999 0 106 8647) = _
    refine st_aload (p' := 1) rfl rfl rfl ?_
    refine st_push (p' := 2) rfl rfl ?_
    refine st_putf (p' := 5) (h' := (hG 40 9999 0 40 9999 0 106 8647)) rfl rfl (hG_m ..) rfl (hG_sm ..) ?_
    refine st_iload (p' := 6) rfl rfl rfl ?_
    refine st_push (p' := 7) rfl rfl ?_
    refine st_push (p' := 10) rfl rfl ?_
    have c4 : ev_call mt pg 3000 11 230 [.int p0, .int 1, .int 500] (hG 40 9999 0 40 9999 0 106 8647) = some (.inl (some (.int 0)), (hG 40 9999 0 40 9999 0 106 8647)) := by
      refine ev_mc rfl ?_ (ev_finx (by first | rfl | decide +kernel) rfl rfl)
      show ev_run (pg 230) (ev_call mt pg 3000 10) 3000 (0, [(0, .int p0), (1, .int 1), (2, .int 500)], []) (hG 40 9999 0 40 9999 0 106 8647) = _
      refine st_iload (p' := 1) rfl rfl rfl ?_
      refine st_iload (p' := 2) rfl rfl rfl ?_
      refine st_icT (p' := 14) rfl (q_lt (by rw [show (1 : Int32).toInt = 1 from by decide]; omega)) rfl ?_
      refine st_push (p' := 15) rfl rfl ?_
      exact st_ret_i rfl
    refine st_inv (p' := 13) (av := [.int p0, .int 1, .int 500]) (s' := [.int 0]) rfl rfl c4 rfl rfl rfl rfl rfl ?_
    refine st_ifT (p' := 27) rfl (by decide +kernel) rfl ?_
    refine st_aload (p' := 28) rfl rfl rfl ?_
    refine st_push (p' := 29) rfl rfl ?_
    have c5 : ev_call mt pg 3000 11 229 [.ref 82, .int 1] (hG 40 9999 0 40 9999 0 106 8647) = some (.inl (some (.int 0)), (hG 40 9999 1 40 9999 0 106 8647)) := by
      refine ev_mc rfl ?_ (ev_finx (by first | rfl | decide +kernel) rfl rfl)
      show ev_run (pg 229) (ev_call mt pg 3000 10) 3000 (0, [(0, .ref 82), (1, .int 1)], []) (hG 40 9999 0 40 9999 0 106 8647) = _
      refine st_aload (p' := 1) rfl rfl rfl ?_
      refine st_iload (p' := 2) rfl rfl rfl ?_
      refine st_putf (p' := 5) (h' := (hG 40 9999 1 40 9999 0 106 8647)) rfl rfl (hG_m ..) rfl (hG_sm ..) ?_
      refine st_push (p' := 6) rfl rfl ?_
      exact st_ret_i rfl
    refine st_inv (p' := 32) (av := [.ref 82, .int 1]) (s' := [.int 0]) rfl rfl c5 rfl rfl (q_recv (hG_m ..)) rfl rfl ?_
    exact st_ret_i rfl
  have c7 : ev_call mt pg 3000 12 228 [.ref 82] (hG 40 9999 1 40 9999 0 106 8647) = some (.inl (some (.int 1)), (hG 40 9999 1 40 9999 0 106 8647)) := by
    refine ev_mc rfl ?_ (ev_finx (by first | rfl | decide +kernel) rfl rfl)
    show ev_run (pg 228) (ev_call mt pg 3000 11) 3000 (0, [(0, .ref 82)], []) (hG 40 9999 1 40 9999 0 106 8647) = _
    refine st_aload (p' := 1) rfl rfl rfl ?_
    refine st_getf (p' := 4) (v := .int 1) rfl rfl (hG_m ..) rfl ?_
    exact st_ret_i rfl
  exact ⟨1, 0, _, _, _, _, c3, hG_m .., c6, hG_m .., c7, (fun h => absurd h (by decide)), Nat.le_of_ble_eq_true rfl, Nat.le_of_ble_eq_true rfl⟩
theorem ag_bounds_2 (p0 p1 : Int32) (l_p0 : 1 ≤ p0.toInt) (u_p0 : p0.toInt ≤ 500) (u_p1 : p1.toInt ≤ -1) : agree 302 252 [.ref 0, .int p0, .int p1, .ref 104] [.ref 82, .int p0, .int p1] := by
  have c3 : ev_call mt pg 3000 12 302 [.ref 0, .int p0, .int p1, .ref 104] (hG 40 9999 0 40 9999 0 105 8641) = some (.inl (some (.int 1)), (hG 40 9999 0 40 9999 0 106 8647)) := by
    refine ev_mc rfl ?_ (ev_finx (by first | rfl | decide +kernel) rfl rfl)
    show ev_run (pg 302) (ev_call mt pg 3000 11) 3000 (0, [(0, .ref 0), (1, .int p0), (2, .int p1), (3, .ref 104)], []) (hG 40 9999 0 40 9999 0 105 8641) = _
    refine st_aload (p' := 1) rfl rfl rfl ?_
    refine st_push (p' := 2) rfl rfl ?_
    refine st_aload (p' := 3) rfl rfl rfl ?_
    refine st_iload (p' := 4) rfl rfl rfl ?_
    refine st_iload (p' := 5) rfl rfl rfl ?_
    have c2 : ev_call mt pg 3000 11 171 [.ref 0, .int p0, .int p1] (hG 40 9999 0 40 9999 0 105 8641) = some (.inr "java/lang/IllegalArgumentException", (hG 40 9999 0 40 9999 0 106 8647)) := by
      refine ev_mc rfl ?_ (ev_finX (by decide +kernel) rfl rfl)
      show ev_run (pg 171) (ev_call mt pg 3000 10) 3000 (0, [(0, .ref 0), (1, .int p0), (2, .int p1)], []) (hG 40 9999 0 40 9999 0 105 8641) = _
      refine st_iload (p' := 1) rfl rfl rfl ?_
      have c1 : ev_call mt pg 3000 10 199 [.int p0] (hG 40 9999 0 40 9999 0 105 8641) = some (.inl (some (.int 1)), (hG 40 9999 0 40 9999 0 105 8641)) := by
        refine ev_mc rfl ?_ (ev_finx (by first | rfl | decide +kernel) rfl rfl)
        show ev_run (pg 199) (ev_call mt pg 3000 9) 3000 (0, [(0, .int p0)], []) (hG 40 9999 0 40 9999 0 105 8641) = _
        refine st_iload (p' := 1) rfl rfl rfl ?_
        refine st_push (p' := 2) rfl rfl ?_
        refine st_icF (p' := 5) rfl (q_lt' (by rw [show (1 : Int32).toInt = 1 from by decide]; omega)) rfl ?_
        refine st_iload (p' := 6) rfl rfl rfl ?_
        refine st_push (p' := 9) rfl rfl ?_
        refine st_icF (p' := 12) rfl (q_lt' (by rw [show (500 : Int32).toInt = 500 from by decide]; omega)) rfl ?_
        refine st_push (p' := 13) rfl rfl ?_
        refine st_goto rfl ?_
        exact st_ret_i rfl
      refine st_inv (p' := 4) (av := [.int p0]) (s' := [.int 1]) rfl rfl c1 rfl rfl rfl rfl rfl ?_
      refine st_ifF (p' := 7) rfl (by decide +kernel) rfl ?_
      refine st_iload (p' := 8) rfl rfl rfl ?_
      refine st_ifT (p' := 18) rfl (q_lt (by rw [show (0 : Int32).toInt = 0 from by decide]; omega)) rfl ?_
      exact st_throw rfl rfl rfl
    refine st_invC (p' := 15) (q := 4) (l' := [(0, .ref 0), (1, .int p0), (2, .int p1), (3, .ref 104)]) (av := [.ref 0, .int p0, .int p1]) rfl rfl c2 rfl rfl (q_recv (hG_x ..)) (by decide +kernel) rfl ?_
    refine st_push (p' := 16) rfl rfl ?_
    exact st_ret_i rfl
  have c7 : ev_call mt pg 3000 12 252 [.ref 82, .int p0, .int p1] (hG 40 9999 0 40 9999 0 106 8647) = some (.inl (some (.int 0)), (hG 40 9999 1 40 9999 0 106 8647)) := by
    refine ev_mc rfl ?_ (ev_finx (by first | rfl | decide +kernel) rfl rfl)
    show ev_run (pg 252) (ev_call mt pg 3000 11) 3000 (0, [(0, .ref 82), (1, .int p0), (2, .int p1)], []) (hG 40 9999 0 40 9999 0 106 8647) = _
    refine st_aload (p' := 1) rfl rfl rfl ?_
    refine st_push (p' := 2) rfl rfl ?_
    refine st_putf (p' := 5) (h' := (hG 40 9999 0 40 9999 0 106 8647)) rfl rfl (hG_m ..) rfl (hG_sm ..) ?_
    refine st_iload (p' := 6) rfl rfl rfl ?_
    refine st_push (p' := 7) rfl rfl ?_
    refine st_push (p' := 10) rfl rfl ?_
    have c4 : ev_call mt pg 3000 11 230 [.int p0, .int 1, .int 500] (hG 40 9999 0 40 9999 0 106 8647) = some (.inl (some (.int 1)), (hG 40 9999 0 40 9999 0 106 8647)) := by
      refine ev_mc rfl ?_ (ev_finx (by first | rfl | decide +kernel) rfl rfl)
      show ev_run (pg 230) (ev_call mt pg 3000 10) 3000 (0, [(0, .int p0), (1, .int 1), (2, .int 500)], []) (hG 40 9999 0 40 9999 0 106 8647) = _
      refine st_iload (p' := 1) rfl rfl rfl ?_
      refine st_iload (p' := 2) rfl rfl rfl ?_
      refine st_icF (p' := 5) rfl (q_lt' (by rw [show (1 : Int32).toInt = 1 from by decide]; omega)) rfl ?_
      refine st_iload (p' := 6) rfl rfl rfl ?_
      refine st_iload (p' := 7) rfl rfl rfl ?_
      refine st_icF (p' := 10) rfl (q_lt' (by rw [show (500 : Int32).toInt = 500 from by decide]; omega)) rfl ?_
      refine st_push (p' := 11) rfl rfl ?_
      refine st_goto rfl ?_
      exact st_ret_i rfl
    refine st_inv (p' := 13) (av := [.int p0, .int 1, .int 500]) (s' := [.int 1]) rfl rfl c4 rfl rfl rfl rfl rfl ?_
    refine st_ifF (p' := 16) rfl (by decide +kernel) rfl ?_
    refine st_iload (p' := 17) rfl rfl rfl ?_
    refine st_push (p' := 18) rfl rfl ?_
    refine st_push (p' := 21) rfl rfl ?_
    have c5 : ev_call mt pg 3000 11 230 [.int p1, .int 0, .int 9999] (hG 40 9999 0 40 9999 0 106 8647) = some (.inl (some (.int 0)), (hG 40 9999 0 40 9999 0 106 8647)) := by
      refine ev_mc rfl ?_ (ev_finx (by first | rfl | decide +kernel) rfl rfl)
      show ev_run (pg 230) (ev_call mt pg 3000 10) 3000 (0, [(0, .int p1), (1, .int 0), (2, .int 9999)], []) (hG 40 9999 0 40 9999 0 106 8647) = _
      refine st_iload (p' := 1) rfl rfl rfl ?_
      refine st_iload (p' := 2) rfl rfl rfl ?_
      refine st_icT (p' := 14) rfl (q_lt (by rw [show (0 : Int32).toInt = 0 from by decide]; omega)) rfl ?_
      refine st_push (p' := 15) rfl rfl ?_
      exact st_ret_i rfl
    refine st_inv (p' := 24) (av := [.int p1, .int 0, .int 9999]) (s' := [.int 0]) rfl rfl c5 rfl rfl rfl rfl rfl ?_
    refine st_ifF (p' := 27) rfl (by decide +kernel) rfl ?_
    refine st_aload (p' := 28) rfl rfl rfl ?_
    refine st_push (p' := 29) rfl rfl ?_
    have c6 : ev_call mt pg 3000 11 229 [.ref 82, .int 1] (hG 40 9999 0 40 9999 0 106 8647) = some (.inl (some (.int 0)), (hG 40 9999 1 40 9999 0 106 8647)) := by
      refine ev_mc rfl ?_ (ev_finx (by first | rfl | decide +kernel) rfl rfl)
      show ev_run (pg 229) (ev_call mt pg 3000 10) 3000 (0, [(0, .ref 82), (1, .int 1)], []) (hG 40 9999 0 40 9999 0 106 8647) = _
      refine st_aload (p' := 1) rfl rfl rfl ?_
      refine st_iload (p' := 2) rfl rfl rfl ?_
      refine st_putf (p' := 5) (h' := (hG 40 9999 1 40 9999 0 106 8647)) rfl rfl (hG_m ..) rfl (hG_sm ..) ?_
      refine st_push (p' := 6) rfl rfl ?_
      exact st_ret_i rfl
    refine st_inv (p' := 32) (av := [.ref 82, .int 1]) (s' := [.int 0]) rfl rfl c6 rfl rfl (q_recv (hG_m ..)) rfl rfl ?_
    exact st_ret_i rfl
  have c8 : ev_call mt pg 3000 12 228 [.ref 82] (hG 40 9999 1 40 9999 0 106 8647) = some (.inl (some (.int 1)), (hG 40 9999 1 40 9999 0 106 8647)) := by
    refine ev_mc rfl ?_ (ev_finx (by first | rfl | decide +kernel) rfl rfl)
    show ev_run (pg 228) (ev_call mt pg 3000 11) 3000 (0, [(0, .ref 82)], []) (hG 40 9999 1 40 9999 0 106 8647) = _
    refine st_aload (p' := 1) rfl rfl rfl ?_
    refine st_getf (p' := 4) (v := .int 1) rfl rfl (hG_m ..) rfl ?_
    exact st_ret_i rfl
  exact ⟨1, 0, _, _, _, _, c3, hG_m .., c7, hG_m .., c8, (fun h => absurd h (by decide)), Nat.le_of_ble_eq_true rfl, Nat.le_of_ble_eq_true rfl⟩
