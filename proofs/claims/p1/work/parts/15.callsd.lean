theorem ag_close_2 (p0 : Int32) (l_p0 : 0 ≤ p0.toInt) : agree 310 271 [.ref 0, .int p0, .ref 104] [.ref 82, .int p0] := by
  have c3 : ev_call mt pg 3000 12 310 [.ref 0, .int p0, .ref 104] (hG 40 9999 0 40 9999 0 105 8641) = some (.inl (some (.int 1)), (hG 40 9999 0 40 9999 0 106 8647)) := by
    refine ev_mc rfl ?_ (ev_finx (by first | rfl | decide +kernel) rfl rfl)
    show ev_run (pg 310) (ev_call mt pg 3000 11) 3000 (0, [(0, .ref 0), (1, .int p0), (2, .ref 104)], []) (hG 40 9999 0 40 9999 0 105 8641) = _
    refine st_aload (p' := 1) rfl rfl rfl ?_
    refine st_push (p' := 2) rfl rfl ?_
    refine st_aload (p' := 3) rfl rfl rfl ?_
    refine st_iload (p' := 4) rfl rfl rfl ?_
    have c2 : ev_call mt pg 3000 11 179 [.ref 0, .int p0] (hG 40 9999 0 40 9999 0 105 8641) = some (.inr "java/lang/IndexOutOfBoundsException", (hG 40 9999 0 40 9999 0 106 8647)) := by
      refine ev_mc rfl ?_ (ev_finX (by decide +kernel) rfl rfl)
      show ev_run (pg 179) (ev_call mt pg 3000 10) 3000 (0, [(0, .ref 0), (1, .int p0)], []) (hG 40 9999 0 40 9999 0 105 8641) = _
      refine st_aload (p' := 1) rfl rfl rfl ?_
      refine st_getf (p' := 4) (v := .ref 23) rfl rfl (hG_x ..) rfl ?_
      refine st_iload (p' := 5) rfl rfl rfl ?_
      have c1 : ev_call mt pg 3000 10 44 [.ref 23, .int p0] (hG 40 9999 0 40 9999 0 105 8641) = some (.inl (some (.int 0)), (hG 40 9999 0 40 9999 0 105 8641)) := by
        refine ev_mc rfl ?_ (ev_finx (by first | rfl | decide +kernel) rfl rfl)
        show ev_run (pg 44) (ev_call mt pg 3000 9) 3000 (0, [(0, .ref 23), (1, .int p0)], []) (hG 40 9999 0 40 9999 0 105 8641) = _
        refine st_iload (p' := 1) rfl rfl rfl ?_
        refine st_ifF (p' := 4) rfl (q_lt' (by rw [show (0 : Int32).toInt = 0 from by decide]; omega)) rfl ?_
        refine st_iload (p' := 5) rfl rfl rfl ?_
        refine st_aload (p' := 6) rfl rfl rfl ?_
        refine st_getf (p' := 9) (v := .int 0) rfl rfl (hG_c23 ..) rfl ?_
        refine st_icT (p' := 22) rfl (q_le (by rw [show (0 : Int32).toInt = 0 from by decide]; omega)) rfl ?_
        refine st_push (p' := 23) rfl rfl ?_
        exact st_ret_i rfl
      refine st_inv (p' := 8) (av := [.ref 23, .int p0]) (s' := [.int 0]) rfl rfl c1 rfl rfl (q_recv (hG_c23 ..)) rfl rfl ?_
      refine st_ifF (p' := 11) rfl (by decide +kernel) rfl ?_
      exact st_throw rfl rfl rfl
    refine st_invC (p' := 13) (q := 3) (l' := [(0, .ref 0), (1, .int p0), (2, .ref 104)]) (av := [.ref 0, .int p0]) rfl rfl c2 rfl rfl (q_recv (hG_x ..)) (by decide +kernel) rfl ?_
    refine st_push (p' := 14) rfl rfl ?_
    exact st_ret_i rfl
  have c7 : ev_call mt pg 3000 12 271 [.ref 82, .int p0] (hG 40 9999 0 40 9999 0 106 8647) = some (.inl (some (.int 0)), (hG 40 9999 1 40 9999 0 106 8647)) := by
    refine ev_mc rfl ?_ (ev_finx (by first | rfl | decide +kernel) rfl rfl)
    show ev_run (pg 271) (ev_call mt pg 3000 11) 3000 (0, [(0, .ref 82), (1, .int p0)], []) (hG 40 9999 0 40 9999 0 106 8647) = _
    refine st_aload (p' := 1) rfl rfl rfl ?_
    refine st_push (p' := 2) rfl rfl ?_
    refine st_putf (p' := 5) (h' := (hG 40 9999 0 40 9999 0 106 8647)) rfl rfl (hG_m ..) rfl (hG_sm ..) ?_
    refine st_aload (p' := 6) rfl rfl rfl ?_
    refine st_iload (p' := 7) rfl rfl rfl ?_
    have c5 : ev_call mt pg 3000 11 260 [.ref 82, .int p0] (hG 40 9999 0 40 9999 0 106 8647) = some (.inl (some (.int 0)), (hG 40 9999 0 40 9999 0 106 8647)) := by
      refine ev_mc rfl ?_ (ev_finx (by first | rfl | decide +kernel) rfl rfl)
      show ev_run (pg 260) (ev_call mt pg 3000 10) 3000 (0, [(0, .ref 82), (1, .int p0)], []) (hG 40 9999 0 40 9999 0 106 8647) = _
      refine st_iload (p' := 1) rfl rfl rfl ?_
      refine st_push (p' := 2) rfl rfl ?_
      refine st_aload (p' := 3) rfl rfl rfl ?_
      refine st_getf (p' := 6) (v := .int 0) rfl rfl (hG_m ..) rfl ?_
      refine st_push (p' := 7) rfl rfl ?_
      refine st_ii (p' := 8) (z := (-1)) rfl rfl (by decide +kernel) ?_
      have c4 : ev_call mt pg 3000 10 230 [.int p0, .int 0, .int (-1)] (hG 40 9999 0 40 9999 0 106 8647) = some (.inl (some (.int 0)), (hG 40 9999 0 40 9999 0 106 8647)) := by
        refine ev_mc rfl ?_ (ev_finx (by first | rfl | decide +kernel) rfl rfl)
        show ev_run (pg 230) (ev_call mt pg 3000 9) 3000 (0, [(0, .int p0), (1, .int 0), (2, .int (-1))], []) (hG 40 9999 0 40 9999 0 106 8647) = _
        refine st_iload (p' := 1) rfl rfl rfl ?_
        refine st_iload (p' := 2) rfl rfl rfl ?_
        refine st_icF (p' := 5) rfl (q_lt' (by rw [show (0 : Int32).toInt = 0 from by decide]; omega)) rfl ?_
        refine st_iload (p' := 6) rfl rfl rfl ?_
        refine st_iload (p' := 7) rfl rfl rfl ?_
        refine st_icT (p' := 14) rfl (q_lt (by rw [show ((-1) : Int32).toInt = (-1) from by decide]; omega)) rfl ?_
        refine st_push (p' := 15) rfl rfl ?_
        exact st_ret_i rfl
      refine st_inv (p' := 11) (av := [.int p0, .int 0, .int (-1)]) (s' := [.int 0]) rfl rfl c4 rfl rfl rfl rfl rfl ?_
      exact st_ret_i rfl
    refine st_inv (p' := 10) (av := [.ref 82, .int p0]) (s' := [.int 0]) rfl rfl c5 rfl rfl (q_recv (hG_m ..)) rfl rfl ?_
    refine st_ifF (p' := 13) rfl (by decide +kernel) rfl ?_
    refine st_aload (p' := 14) rfl rfl rfl ?_
    refine st_push (p' := 15) rfl rfl ?_
    have c6 : ev_call mt pg 3000 11 229 [.ref 82, .int 1] (hG 40 9999 0 40 9999 0 106 8647) = some (.inl (some (.int 0)), (hG 40 9999 1 40 9999 0 106 8647)) := by
      refine ev_mc rfl ?_ (ev_finx (by first | rfl | decide +kernel) rfl rfl)
      show ev_run (pg 229) (ev_call mt pg 3000 10) 3000 (0, [(0, .ref 82), (1, .int 1)], []) (hG 40 9999 0 40 9999 0 106 8647) = _
      refine st_aload (p' := 1) rfl rfl rfl ?_
      refine st_iload (p' := 2) rfl rfl rfl ?_
      refine st_putf (p' := 5) (h' := (hG 40 9999 1 40 9999 0 106 8647)) rfl rfl (hG_m ..) rfl (hG_sm ..) ?_
      refine st_push (p' := 6) rfl rfl ?_
      exact st_ret_i rfl
    refine st_inv (p' := 18) (av := [.ref 82, .int 1]) (s' := [.int 0]) rfl rfl c6 rfl rfl (q_recv (hG_m ..)) rfl rfl ?_
    exact st_ret_i rfl
  have c8 : ev_call mt pg 3000 12 228 [.ref 82] (hG 40 9999 1 40 9999 0 106 8647) = some (.inl (some (.int 1)), (hG 40 9999 1 40 9999 0 106 8647)) := by
    refine ev_mc rfl ?_ (ev_finx (by first | rfl | decide +kernel) rfl rfl)
    show ev_run (pg 228) (ev_call mt pg 3000 11) 3000 (0, [(0, .ref 82)], []) (hG 40 9999 1 40 9999 0 106 8647) = _
    refine st_aload (p' := 1) rfl rfl rfl ?_
    refine st_getf (p' := 4) (v := .int 1) rfl rfl (hG_m ..) rfl ?_
    exact st_ret_i rfl
  exact ⟨1, 0, _, _, _, _, c3, hG_m .., c7, hG_m .., c8, (fun h => absurd h (by decide)), Nat.le_of_ble_eq_true rfl, Nat.le_of_ble_eq_true rfl⟩
theorem ag_close (p0 : Int32)  : agree 310 271 [.ref 0, .int p0, .ref 104] [.ref 82, .int p0] := by
  rcases Int.lt_or_le p0.toInt 0 with h | h
  · exact ag_close_1 p0 (by omega)
  · exact ag_close_2 p0 (by omega)
theorem ag_call_1 (p0 p1 : Int32) (u_p0 : p0.toInt ≤ -1) : agree 311 274 [.ref 0, .int p0, .int p1, .ref 104] [.ref 82, .int p0, .int p1] := by
  have c3 : ev_call mt pg 3000 12 311 [.ref 0, .int p0, .int p1, .ref 104] (hG 40 9999 0 40 9999 0 105 8641) = some (.inl (some (.int 1)), (hG 40 9999 0 40 9999 0 106 8647)) := by
    refine ev_mc rfl ?_ (ev_finx (by first | rfl | decide +kernel) rfl rfl)
    show ev_run (pg 311) (ev_call mt pg 3000 11) 3000 (0, [(0, .ref 0), (1, .int p0), (2, .int p1), (3, .ref 104)], []) (hG 40 9999 0 40 9999 0 105 8641) = _
    refine st_aload (p' := 1) rfl rfl rfl ?_
    refine st_push (p' := 2) rfl rfl ?_
    refine st_aload (p' := 3) rfl rfl rfl ?_
    refine st_iload (p' := 4) rfl rfl rfl ?_
    refine st_iload (p' := 5) rfl rfl rfl ?_
    have c2 : ev_call mt pg 3000 11 180 [.ref 0, .int p0, .int p1] (hG 40 9999 0 40 9999 0 105 8641) = some (.inr "java/lang/IndexOutOfBoundsException", (hG 40 9999 0 40 9999 0 106 8647)) := by
      refine ev_mc rfl ?_ (ev_finX (by decide +kernel) rfl rfl)
      show ev_run (pg 180) (ev_call mt pg 3000 10) 3000 (0, [(0, .ref 0), (1, .int p0), (2, .int p1)], []) (hG 40 9999 0 40 9999 0 105 8641) = _
      refine st_aload (p' := 1) rfl rfl rfl ?_
      refine st_getf (p' := 4) (v := .ref 23) rfl rfl (hG_x ..) rfl ?_
      refine st_iload (p' := 5) rfl rfl rfl ?_
      have c1 : ev_call mt pg 3000 10 44 [.ref 23, .int p0] (hG 40 9999 0 40 9999 0 105 8641) = some (.inl (some (.int 0)), (hG 40 9999 0 40 9999 0 105 8641)) := by
        refine ev_mc rfl ?_ (ev_finx (by first | rfl | decide +kernel) rfl rfl)
        show ev_run (pg 44) (ev_call mt pg 3000 9) 3000 (0, [(0, .ref 23), (1, .int p0)], []) (hG 40 9999 0 40 9999 0 105 8641) = _
        refine st_iload (p' := 1) rfl rfl rfl ?_
        refine st_ifT (p' := 22) rfl (q_lt (by rw [show (0 : Int32).toInt = 0 from by decide]; omega)) rfl ?_
        refine st_push (p' := 23) rfl rfl ?_
        exact st_ret_i rfl
      refine st_inv (p' := 8) (av := [.ref 23, .int p0]) (s' := [.int 0]) rfl rfl c1 rfl rfl (q_recv (hG_c23 ..)) rfl rfl ?_
      refine st_ifF (p' := 11) rfl (by decide +kernel) rfl ?_
      exact st_throw rfl rfl rfl
    refine st_invC (p' := 15) (q := 4) (l' := [(0, .ref 0), (1, .int p0), (2, .int p1), (3, .ref 104)]) (av := [.ref 0, .int p0, .int p1]) rfl rfl c2 rfl rfl (q_recv (hG_x ..)) (by decide +kernel) rfl ?_
    refine st_push (p' := 16) rfl rfl ?_
    exact st_ret_i rfl
  have c7 : ev_call mt pg 3000 12 274 [.ref 82, .int p0, .int p1] (hG 40 9999 0 40 9999 0 106 8647) = some (.inl (some (.int 0)), (hG 40 9999 1 40 9999 0 106 8647)) := by
    refine ev_mc rfl ?_ (ev_finx (by first | rfl | decide +kernel) rfl rfl)
    show ev_run (pg 274) (ev_call mt pg 3000 11) 3000 (0, [(0, .ref 82), (1, .int p0), (2, .int p1)], []) (hG 40 9999 0 40 9999 0 106 8647) = _
    refine st_aload (p' := 1) rfl rfl rfl ?_
    refine st_push (p' := 2) rfl rfl ?_
    refine st_putf (p' := 5) (h' := (hG 40 9999 0 40 9999 0 106 8647)) rfl rfl (hG_m ..) rfl (hG_sm ..) ?_
    refine st_aload (p' := 6) rfl rfl rfl ?_
    refine st_iload (p' := 7) rfl rfl rfl ?_
    have c5 : ev_call mt pg 3000 11 260 [.ref 82, .int p0] (hG 40 9999 0 40 9999 0 106 8647) = some (.inl (some (.int 0)), (hG 40 9999 0 40 9999 0 106 8647)) := by
      refine ev_mc rfl ?_ (ev_finx (by first | rfl | decide +kernel) rfl rfl)
      show ev_run (pg 260) (ev_call mt pg 3000 10) 3000 (0, [(0, .ref 82), (1, .int p0)], []) (hG 40 9999 0 40 9999 0 106 8647) = _
      refine st_iload (p' := 1) rfl rfl rfl ?_
      refine st_push (p' := 2) rfl rfl ?_
      refine st_aload (p' := 3) rfl rfl rfl ?_
      refine st_getf (p' := 6) (v := .int 0) rfl rfl (hG_m ..) rfl ?_
      refine st_push (p' := 7) rfl rfl ?_
      refine st_ii (p' := 8) (z := (-1)) rfl rfl (by decide +kernel) ?_
      have c4 : ev_call mt pg 3000 10 230 [.int p0, .int 0, .int (-1)] (hG 40 9999 0 40 9999 0 106 8647) = some (.inl (some (.int 0)), (hG 40 9999 0 40 9999 0 106 8647)) := by
        refine ev_mc rfl ?_ (ev_finx (by first | rfl | decide +kernel) rfl rfl)
        show ev_run (pg 230) (ev_call mt pg 3000 9) 3000 (0, [(0, .int p0), (1, .int 0), (2, .int (-1))], []) (hG 40 9999 0 40 9999 0 106 8647) = _
        refine st_iload (p' := 1) rfl rfl rfl ?_
        refine st_iload (p' := 2) rfl rfl rfl ?_
        refine st_icT (p' := 14) rfl (q_lt (by rw [show (0 : Int32).toInt = 0 from by decide]; omega)) rfl ?_
        refine st_push (p' := 15) rfl rfl ?_
        exact st_ret_i rfl
      refine st_inv (p' := 11) (av := [.int p0, .int 0, .int (-1)]) (s' := [.int 0]) rfl rfl c4 rfl rfl rfl rfl rfl ?_
      exact st_ret_i rfl
    refine st_inv (p' := 10) (av := [.ref 82, .int p0]) (s' := [.int 0]) rfl rfl c5 rfl rfl (q_recv (hG_m ..)) rfl rfl ?_
    refine st_ifF (p' := 13) rfl (by decide +kernel) rfl ?_
    refine st_aload (p' := 14) rfl rfl rfl ?_
    refine st_push (p' := 15) rfl rfl ?_
    have c6 : ev_call mt pg 3000 11 229 [.ref 82, .int 1] (hG 40 9999 0 40 9999 0 106 8647) = some (.inl (some (.int 0)), (hG 40 9999 1 40 9999 0 106 8647)) := by
      refine ev_mc rfl ?_ (ev_finx (by first | rfl | decide +kernel) rfl rfl)
      show ev_run (pg 229) (ev_call mt pg 3000 10) 3000 (0, [(0, .ref 82), (1, .int 1)], []) (hG 40 9999 0 40 9999 0 106 8647) = _
      refine st_aload (p' := 1) rfl rfl rfl ?_
      refine st_iload (p' := 2) rfl rfl rfl ?_
      refine st_putf (p' := 5) (h' := (hG 40 9999 1 40 9999 0 106 8647)) rfl rfl (hG_m ..) rfl (hG_sm ..) ?_
      refine st_push (p' := 6) rfl rfl ?_
      exact st_ret_i rfl
    refine st_inv (p' := 18) (av := [.ref 82, .int 1]) (s' := [.int 0]) rfl rfl c6 rfl rfl (q_recv (hG_m ..)) rfl rfl ?_
    exact st_ret_i rfl
  have c8 : ev_call mt pg 3000 12 228 [.ref 82] (hG 40 9999 1 40 9999 0 106 8647) = some (.inl (some (.int 1)), (hG 40 9999 1 40 9999 0 106 8647)) := by
    refine ev_mc rfl ?_ (ev_finx (by first | rfl | decide +kernel) rfl rfl)
    show ev_run (pg 228) (ev_call mt pg 3000 11) 3000 (0, [(0, .ref 82)], []) (hG 40 9999 1 40 9999 0 106 8647) = _
    refine st_aload (p' := 1) rfl rfl rfl ?_
    refine st_getf (p' := 4) (v := .int 1) rfl rfl (hG_m ..) rfl ?_
    exact st_ret_i rfl
  exact ⟨1, 0, _, _, _, _, c3, hG_m .., c7, hG_m .., c8, (fun h => absurd h (by decide)), Nat.le_of_ble_eq_true rfl, Nat.le_of_ble_eq_true rfl⟩
theorem ag_call_2 (p0 p1 : Int32) (l_p0 : 0 ≤ p0.toInt) : agree 311 274 [.ref 0, .int p0, .int p1, .ref 104] [.ref 82, .int p0, .int p1] := by
  have c3 : ev_call mt pg 3000 12 311 [.ref 0, .int p0, .int p1, .ref 104] (hG 40 9999 0 40 9999 0 105 8641) = some (.inl (some (.int 1)), (hG 40 9999 0 40 9999 0 106 8647)) := by
    refine ev_mc rfl ?_ (ev_finx (by first | rfl | decide +kernel) rfl rfl)
    show ev_run (pg 311) (ev_call mt pg 3000 11) 3000 (0, [(0, .ref 0), (1, .int p0), (2, .int p1), (3, .ref 104)], []) (hG 40 9999 0 40 9999 0 105 8641) = _
    refine st_aload (p' := 1) rfl rfl rfl ?_
    refine st_push (p' := 2) rfl rfl ?_
    refine st_aload (p' := 3) rfl rfl rfl ?_
    refine st_iload (p' := 4) rfl rfl rfl ?_
    refine st_iload (p' := 5) rfl rfl rfl ?_
    have c2 : ev_call mt pg 3000 11 180 [.ref 0, .int p0, .int p1] (hG 40 9999 0 40 9999 0 105 8641) = some (.inr "java/lang/IndexOutOfBoundsException", (hG 40 9999 0 40 9999 0 106 8647)) := by
      refine ev_mc rfl ?_ (ev_finX (by decide +kernel) rfl rfl)
      show ev_run (pg 180) (ev_call mt pg 3000 10) 3000 (0, [(0, .ref 0), (1, .int p0), (2, .int p1)], []) (hG 40 9999 0 40 9999 0 105 8641) = _
      refine st_aload (p' := 1) rfl rfl rfl ?_
      refine st_getf (p' := 4) (v := .ref 23) rfl rfl (hG_x ..) rfl ?_
      refine st_iload (p' := 5) rfl rfl rfl ?_
      have c1 : ev_call mt pg 3000 10 44 [.ref 23, .int p0] (hG 40 9999 0 40 9999 0 105 8641) = some (.inl (some (.int 0)), (hG 40 9999 0 40 9999 0 105 8641)) := by
        refine ev_mc rfl ?_ (ev_finx (by first | rfl | decide +kernel) rfl rfl)
        show ev_run (pg 44) (ev_call mt pg 3000 9) 3000 (0, [(0, .ref 23), (1, .int p0)], []) (hG 40 9999 0 40 9999 0 105 8641) = _
        refine st_iload (p' := 1) rfl rfl rfl ?_
        refine st_ifF (p' := 4) rfl (q_lt' (by rw [show (0 : Int32).toInt = 0 from by decide]; omega)) rfl ?_
        refine st_iload (p' := 5) rfl rfl rfl ?_
        refine st_aload (p' := 6) rfl rfl rfl ?_
        refine st_getf (p' := 9) (v := .int 0) rfl rfl (hG_c23 ..) rfl ?_
        refine st_icT (p' := 22) rfl (q_le (by rw [show (0 : Int32).toInt = 0 from by decide]; omega)) rfl ?_
        refine st_push (p' := 23) rfl rfl ?_
        exact st_ret_i rfl
      refine st_inv (p' := 8) (av := [.ref 23, .int p0]) (s' := [.int 0]) rfl rfl c1 rfl rfl (q_recv (hG_c23 ..)) rfl rfl ?_
      refine st_ifF (p' := 11) rfl (by decide +kernel) rfl ?_
      exact st_throw rfl rfl rfl
    refine st_invC (p' := 15) (q := 4) (l' := [(0, .ref 0), (1, .int p0), (2, .int p1), (3, .ref 104)]) (av := [.ref 0, .int p0, .int p1]) rfl rfl c2 rfl rfl (q_recv (hG_x ..)) (by decide +kernel) rfl ?_
    refine st_push (p' := 16) rfl rfl ?_
    exact st_ret_i rfl
  have c7 : ev_call mt pg 3000 12 274 [.ref 82, .int p0, .int p1] (hG 40 9999 0 40 9999 0 106 8647) = some (.inl (some (.int 0)), (hG 40 9999 1 40 9999 0 106 8647)) := by
    refine ev_mc rfl ?_ (ev_finx (by first | rfl | decide +kernel) rfl rfl)
    show ev_run (pg 274) (ev_call mt pg 3000 11) 3000 (0, [(0, .ref 82), (1, .int p0), (2, .int p1)], []) (hG 40 9999 0 40 9999 0 106 8647) = _
    refine st_aload (p' := 1) rfl rfl rfl ?_
    refine st_push (p' := 2) rfl rfl ?_
    refine st_putf (p' := 5) (h' := (hG 40 9999 0 40 9999 0 106 8647)) rfl rfl (hG_m ..) rfl (hG_sm ..) ?_
    refine st_aload (p' := 6) rfl rfl rfl ?_
    refine st_iload (p' := 7) rfl rfl rfl ?_
    have c5 : ev_call mt pg 3000 11 260 [.ref 82, .int p0] (hG 40 9999 0 40 9999 0 106 8647) = some (.inl (some (.int 0)), (hG 40 9999 0 40 9999 0 106 8647)) := by
      refine ev_mc rfl ?_ (ev_finx (by first | rfl | decide +kernel) rfl rfl)
      show ev_run (pg 260) (ev_call mt pg 3000 10) 3000 (0, [(0, .ref 82), (1, .int p0)], []) (hG 40 9999 0 40 9999 0 106 8647) = _
      refine st_iload (p' := 1) rfl rfl rfl ?_
      refine st_push (p' := 2) rfl rfl ?_
      refine st_aload (p' := 3) rfl rfl rfl ?_
      refine st_getf (p' := 6) (v := .int 0) rfl rfl (hG_m ..) rfl ?_
      refine st_push (p' := 7) rfl rfl ?_
      refine st_ii (p' := 8) (z := (-1)) rfl rfl (by decide +kernel) ?_
      have c4 : ev_call mt pg 3000 10 230 [.int p0, .int 0, .int (-1)] (hG 40 9999 0 40 9999 0 106 8647) = some (.inl (some (.int 0)), (hG 40 9999 0 40 9999 0 106 8647)) := by
        refine ev_mc rfl ?_ (ev_finx (by first | rfl | decide +kernel) rfl rfl)
        show ev_run (pg 230) (ev_call mt pg 3000 9) 3000 (0, [(0, .int p0), (1, .int 0), (2, .int (-1))], []) (hG 40 9999 0 40 9999 0 106 8647) = _
        refine st_iload (p' := 1) rfl rfl rfl ?_
        refine st_iload (p' := 2) rfl rfl rfl ?_
        refine st_icF (p' := 5) rfl (q_lt' (by rw [show (0 : Int32).toInt = 0 from by decide]; omega)) rfl ?_
        refine st_iload (p' := 6) rfl rfl rfl ?_
        refine st_iload (p' := 7) rfl rfl rfl ?_
        refine st_icT (p' := 14) rfl (q_lt (by rw [show ((-1) : Int32).toInt = (-1) from by decide]; omega)) rfl ?_
        refine st_push (p' := 15) rfl rfl ?_
        exact st_ret_i rfl
      refine st_inv (p' := 11) (av := [.int p0, .int 0, .int (-1)]) (s' := [.int 0]) rfl rfl c4 rfl rfl rfl rfl rfl ?_
      exact st_ret_i rfl
    refine st_inv (p' := 10) (av := [.ref 82, .int p0]) (s' := [.int 0]) rfl rfl c5 rfl rfl (q_recv (hG_m ..)) rfl rfl ?_
    refine st_ifF (p' := 13) rfl (by decide +kernel) rfl ?_
    refine st_aload (p' := 14) rfl rfl rfl ?_
    refine st_push (p' := 15) rfl rfl ?_
    have c6 : ev_call mt pg 3000 11 229 [.ref 82, .int 1] (hG 40 9999 0 40 9999 0 106 8647) = some (.inl (some (.int 0)), (hG 40 9999 1 40 9999 0 106 8647)) := by
      refine ev_mc rfl ?_ (ev_finx (by first | rfl | decide +kernel) rfl rfl)
      show ev_run (pg 229) (ev_call mt pg 3000 10) 3000 (0, [(0, .ref 82), (1, .int 1)], []) (hG 40 9999 0 40 9999 0 106 8647) = _
      refine st_aload (p' := 1) rfl rfl rfl ?_
      refine st_iload (p' := 2) rfl rfl rfl ?_
      refine st_putf (p' := 5) (h' := (hG 40 9999 1 40 9999 0 106 8647)) rfl rfl (hG_m ..) rfl (hG_sm ..) ?_
      refine st_push (p' := 6) rfl rfl ?_
      exact st_ret_i rfl
    refine st_inv (p' := 18) (av := [.ref 82, .int 1]) (s' := [.int 0]) rfl rfl c6 rfl rfl (q_recv (hG_m ..)) rfl rfl ?_
    exact st_ret_i rfl
  have c8 : ev_call mt pg 3000 12 228 [.ref 82] (hG 40 9999 1 40 9999 0 106 8647) = some (.inl (some (.int 1)), (hG 40 9999 1 40 9999 0 106 8647)) := by
    refine ev_mc rfl ?_ (ev_finx (by first | rfl | decide +kernel) rfl rfl)
    show ev_run (pg 228) (ev_call mt pg 3000 11) 3000 (0, [(0, .ref 82)], []) (hG 40 9999 1 40 9999 0 106 8647) = _
    refine st_aload (p' := 1) rfl rfl rfl ?_
    refine st_getf (p' := 4) (v := .int 1) rfl rfl (hG_m ..) rfl ?_
    exact st_ret_i rfl
  exact ⟨1, 0, _, _, _, _, c3, hG_m .., c7, hG_m .., c8, (fun h => absurd h (by decide)), Nat.le_of_ble_eq_true rfl, Nat.le_of_ble_eq_true rfl⟩
theorem ag_call (p0 p1 : Int32)  : agree 311 274 [.ref 0, .int p0, .int p1, .ref 104] [.ref 82, .int p0, .int p1] := by
  rcases Int.lt_or_le p0.toInt 0 with h | h
  · exact ag_call_1 p0 p1 (by omega)
  · exact ag_call_2 p0 p1 (by omega)
theorem ag_ofBinding_1 (p0 p1 p2 : Int32) (u_p0 : p0.toInt ≤ -1) : agree 312 276 [.ref 0, .int p0, .int p1, .int p2, .ref 104] [.ref 82, .int p0, .int p1, .int p2] := by
  have c3 : ev_call mt pg 3000 12 312 [.ref 0, .int p0, .int p1, .int p2, .ref 104] (hG 40 9999 0 40 9999 0 105 8641) = some (.inl (some (.int 1)), (hG 40 9999 0 40 9999 0 106 8647)) := by
    refine ev_mc rfl ?_ (ev_finx (by first | rfl | decide +kernel) rfl rfl)
    show ev_run (pg 312) (ev_call mt pg 3000 11) 3000 (0, [(0, .ref 0), (1, .int p0), (2, .int p1), (3, .int p2), (4, .ref 104)], []) (hG 40 9999 0 40 9999 0 105 8641) = _
    refine st_aload (p' := 2) rfl rfl rfl ?_
    refine st_push (p' := 3) rfl rfl ?_
    refine st_aload (p' := 4) rfl rfl rfl ?_
    refine st_iload (p' := 5) rfl rfl rfl ?_
    refine st_iload (p' := 6) rfl rfl rfl ?_
    refine st_iload (p' := 7) rfl rfl rfl ?_
    have c2 : ev_call mt pg 3000 11 181 [.ref 0, .int p0, .int p1, .int p2] (hG 40 9999 0 40 9999 0 105 8641) = some (.inr "java/lang/IndexOutOfBoundsException", (hG 40 9999 0 40 9999 0 106 8647)) := by
      refine ev_mc rfl ?_ (ev_finX (by decide +kernel) rfl rfl)
      show ev_run (pg 181) (ev_call mt pg 3000 10) 3000 (0, [(0, .ref 0), (1, .int p0), (2, .int p1), (3, .int p2)], []) (hG 40 9999 0 40 9999 0 105 8641) = _
      refine st_aload (p' := 1) rfl rfl rfl ?_
      refine st_getf (p' := 4) (v := .ref 23) rfl rfl (hG_x ..) rfl ?_
      refine st_iload (p' := 5) rfl rfl rfl ?_
      have c1 : ev_call mt pg 3000 10 44 [.ref 23, .int p0] (hG 40 9999 0 40 9999 0 105 8641) = some (.inl (some (.int 0)), (hG 40 9999 0 40 9999 0 105 8641)) := by
        refine ev_mc rfl ?_ (ev_finx (by first | rfl | decide +kernel) rfl rfl)
        show ev_run (pg 44) (ev_call mt pg 3000 9) 3000 (0, [(0, .ref 23), (1, .int p0)], []) (hG 40 9999 0 40 9999 0 105 8641) = _
        refine st_iload (p' := 1) rfl rfl rfl ?_
        refine st_ifT (p' := 22) rfl (q_lt (by rw [show (0 : Int32).toInt = 0 from by decide]; omega)) rfl ?_
        refine st_push (p' := 23) rfl rfl ?_
        exact st_ret_i rfl
      refine st_inv (p' := 8) (av := [.ref 23, .int p0]) (s' := [.int 0]) rfl rfl c1 rfl rfl (q_recv (hG_c23 ..)) rfl rfl ?_
      refine st_ifF (p' := 11) rfl (by decide +kernel) rfl ?_
      exact st_throw rfl rfl rfl
    refine st_invC (p' := 17) (q := 5) (l' := [(0, .ref 0), (1, .int p0), (2, .int p1), (3, .int p2), (4, .ref 104)]) (av := [.ref 0, .int p0, .int p1, .int p2]) rfl rfl c2 rfl rfl (q_recv (hG_x ..)) (by decide +kernel) rfl ?_
    refine st_push (p' := 18) rfl rfl ?_
    exact st_ret_i rfl
  have c7 : ev_call mt pg 3000 12 276 [.ref 82, .int p0, .int p1, .int p2] (hG 40 9999 0 40 9999 0 106 8647) = some (.inl (some (.int 0)), (hG 40 9999 1 40 9999 0 106 8647)) := by
    refine ev_mc rfl ?_ (ev_finx (by first | rfl | decide +kernel) rfl rfl)
    show ev_run (pg 276) (ev_call mt pg 3000 11) 3000 (0, [(0, .ref 82), (1, .int p0), (2, .int p1), (3, .int p2)], []) (hG 40 9999 0 40 9999 0 106 8647) = _
    refine st_aload (p' := 1) rfl rfl rfl ?_
    refine st_push (p' := 2) rfl rfl ?_
    refine st_putf (p' := 5) (h' := (hG 40 9999 0 40 9999 0 106 8647)) rfl rfl (hG_m ..) rfl (hG_sm ..) ?_
    refine st_aload (p' := 6) rfl rfl rfl ?_
    refine st_iload (p' := 7) rfl rfl rfl ?_
    have c5 : ev_call mt pg 3000 11 260 [.ref 82, .int p0] (hG 40 9999 0 40 9999 0 106 8647) = some (.inl (some (.int 0)), (hG 40 9999 0 40 9999 0 106 8647)) := by
      refine ev_mc rfl ?_ (ev_finx (by first | rfl | decide +kernel) rfl rfl)
      show ev_run (pg 260) (ev_call mt pg 3000 10) 3000 (0, [(0, .ref 82), (1, .int p0)], []) (hG 40 9999 0 40 9999 0 106 8647) = _
      refine st_iload (p' := 1) rfl rfl rfl ?_
      refine st_push (p' := 2) rfl rfl ?_
      refine st_aload (p' := 3) rfl rfl rfl ?_
      refine st_getf (p' := 6) (v := .int 0) rfl rfl (hG_m ..) rfl ?_
      refine st_push (p' := 7) rfl rfl ?_
      refine st_ii (p' := 8) (z := (-1)) rfl rfl (by decide +kernel) ?_
      have c4 : ev_call mt pg 3000 10 230 [.int p0, .int 0, .int (-1)] (hG 40 9999 0 40 9999 0 106 8647) = some (.inl (some (.int 0)), (hG 40 9999 0 40 9999 0 106 8647)) := by
        refine ev_mc rfl ?_ (ev_finx (by first | rfl | decide +kernel) rfl rfl)
        show ev_run (pg 230) (ev_call mt pg 3000 9) 3000 (0, [(0, .int p0), (1, .int 0), (2, .int (-1))], []) (hG 40 9999 0 40 9999 0 106 8647) = _
        refine st_iload (p' := 1) rfl rfl rfl ?_
        refine st_iload (p' := 2) rfl rfl rfl ?_
        refine st_icT (p' := 14) rfl (q_lt (by rw [show (0 : Int32).toInt = 0 from by decide]; omega)) rfl ?_
        refine st_push (p' := 15) rfl rfl ?_
        exact st_ret_i rfl
      refine st_inv (p' := 11) (av := [.int p0, .int 0, .int (-1)]) (s' := [.int 0]) rfl rfl c4 rfl rfl rfl rfl rfl ?_
      exact st_ret_i rfl
    refine st_inv (p' := 10) (av := [.ref 82, .int p0]) (s' := [.int 0]) rfl rfl c5 rfl rfl (q_recv (hG_m ..)) rfl rfl ?_
    refine st_ifF (p' := 13) rfl (by decide +kernel) rfl ?_
    refine st_aload (p' := 14) rfl rfl rfl ?_
    refine st_push (p' := 15) rfl rfl ?_
    have c6 : ev_call mt pg 3000 11 229 [.ref 82, .int 1] (hG 40 9999 0 40 9999 0 106 8647) = some (.inl (some (.int 0)), (hG 40 9999 1 40 9999 0 106 8647)) := by
      refine ev_mc rfl ?_ (ev_finx (by first | rfl | decide +kernel) rfl rfl)
      show ev_run (pg 229) (ev_call mt pg 3000 10) 3000 (0, [(0, .ref 82), (1, .int 1)], []) (hG 40 9999 0 40 9999 0 106 8647) = _
      refine st_aload (p' := 1) rfl rfl rfl ?_
      refine st_iload (p' := 2) rfl rfl rfl ?_
      refine st_putf (p' := 5) (h' := (hG 40 9999 1 40 9999 0 106 8647)) rfl rfl (hG_m ..) rfl (hG_sm ..) ?_
      refine st_push (p' := 6) rfl rfl ?_
      exact st_ret_i rfl
    refine st_inv (p' := 18) (av := [.ref 82, .int 1]) (s' := [.int 0]) rfl rfl c6 rfl rfl (q_recv (hG_m ..)) rfl rfl ?_
    exact st_ret_i rfl
  have c8 : ev_call mt pg 3000 12 228 [.ref 82] (hG 40 9999 1 40 9999 0 106 8647) = some (.inl (some (.int 1)), (hG 40 9999 1 40 9999 0 106 8647)) := by
    refine ev_mc rfl ?_ (ev_finx (by first | rfl | decide +kernel) rfl rfl)
    show ev_run (pg 228) (ev_call mt pg 3000 11) 3000 (0, [(0, .ref 82)], []) (hG 40 9999 1 40 9999 0 106 8647) = _
    refine st_aload (p' := 1) rfl rfl rfl ?_
    refine st_getf (p' := 4) (v := .int 1) rfl rfl (hG_m ..) rfl ?_
    exact st_ret_i rfl
  exact ⟨1, 0, _, _, _, _, c3, hG_m .., c7, hG_m .., c8, (fun h => absurd h (by decide)), Nat.le_of_ble_eq_true rfl, Nat.le_of_ble_eq_true rfl⟩
theorem ag_ofBinding_2 (p0 p1 p2 : Int32) (l_p0 : 0 ≤ p0.toInt) : agree 312 276 [.ref 0, .int p0, .int p1, .int p2, .ref 104] [.ref 82, .int p0, .int p1, .int p2] := by
  have c3 : ev_call mt pg 3000 12 312 [.ref 0, .int p0, .int p1, .int p2, .ref 104] (hG 40 9999 0 40 9999 0 105 8641) = some (.inl (some (.int 1)), (hG 40 9999 0 40 9999 0 106 8647)) := by
    refine ev_mc rfl ?_ (ev_finx (by first | rfl | decide +kernel) rfl rfl)
    show ev_run (pg 312) (ev_call mt pg 3000 11) 3000 (0, [(0, .ref 0), (1, .int p0), (2, .int p1), (3, .int p2), (4, .ref 104)], []) (hG 40 9999 0 40 9999 0 105 8641) = _
    refine st_aload (p' := 2) rfl rfl rfl ?_
    refine st_push (p' := 3) rfl rfl ?_
    refine st_aload (p' := 4) rfl rfl rfl ?_
    refine st_iload (p' := 5) rfl rfl rfl ?_
    refine st_iload (p' := 6) rfl rfl rfl ?_
    refine st_iload (p' := 7) rfl rfl rfl ?_
    have c2 : ev_call mt pg 3000 11 181 [.ref 0, .int p0, .int p1, .int p2] (hG 40 9999 0 40 9999 0 105 8641) = some (.inr "java/lang/IndexOutOfBoundsException", (hG 40 9999 0 40 9999 0 106 8647)) := by
      refine ev_mc rfl ?_ (ev_finX (by decide +kernel) rfl rfl)
      show ev_run (pg 181) (ev_call mt pg 3000 10) 3000 (0, [(0, .ref 0), (1, .int p0), (2, .int p1), (3, .int p2)], []) (hG 40 9999 0 40 9999 0 105 8641) = _
      refine st_aload (p' := 1) rfl rfl rfl ?_
      refine st_getf (p' := 4) (v := .ref 23) rfl rfl (hG_x ..) rfl ?_
      refine st_iload (p' := 5) rfl rfl rfl ?_
      have c1 : ev_call mt pg 3000 10 44 [.ref 23, .int p0] (hG 40 9999 0 40 9999 0 105 8641) = some (.inl (some (.int 0)), (hG 40 9999 0 40 9999 0 105 8641)) := by
        refine ev_mc rfl ?_ (ev_finx (by first | rfl | decide +kernel) rfl rfl)
        show ev_run (pg 44) (ev_call mt pg 3000 9) 3000 (0, [(0, .ref 23), (1, .int p0)], []) (hG 40 9999 0 40 9999 0 105 8641) = _
        refine st_iload (p' := 1) rfl rfl rfl ?_
        refine st_ifF (p' := 4) rfl (q_lt' (by rw [show (0 : Int32).toInt = 0 from by decide]; omega)) rfl ?_
        refine st_iload (p' := 5) rfl rfl rfl ?_
        refine st_aload (p' := 6) rfl rfl rfl ?_
        refine st_getf (p' := 9) (v := .int 0) rfl rfl (hG_c23 ..) rfl ?_
        refine st_icT (p' := 22) rfl (q_le (by rw [show (0 : Int32).toInt = 0 from by decide]; omega)) rfl ?_
        refine st_push (p' := 23) rfl rfl ?_
        exact st_ret_i rfl
      refine st_inv (p' := 8) (av := [.ref 23, .int p0]) (s' := [.int 0]) rfl rfl c1 rfl rfl (q_recv (hG_c23 ..)) rfl rfl ?_
      refine st_ifF (p' := 11) rfl (by decide +kernel) rfl ?_
      exact st_throw rfl rfl rfl
    refine st_invC (p' := 17) (q := 5) (l' := [(0, .ref 0), (1, .int p0), (2, .int p1), (3, .int p2), (4, .ref 104)]) (av := [.ref 0, .int p0, .int p1, .int p2]) rfl rfl c2 rfl rfl (q_recv (hG_x ..)) (by decide +kernel) rfl ?_
    refine st_push (p' := 18) rfl rfl ?_
    exact st_ret_i rfl
  have c7 : ev_call mt pg 3000 12 276 [.ref 82, .int p0, .int p1, .int p2] (hG 40 9999 0 40 9999 0 106 8647) = some (.inl (some (.int 0)), (hG 40 9999 1 40 9999 0 106 8647)) := by
    refine ev_mc rfl ?_ (ev_finx (by first | rfl | decide +kernel) rfl rfl)
    show ev_run (pg 276) (ev_call mt pg 3000 11) 3000 (0, [(0, .ref 82), (1, .int p0), (2, .int p1), (3, .int p2)], []) (hG 40 9999 0 40 9999 0 106 8647) = _
    refine st_aload (p' := 1) rfl rfl rfl ?_
    refine st_push (p' := 2) rfl rfl ?_
    refine st_putf (p' := 5) (h' := (hG 40 9999 0 40 9999 0 106 8647)) rfl rfl (hG_m ..) rfl (hG_sm ..) ?_
    refine st_aload (p' := 6) rfl rfl rfl ?_
    refine st_iload (p' := 7) rfl rfl rfl ?_
    have c5 : ev_call mt pg 3000 11 260 [.ref 82, .int p0] (hG 40 9999 0 40 9999 0 106 8647) = some (.inl (some (.int 0)), (hG 40 9999 0 40 9999 0 106 8647)) := by
      refine ev_mc rfl ?_ (ev_finx (by first | rfl | decide +kernel) rfl rfl)
      show ev_run (pg 260) (ev_call mt pg 3000 10) 3000 (0, [(0, .ref 82), (1, .int p0)], []) (hG 40 9999 0 40 9999 0 106 8647) = _
      refine st_iload (p' := 1) rfl rfl rfl ?_
      refine st_push (p' := 2) rfl rfl ?_
      refine st_aload (p' := 3) rfl rfl rfl ?_
      refine st_getf (p' := 6) (v := .int 0) rfl rfl (hG_m ..) rfl ?_
      refine st_push (p' := 7) rfl rfl ?_
      refine st_ii (p' := 8) (z := (-1)) rfl rfl (by decide +kernel) ?_
      have c4 : ev_call mt pg 3000 10 230 [.int p0, .int 0, .int (-1)] (hG 40 9999 0 40 9999 0 106 8647) = some (.inl (some (.int 0)), (hG 40 9999 0 40 9999 0 106 8647)) := by
        refine ev_mc rfl ?_ (ev_finx (by first | rfl | decide +kernel) rfl rfl)
        show ev_run (pg 230) (ev_call mt pg 3000 9) 3000 (0, [(0, .int p0), (1, .int 0), (2, .int (-1))], []) (hG 40 9999 0 40 9999 0 106 8647) = _
        refine st_iload (p' := 1) rfl rfl rfl ?_
        refine st_iload (p' := 2) rfl rfl rfl ?_
        refine st_icF (p' := 5) rfl (q_lt' (by rw [show (0 : Int32).toInt = 0 from by decide]; omega)) rfl ?_
        refine st_iload (p' := 6) rfl rfl rfl ?_
        refine st_iload (p' := 7) rfl rfl rfl ?_
        refine st_icT (p' := 14) rfl (q_lt (by rw [show ((-1) : Int32).toInt = (-1) from by decide]; omega)) rfl ?_
        refine st_push (p' := 15) rfl rfl ?_
        exact st_ret_i rfl
      refine st_inv (p' := 11) (av := [.int p0, .int 0, .int (-1)]) (s' := [.int 0]) rfl rfl c4 rfl rfl rfl rfl rfl ?_
      exact st_ret_i rfl
    refine st_inv (p' := 10) (av := [.ref 82, .int p0]) (s' := [.int 0]) rfl rfl c5 rfl rfl (q_recv (hG_m ..)) rfl rfl ?_
    refine st_ifF (p' := 13) rfl (by decide +kernel) rfl ?_
    refine st_aload (p' := 14) rfl rfl rfl ?_
    refine st_push (p' := 15) rfl rfl ?_
    have c6 : ev_call mt pg 3000 11 229 [.ref 82, .int 1] (hG 40 9999 0 40 9999 0 106 8647) = some (.inl (some (.int 0)), (hG 40 9999 1 40 9999 0 106 8647)) := by
      refine ev_mc rfl ?_ (ev_finx (by first | rfl | decide +kernel) rfl rfl)
      show ev_run (pg 229) (ev_call mt pg 3000 10) 3000 (0, [(0, .ref 82), (1, .int 1)], []) (hG 40 9999 0 40 9999 0 106 8647) = _
      refine st_aload (p' := 1) rfl rfl rfl ?_
      refine st_iload (p' := 2) rfl rfl rfl ?_
      refine st_putf (p' := 5) (h' := (hG 40 9999 1 40 9999 0 106 8647)) rfl rfl (hG_m ..) rfl (hG_sm ..) ?_
      refine st_push (p' := 6) rfl rfl ?_
      exact st_ret_i rfl
    refine st_inv (p' := 18) (av := [.ref 82, .int 1]) (s' := [.int 0]) rfl rfl c6 rfl rfl (q_recv (hG_m ..)) rfl rfl ?_
    exact st_ret_i rfl
  have c8 : ev_call mt pg 3000 12 228 [.ref 82] (hG 40 9999 1 40 9999 0 106 8647) = some (.inl (some (.int 1)), (hG 40 9999 1 40 9999 0 106 8647)) := by
    refine ev_mc rfl ?_ (ev_finx (by first | rfl | decide +kernel) rfl rfl)
    show ev_run (pg 228) (ev_call mt pg 3000 11) 3000 (0, [(0, .ref 82)], []) (hG 40 9999 1 40 9999 0 106 8647) = _
    refine st_aload (p' := 1) rfl rfl rfl ?_
    refine st_getf (p' := 4) (v := .int 1) rfl rfl (hG_m ..) rfl ?_
    exact st_ret_i rfl
  exact ⟨1, 0, _, _, _, _, c3, hG_m .., c7, hG_m .., c8, (fun h => absurd h (by decide)), Nat.le_of_ble_eq_true rfl, Nat.le_of_ble_eq_true rfl⟩
theorem ag_ofBinding (p0 p1 p2 : Int32)  : agree 312 276 [.ref 0, .int p0, .int p1, .int p2, .ref 104] [.ref 82, .int p0, .int p1, .int p2] := by
  rcases Int.lt_or_le p0.toInt 0 with h | h
  · exact ag_ofBinding_1 p0 p1 p2 (by omega)
  · exact ag_ofBinding_2 p0 p1 p2 (by omega)
theorem ag_ofLibrary_1 (p0 p1 : Int32) (u_p0 : p0.toInt ≤ -1) : agree 313 280 [.ref 0, .int p0, .int p1, .ref 104] [.ref 82, .int p0, .int p1] := by
  have c3 : ev_call mt pg 3000 12 313 [.ref 0, .int p0, .int p1, .ref 104] (hG 40 9999 0 40 9999 0 105 8641) = some (.inl (some (.int 1)), (hG 40 9999 0 40 9999 0 106 8647)) := by
    refine ev_mc rfl ?_ (ev_finx (by first | rfl | decide +kernel) rfl rfl)
    show ev_run (pg 313) (ev_call mt pg 3000 11) 3000 (0, [(0, .ref 0), (1, .int p0), (2, .int p1), (3, .ref 104)], []) (hG 40 9999 0 40 9999 0 105 8641) = _
    refine st_aload (p' := 1) rfl rfl rfl ?_
    refine st_push (p' := 2) rfl rfl ?_
    refine st_aload (p' := 3) rfl rfl rfl ?_
    refine st_iload (p' := 4) rfl rfl rfl ?_
    refine st_iload (p' := 5) rfl rfl rfl ?_
    have c2 : ev_call mt pg 3000 11 182 [.ref 0, .int p0, .int p1] (hG 40 9999 0 40 9999 0 105 8641) = some (.inr "java/lang/IndexOutOfBoundsException", (hG 40 9999 0 40 9999 0 106 8647)) := by
      refine ev_mc rfl ?_ (ev_finX (by decide +kernel) rfl rfl)
      show ev_run (pg 182) (ev_call mt pg 3000 10) 3000 (0, [(0, .ref 0), (1, .int p0), (2, .int p1)], []) (hG 40 9999 0 40 9999 0 105 8641) = _
      refine st_aload (p' := 1) rfl rfl rfl ?_
      refine st_getf (p' := 4) (v := .ref 23) rfl rfl (hG_x ..) rfl ?_
      refine st_iload (p' := 5) rfl rfl rfl ?_
      have c1 : ev_call mt pg 3000 10 44 [.ref 23, .int p0] (hG 40 9999 0 40 9999 0 105 8641) = some (.inl (some (.int 0)), (hG 40 9999 0 40 9999 0 105 8641)) := by
        refine ev_mc rfl ?_ (ev_finx (by first | rfl | decide +kernel) rfl rfl)
        show ev_run (pg 44) (ev_call mt pg 3000 9) 3000 (0, [(0, .ref 23), (1, .int p0)], []) (hG 40 9999 0 40 9999 0 105 8641) = _
        refine st_iload (p' := 1) rfl rfl rfl ?_
        refine st_ifT (p' := 22) rfl (q_lt (by rw [show (0 : Int32).toInt = 0 from by decide]; omega)) rfl ?_
        refine st_push (p' := 23) rfl rfl ?_
        exact st_ret_i rfl
      refine st_inv (p' := 8) (av := [.ref 23, .int p0]) (s' := [.int 0]) rfl rfl c1 rfl rfl (q_recv (hG_c23 ..)) rfl rfl ?_
      refine st_ifF (p' := 11) rfl (by decide +kernel) rfl ?_
      exact st_throw rfl rfl rfl
    refine st_invC (p' := 15) (q := 4) (l' := [(0, .ref 0), (1, .int p0), (2, .int p1), (3, .ref 104)]) (av := [.ref 0, .int p0, .int p1]) rfl rfl c2 rfl rfl (q_recv (hG_x ..)) (by decide +kernel) rfl ?_
    refine st_push (p' := 16) rfl rfl ?_
    exact st_ret_i rfl
  have c7 : ev_call mt pg 3000 12 280 [.ref 82, .int p0, .int p1] (hG 40 9999 0 40 9999 0 106 8647) = some (.inl (some (.int 0)), (hG 40 9999 1 40 9999 0 106 8647)) := by
    refine ev_mc rfl ?_ (ev_finx (by first | rfl | decide +kernel) rfl rfl)
    show ev_run (pg 280) (ev_call mt pg 3000 11) 3000 (0, [(0, .ref 82), (1, .int p0), (2, .int p1)], []) (hG 40 9999 0 40 9999 0 106 8647) = _
    refine st_aload (p' := 1) rfl rfl rfl ?_
    refine st_push (p' := 2) rfl rfl ?_
    refine st_putf (p' := 5) (h' := (hG 40 9999 0 40 9999 0 106 8647)) rfl rfl (hG_m ..) rfl (hG_sm ..) ?_
    refine st_aload (p' := 6) rfl rfl rfl ?_
    refine st_iload (p' := 7) rfl rfl rfl ?_
    have c5 : ev_call mt pg 3000 11 260 [.ref 82, .int p0] (hG 40 9999 0 40 9999 0 106 8647) = some (.inl (some (.int 0)), (hG 40 9999 0 40 9999 0 106 8647)) := by
      refine ev_mc rfl ?_ (ev_finx (by first | rfl | decide +kernel) rfl rfl)
      show ev_run (pg 260) (ev_call mt pg 3000 10) 3000 (0, [(0, .ref 82), (1, .int p0)], []) (hG 40 9999 0 40 9999 0 106 8647) = _
      refine st_iload (p' := 1) rfl rfl rfl ?_
      refine st_push (p' := 2) rfl rfl ?_
      refine st_aload (p' := 3) rfl rfl rfl ?_
      refine st_getf (p' := 6) (v := .int 0) rfl rfl (hG_m ..) rfl ?_
      refine st_push (p' := 7) rfl rfl ?_
      refine st_ii (p' := 8) (z := (-1)) rfl rfl (by decide +kernel) ?_
      have c4 : ev_call mt pg 3000 10 230 [.int p0, .int 0, .int (-1)] (hG 40 9999 0 40 9999 0 106 8647) = some (.inl (some (.int 0)), (hG 40 9999 0 40 9999 0 106 8647)) := by
        refine ev_mc rfl ?_ (ev_finx (by first | rfl | decide +kernel) rfl rfl)
        show ev_run (pg 230) (ev_call mt pg 3000 9) 3000 (0, [(0, .int p0), (1, .int 0), (2, .int (-1))], []) (hG 40 9999 0 40 9999 0 106 8647) = _
        refine st_iload (p' := 1) rfl rfl rfl ?_
        refine st_iload (p' := 2) rfl rfl rfl ?_
        refine st_icT (p' := 14) rfl (q_lt (by rw [show (0 : Int32).toInt = 0 from by decide]; omega)) rfl ?_
        refine st_push (p' := 15) rfl rfl ?_
        exact st_ret_i rfl
      refine st_inv (p' := 11) (av := [.int p0, .int 0, .int (-1)]) (s' := [.int 0]) rfl rfl c4 rfl rfl rfl rfl rfl ?_
      exact st_ret_i rfl
    refine st_inv (p' := 10) (av := [.ref 82, .int p0]) (s' := [.int 0]) rfl rfl c5 rfl rfl (q_recv (hG_m ..)) rfl rfl ?_
    refine st_ifF (p' := 13) rfl (by decide +kernel) rfl ?_
    refine st_aload (p' := 14) rfl rfl rfl ?_
    refine st_push (p' := 15) rfl rfl ?_
    have c6 : ev_call mt pg 3000 11 229 [.ref 82, .int 1] (hG 40 9999 0 40 9999 0 106 8647) = some (.inl (some (.int 0)), (hG 40 9999 1 40 9999 0 106 8647)) := by
      refine ev_mc rfl ?_ (ev_finx (by first | rfl | decide +kernel) rfl rfl)
      show ev_run (pg 229) (ev_call mt pg 3000 10) 3000 (0, [(0, .ref 82), (1, .int 1)], []) (hG 40 9999 0 40 9999 0 106 8647) = _
      refine st_aload (p' := 1) rfl rfl rfl ?_
      refine st_iload (p' := 2) rfl rfl rfl ?_
      refine st_putf (p' := 5) (h' := (hG 40 9999 1 40 9999 0 106 8647)) rfl rfl (hG_m ..) rfl (hG_sm ..) ?_
      refine st_push (p' := 6) rfl rfl ?_
      exact st_ret_i rfl
    refine st_inv (p' := 18) (av := [.ref 82, .int 1]) (s' := [.int 0]) rfl rfl c6 rfl rfl (q_recv (hG_m ..)) rfl rfl ?_
    exact st_ret_i rfl
  have c8 : ev_call mt pg 3000 12 228 [.ref 82] (hG 40 9999 1 40 9999 0 106 8647) = some (.inl (some (.int 1)), (hG 40 9999 1 40 9999 0 106 8647)) := by
    refine ev_mc rfl ?_ (ev_finx (by first | rfl | decide +kernel) rfl rfl)
    show ev_run (pg 228) (ev_call mt pg 3000 11) 3000 (0, [(0, .ref 82)], []) (hG 40 9999 1 40 9999 0 106 8647) = _
    refine st_aload (p' := 1) rfl rfl rfl ?_
    refine st_getf (p' := 4) (v := .int 1) rfl rfl (hG_m ..) rfl ?_
    exact st_ret_i rfl
  exact ⟨1, 0, _, _, _, _, c3, hG_m .., c7, hG_m .., c8, (fun h => absurd h (by decide)), Nat.le_of_ble_eq_true rfl, Nat.le_of_ble_eq_true rfl⟩
theorem ag_ofLibrary_2 (p0 p1 : Int32) (l_p0 : 0 ≤ p0.toInt) : agree 313 280 [.ref 0, .int p0, .int p1, .ref 104] [.ref 82, .int p0, .int p1] := by
  have c3 : ev_call mt pg 3000 12 313 [.ref 0, .int p0, .int p1, .ref 104] (hG 40 9999 0 40 9999 0 105 8641) = some (.inl (some (.int 1)), (hG 40 9999 0 40 9999 0 106 8647)) := by
    refine ev_mc rfl ?_ (ev_finx (by first | rfl | decide +kernel) rfl rfl)
    show ev_run (pg 313) (ev_call mt pg 3000 11) 3000 (0, [(0, .ref 0), (1, .int p0), (2, .int p1), (3, .ref 104)], []) (hG 40 9999 0 40 9999 0 105 8641) = _
    refine st_aload (p' := 1) rfl rfl rfl ?_
    refine st_push (p' := 2) rfl rfl ?_
    refine st_aload (p' := 3) rfl rfl rfl ?_
    refine st_iload (p' := 4) rfl rfl rfl ?_
    refine st_iload (p' := 5) rfl rfl rfl ?_
    have c2 : ev_call mt pg 3000 11 182 [.ref 0, .int p0, .int p1] (hG 40 9999 0 40 9999 0 105 8641) = some (.inr "java/lang/IndexOutOfBoundsException", (hG 40 9999 0 40 9999 0 106 8647)) := by
      refine ev_mc rfl ?_ (ev_finX (by decide +kernel) rfl rfl)
      show ev_run (pg 182) (ev_call mt pg 3000 10) 3000 (0, [(0, .ref 0), (1, .int p0), (2, .int p1)], []) (hG 40 9999 0 40 9999 0 105 8641) = _
      refine st_aload (p' := 1) rfl rfl rfl ?_
      refine st_getf (p' := 4) (v := .ref 23) rfl rfl (hG_x ..) rfl ?_
      refine st_iload (p' := 5) rfl rfl rfl ?_
      have c1 : ev_call mt pg 3000 10 44 [.ref 23, .int p0] (hG 40 9999 0 40 9999 0 105 8641) = some (.inl (some (.int 0)), (hG 40 9999 0 40 9999 0 105 8641)) := by
        refine ev_mc rfl ?_ (ev_finx (by first | rfl | decide +kernel) rfl rfl)
        show ev_run (pg 44) (ev_call mt pg 3000 9) 3000 (0, [(0, .ref 23), (1, .int p0)], []) (hG 40 9999 0 40 9999 0 105 8641) = _
        refine st_iload (p' := 1) rfl rfl rfl ?_
        refine st_ifF (p' := 4) rfl (q_lt' (by rw [show (0 : Int32).toInt = 0 from by decide]; omega)) rfl ?_
        refine st_iload (p' := 5) rfl rfl rfl ?_
        refine st_aload (p' := 6) rfl rfl rfl ?_
        refine st_getf (p' := 9) (v := .int 0) rfl rfl (hG_c23 ..) rfl ?_
        refine st_icT (p' := 22) rfl (q_le (by rw [show (0 : Int32).toInt = 0 from by decide]; omega)) rfl ?_
        refine st_push (p' := 23) rfl rfl ?_
        exact st_ret_i rfl
      refine st_inv (p' := 8) (av := [.ref 23, .int p0]) (s' := [.int 0]) rfl rfl c1 rfl rfl (q_recv (hG_c23 ..)) rfl rfl ?_
      refine st_ifF (p' := 11) rfl (by decide +kernel) rfl ?_
      exact st_throw rfl rfl rfl
    refine st_invC (p' := 15) (q := 4) (l' := [(0, .ref 0), (1, .int p0), (2, .int p1), (3, .ref 104)]) (av := [.ref 0, .int p0, .int p1]) rfl rfl c2 rfl rfl (q_recv (hG_x ..)) (by decide +kernel) rfl ?_
    refine st_push (p' := 16) rfl rfl ?_
    exact st_ret_i rfl
  have c7 : ev_call mt pg 3000 12 280 [.ref 82, .int p0, .int p1] (hG 40 9999 0 40 9999 0 106 8647) = some (.inl (some (.int 0)), (hG 40 9999 1 40 9999 0 106 8647)) := by
    refine ev_mc rfl ?_ (ev_finx (by first | rfl | decide +kernel) rfl rfl)
    show ev_run (pg 280) (ev_call mt pg 3000 11) 3000 (0, [(0, .ref 82), (1, .int p0), (2, .int p1)], []) (hG 40 9999 0 40 9999 0 106 8647) = _
    refine st_aload (p' := 1) rfl rfl rfl ?_
    refine st_push (p' := 2) rfl rfl ?_
    refine st_putf (p' := 5) (h' := (hG 40 9999 0 40 9999 0 106 8647)) rfl rfl (hG_m ..) rfl (hG_sm ..) ?_
    refine st_aload (p' := 6) rfl rfl rfl ?_
    refine st_iload (p' := 7) rfl rfl rfl ?_
    have c5 : ev_call mt pg 3000 11 260 [.ref 82, .int p0] (hG 40 9999 0 40 9999 0 106 8647) = some (.inl (some (.int 0)), (hG 40 9999 0 40 9999 0 106 8647)) := by
      refine ev_mc rfl ?_ (ev_finx (by first | rfl | decide +kernel) rfl rfl)
      show ev_run (pg 260) (ev_call mt pg 3000 10) 3000 (0, [(0, .ref 82), (1, .int p0)], []) (hG 40 9999 0 40 9999 0 106 8647) = _
      refine st_iload (p' := 1) rfl rfl rfl ?_
      refine st_push (p' := 2) rfl rfl ?_
      refine st_aload (p' := 3) rfl rfl rfl ?_
      refine st_getf (p' := 6) (v := .int 0) rfl rfl (hG_m ..) rfl ?_
      refine st_push (p' := 7) rfl rfl ?_
      refine st_ii (p' := 8) (z := (-1)) rfl rfl (by decide +kernel) ?_
      have c4 : ev_call mt pg 3000 10 230 [.int p0, .int 0, .int (-1)] (hG 40 9999 0 40 9999 0 106 8647) = some (.inl (some (.int 0)), (hG 40 9999 0 40 9999 0 106 8647)) := by
        refine ev_mc rfl ?_ (ev_finx (by first | rfl | decide +kernel) rfl rfl)
        show ev_run (pg 230) (ev_call mt pg 3000 9) 3000 (0, [(0, .int p0), (1, .int 0), (2, .int (-1))], []) (hG 40 9999 0 40 9999 0 106 8647) = _
        refine st_iload (p' := 1) rfl rfl rfl ?_
        refine st_iload (p' := 2) rfl rfl rfl ?_
        refine st_icF (p' := 5) rfl (q_lt' (by rw [show (0 : Int32).toInt = 0 from by decide]; omega)) rfl ?_
        refine st_iload (p' := 6) rfl rfl rfl ?_
        refine st_iload (p' := 7) rfl rfl rfl ?_
        refine st_icT (p' := 14) rfl (q_lt (by rw [show ((-1) : Int32).toInt = (-1) from by decide]; omega)) rfl ?_
        refine st_push (p' := 15) rfl rfl ?_
        exact st_ret_i rfl
      refine st_inv (p' := 11) (av := [.int p0, .int 0, .int (-1)]) (s' := [.int 0]) rfl rfl c4 rfl rfl rfl rfl rfl ?_
      exact st_ret_i rfl
    refine st_inv (p' := 10) (av := [.ref 82, .int p0]) (s' := [.int 0]) rfl rfl c5 rfl rfl (q_recv (hG_m ..)) rfl rfl ?_
    refine st_ifF (p' := 13) rfl (by decide +kernel) rfl ?_
    refine st_aload (p' := 14) rfl rfl rfl ?_
    refine st_push (p' := 15) rfl rfl ?_
    have c6 : ev_call mt pg 3000 11 229 [.ref 82, .int 1] (hG 40 9999 0 40 9999 0 106 8647) = some (.inl (some (.int 0)), (hG 40 9999 1 40 9999 0 106 8647)) := by
      refine ev_mc rfl ?_ (ev_finx (by first | rfl | decide +kernel) rfl rfl)
      show ev_run (pg 229) (ev_call mt pg 3000 10) 3000 (0, [(0, .ref 82), (1, .int 1)], []) (hG 40 9999 0 40 9999 0 106 8647) = _
      refine st_aload (p' := 1) rfl rfl rfl ?_
      refine st_iload (p' := 2) rfl rfl rfl ?_
      refine st_putf (p' := 5) (h' := (hG 40 9999 1 40 9999 0 106 8647)) rfl rfl (hG_m ..) rfl (hG_sm ..) ?_
      refine st_push (p' := 6) rfl rfl ?_
      exact st_ret_i rfl
    refine st_inv (p' := 18) (av := [.ref 82, .int 1]) (s' := [.int 0]) rfl rfl c6 rfl rfl (q_recv (hG_m ..)) rfl rfl ?_
    exact st_ret_i rfl
  have c8 : ev_call mt pg 3000 12 228 [.ref 82] (hG 40 9999 1 40 9999 0 106 8647) = some (.inl (some (.int 1)), (hG 40 9999 1 40 9999 0 106 8647)) := by
    refine ev_mc rfl ?_ (ev_finx (by first | rfl | decide +kernel) rfl rfl)
    show ev_run (pg 228) (ev_call mt pg 3000 11) 3000 (0, [(0, .ref 82)], []) (hG 40 9999 1 40 9999 0 106 8647) = _
    refine st_aload (p' := 1) rfl rfl rfl ?_
    refine st_getf (p' := 4) (v := .int 1) rfl rfl (hG_m ..) rfl ?_
    exact st_ret_i rfl
  exact ⟨1, 0, _, _, _, _, c3, hG_m .., c7, hG_m .., c8, (fun h => absurd h (by decide)), Nat.le_of_ble_eq_true rfl, Nat.le_of_ble_eq_true rfl⟩
theorem ag_ofLibrary (p0 p1 : Int32)  : agree 313 280 [.ref 0, .int p0, .int p1, .ref 104] [.ref 82, .int p0, .int p1] := by
  rcases Int.lt_or_le p0.toInt 0 with h | h
  · exact ag_ofLibrary_1 p0 p1 (by omega)
  · exact ag_ofLibrary_2 p0 p1 (by omega)
theorem ag_many_1 (p0 : Int32) (u_p0 : p0.toInt ≤ -1) : agree 314 282 [.ref 0, .int p0, .ref 104] [.ref 82, .int p0] := by
  have c2 : ev_call mt pg 3000 12 314 [.ref 0, .int p0, .ref 104] (hG 40 9999 0 40 9999 0 105 8641) = some (.inl (some (.int 1)), (hG 40 9999 0 40 9999 0 106 8647)) := by
    refine ev_mc rfl ?_ (ev_finx (by first | rfl | decide +kernel) rfl rfl)
    show ev_run (pg 314) (ev_call mt pg 3000 11) 3000 (0, [(0, .ref 0), (1, .int p0), (2, .ref 104)], []) (hG 40 9999 0 40 9999 0 105 8641) = _
    refine st_aload (p' := 1) rfl rfl rfl ?_
    refine st_push (p' := 2) rfl rfl ?_
    refine st_aload (p' := 3) rfl rfl rfl ?_
    refine st_iload (p' := 4) rfl rfl rfl ?_
    have c1 : ev_call mt pg 3000 11 183 [.ref 0, .int p0] (hG 40 9999 0 40 9999 0 105 8641) = some (.inr "java/lang/IllegalArgumentException", (hG 40 9999 0 40 9999 0 106 8647)) := by
      refine ev_mc rfl ?_ (ev_finX (by decide +kernel) rfl rfl)
      show ev_run (pg 183) (ev_call mt pg 3000 10) 3000 (0, [(0, .ref 0), (1, .int p0)], []) (hG 40 9999 0 40 9999 0 105 8641) = _
      refine st_iload (p' := 1) rfl rfl rfl ?_
      refine st_tswL rfl (by omega) ?_
      exact st_throw rfl rfl rfl
    refine st_invC (p' := 13) (q := 3) (l' := [(0, .ref 0), (1, .int p0), (2, .ref 104)]) (av := [.ref 0, .int p0]) rfl rfl c1 rfl rfl (q_recv (hG_x ..)) (by decide +kernel) rfl ?_
    refine st_push (p' := 14) rfl rfl ?_
    exact st_ret_i rfl
  have c5 : ev_call mt pg 3000 12 282 [.ref 82, .int p0] (hG 40 9999 0 40 9999 0 106 8647) = some (.inl (some (.int 0)), (hG 40 9999 1 40 9999 0 106 8647)) := by
    refine ev_mc rfl ?_ (ev_finx (by first | rfl | decide +kernel) rfl rfl)
    show ev_run (pg 282) (ev_call mt pg 3000 11) 3000 (0, [(0, .ref 82), (1, .int p0)], []) (hG 40 9999 0 40 9999 0 106 8647) = _
    refine st_aload (p' := 1) rfl rfl rfl ?_
    refine st_push (p' := 2) rfl rfl ?_
    refine st_putf (p' := 5) (h' := (hG 40 9999 0 40 9999 0 106 8647)) rfl rfl (hG_m ..) rfl (hG_sm ..) ?_
    refine st_iload (p' := 6) rfl rfl rfl ?_
    refine st_push (p' := 7) rfl rfl ?_
    refine st_push (p' := 9) rfl rfl ?_
    have c3 : ev_call mt pg 3000 11 230 [.int p0, .int 0, .int 12] (hG 40 9999 0 40 9999 0 106 8647) = some (.inl (some (.int 0)), (hG 40 9999 0 40 9999 0 106 8647)) := by
      refine ev_mc rfl ?_ (ev_finx (by first | rfl | decide +kernel) rfl rfl)
      show ev_run (pg 230) (ev_call mt pg 3000 10) 3000 (0, [(0, .int p0), (1, .int 0), (2, .int 12)], []) (hG 40 9999 0 40 9999 0 106 8647) = _
      refine st_iload (p' := 1) rfl rfl rfl ?_
      refine st_iload (p' := 2) rfl rfl rfl ?_
      refine st_icT (p' := 14) rfl (q_lt (by rw [show (0 : Int32).toInt = 0 from by decide]; omega)) rfl ?_
      refine st_push (p' := 15) rfl rfl ?_
      exact st_ret_i rfl
    refine st_inv (p' := 12) (av := [.int p0, .int 0, .int 12]) (s' := [.int 0]) rfl rfl c3 rfl rfl rfl rfl rfl ?_
    refine st_ifT (p' := 23) rfl (by decide +kernel) rfl ?_
    refine st_aload (p' := 24) rfl rfl rfl ?_
    refine st_push (p' := 25) rfl rfl ?_
    have c4 : ev_call mt pg 3000 11 229 [.ref 82, .int 1] (hG 40 9999 0 40 9999 0 106 8647) = some (.inl (some (.int 0)), (hG 40 9999 1 40 9999 0 106 8647)) := by
      refine ev_mc rfl ?_ (ev_finx (by first | rfl | decide +kernel) rfl rfl)
      show ev_run (pg 229) (ev_call mt pg 3000 10) 3000 (0, [(0, .ref 82), (1, .int 1)], []) (hG 40 9999 0 40 9999 0 106 8647) = _
      refine st_aload (p' := 1) rfl rfl rfl ?_
      refine st_iload (p' := 2) rfl rfl rfl ?_
      refine st_putf (p' := 5) (h' := (hG 40 9999 1 40 9999 0 106 8647)) rfl rfl (hG_m ..) rfl (hG_sm ..) ?_
      refine st_push (p' := 6) rfl rfl ?_
      exact st_ret_i rfl
    refine st_inv (p' := 28) (av := [.ref 82, .int 1]) (s' := [.int 0]) rfl rfl c4 rfl rfl (q_recv (hG_m ..)) rfl rfl ?_
    exact st_ret_i rfl
  have c6 : ev_call mt pg 3000 12 228 [.ref 82] (hG 40 9999 1 40 9999 0 106 8647) = some (.inl (some (.int 1)), (hG 40 9999 1 40 9999 0 106 8647)) := by
    refine ev_mc rfl ?_ (ev_finx (by first | rfl | decide +kernel) rfl rfl)
    show ev_run (pg 228) (ev_call mt pg 3000 11) 3000 (0, [(0, .ref 82)], []) (hG 40 9999 1 40 9999 0 106 8647) = _
    refine st_aload (p' := 1) rfl rfl rfl ?_
    refine st_getf (p' := 4) (v := .int 1) rfl rfl (hG_m ..) rfl ?_
    exact st_ret_i rfl
  exact ⟨1, 0, _, _, _, _, c2, hG_m .., c5, hG_m .., c6, (fun h => absurd h (by decide)), Nat.le_of_ble_eq_true rfl, Nat.le_of_ble_eq_true rfl⟩
theorem ag_many_2 (p0 : Int32) (l_p0 : 0 ≤ p0.toInt) (u_p0 : p0.toInt ≤ 12)  : agree 314 282 [.ref 0, .int p0, .ref 104] [.ref 82, .int p0] := by
  have h := ag_many_2_c
  obtain ⟨k_p0, q_p0, e_p0⟩ := q_conc (x := p0) (lo := 0) (m := 13) (by omega) (by omega)
  have h := List.all_eq_true.mp h k_p0 (List.mem_range.mpr q_p0)
  subst e_p0
  exact chk_agree h
theorem ag_many_3 (p0 : Int32) (l_p0 : 13 ≤ p0.toInt) : agree 314 282 [.ref 0, .int p0, .ref 104] [.ref 82, .int p0] := by
  have c2 : ev_call mt pg 3000 12 314 [.ref 0, .int p0, .ref 104] (hG 40 9999 0 40 9999 0 105 8641) = some (.inl (some (.int 1)), (hG 40 9999 0 40 9999 0 106 8647)) := by
    refine ev_mc rfl ?_ (ev_finx (by first | rfl | decide +kernel) rfl rfl)
    show ev_run (pg 314) (ev_call mt pg 3000 11) 3000 (0, [(0, .ref 0), (1, .int p0), (2, .ref 104)], []) (hG 40 9999 0 40 9999 0 105 8641) = _
    refine st_aload (p' := 1) rfl rfl rfl ?_
    refine st_push (p' := 2) rfl rfl ?_
    refine st_aload (p' := 3) rfl rfl rfl ?_
    refine st_iload (p' := 4) rfl rfl rfl ?_
    have c1 : ev_call mt pg 3000 11 183 [.ref 0, .int p0] (hG 40 9999 0 40 9999 0 105 8641) = some (.inr "java/lang/IllegalArgumentException", (hG 40 9999 0 40 9999 0 106 8647)) := by
      refine ev_mc rfl ?_ (ev_finX (by decide +kernel) rfl rfl)
      show ev_run (pg 183) (ev_call mt pg 3000 10) 3000 (0, [(0, .ref 0), (1, .int p0)], []) (hG 40 9999 0 40 9999 0 105 8641) = _
      refine st_iload (p' := 1) rfl rfl rfl ?_
      refine st_tswH rfl (by show 13 ≤ p0.toInt; omega) ?_
      exact st_throw rfl rfl rfl
    refine st_invC (p' := 13) (q := 3) (l' := [(0, .ref 0), (1, .int p0), (2, .ref 104)]) (av := [.ref 0, .int p0]) rfl rfl c1 rfl rfl (q_recv (hG_x ..)) (by decide +kernel) rfl ?_
    refine st_push (p' := 14) rfl rfl ?_
    exact st_ret_i rfl
  have c5 : ev_call mt pg 3000 12 282 [.ref 82, .int p0] (hG 40 9999 0 40 9999 0 106 8647) = some (.inl (some (.int 0)), (hG 40 9999 1 40 9999 0 106 8647)) := by
    refine ev_mc rfl ?_ (ev_finx (by first | rfl | decide +kernel) rfl rfl)
    show ev_run (pg 282) (ev_call mt pg 3000 11) 3000 (0, [(0, .ref 82), (1, .int p0)], []) (hG 40 9999 0 40 9999 0 106 8647) = _
    refine st_aload (p' := 1) rfl rfl rfl ?_
    refine st_push (p' := 2) rfl rfl ?_
    refine st_putf (p' := 5) (h' := (hG 40 9999 0 40 9999 0 106 8647)) rfl rfl (hG_m ..) rfl (hG_sm ..) ?_
    refine st_iload (p' := 6) rfl rfl rfl ?_
    refine st_push (p' := 7) rfl rfl ?_
    refine st_push (p' := 9) rfl rfl ?_
    have c3 : ev_call mt pg 3000 11 230 [.int p0, .int 0, .int 12] (hG 40 9999 0 40 9999 0 106 8647) = some (.inl (some (.int 0)), (hG 40 9999 0 40 9999 0 106 8647)) := by
      refine ev_mc rfl ?_ (ev_finx (by first | rfl | decide +kernel) rfl rfl)
      show ev_run (pg 230) (ev_call mt pg 3000 10) 3000 (0, [(0, .int p0), (1, .int 0), (2, .int 12)], []) (hG 40 9999 0 40 9999 0 106 8647) = _
      refine st_iload (p' := 1) rfl rfl rfl ?_
      refine st_iload (p' := 2) rfl rfl rfl ?_
      refine st_icF (p' := 5) rfl (q_lt' (by rw [show (0 : Int32).toInt = 0 from by decide]; omega)) rfl ?_
      refine st_iload (p' := 6) rfl rfl rfl ?_
      refine st_iload (p' := 7) rfl rfl rfl ?_
      refine st_icT (p' := 14) rfl (q_lt (by rw [show (12 : Int32).toInt = 12 from by decide]; omega)) rfl ?_
      refine st_push (p' := 15) rfl rfl ?_
      exact st_ret_i rfl
    refine st_inv (p' := 12) (av := [.int p0, .int 0, .int 12]) (s' := [.int 0]) rfl rfl c3 rfl rfl rfl rfl rfl ?_
    refine st_ifT (p' := 23) rfl (by decide +kernel) rfl ?_
    refine st_aload (p' := 24) rfl rfl rfl ?_
    refine st_push (p' := 25) rfl rfl ?_
    have c4 : ev_call mt pg 3000 11 229 [.ref 82, .int 1] (hG 40 9999 0 40 9999 0 106 8647) = some (.inl (some (.int 0)), (hG 40 9999 1 40 9999 0 106 8647)) := by
      refine ev_mc rfl ?_ (ev_finx (by first | rfl | decide +kernel) rfl rfl)
      show ev_run (pg 229) (ev_call mt pg 3000 10) 3000 (0, [(0, .ref 82), (1, .int 1)], []) (hG 40 9999 0 40 9999 0 106 8647) = _
      refine st_aload (p' := 1) rfl rfl rfl ?_
      refine st_iload (p' := 2) rfl rfl rfl ?_
      refine st_putf (p' := 5) (h' := (hG 40 9999 1 40 9999 0 106 8647)) rfl rfl (hG_m ..) rfl (hG_sm ..) ?_
      refine st_push (p' := 6) rfl rfl ?_
      exact st_ret_i rfl
    refine st_inv (p' := 28) (av := [.ref 82, .int 1]) (s' := [.int 0]) rfl rfl c4 rfl rfl (q_recv (hG_m ..)) rfl rfl ?_
    exact st_ret_i rfl
  have c6 : ev_call mt pg 3000 12 228 [.ref 82] (hG 40 9999 1 40 9999 0 106 8647) = some (.inl (some (.int 1)), (hG 40 9999 1 40 9999 0 106 8647)) := by
    refine ev_mc rfl ?_ (ev_finx (by first | rfl | decide +kernel) rfl rfl)
    show ev_run (pg 228) (ev_call mt pg 3000 11) 3000 (0, [(0, .ref 82)], []) (hG 40 9999 1 40 9999 0 106 8647) = _
    refine st_aload (p' := 1) rfl rfl rfl ?_
    refine st_getf (p' := 4) (v := .int 1) rfl rfl (hG_m ..) rfl ?_
    exact st_ret_i rfl
  exact ⟨1, 0, _, _, _, _, c2, hG_m .., c5, hG_m .., c6, (fun h => absurd h (by decide)), Nat.le_of_ble_eq_true rfl, Nat.le_of_ble_eq_true rfl⟩
theorem ag_many (p0 : Int32)  : agree 314 282 [.ref 0, .int p0, .ref 104] [.ref 82, .int p0] := by
  rcases Int.lt_or_le p0.toInt 0 with h | h
  · exact ag_many_1 p0 (by omega)
  · rcases Int.lt_or_le p0.toInt 13 with h | h
    · exact ag_many_2 p0 (by omega) (by omega)
    · exact ag_many_3 p0 (by omega)
theorem ag_sizeWith_1 (p0 : Int32) (u_p0 : p0.toInt ≤ 0) : agree 315 284 [.ref 0, .int p0, .ref 104] [.ref 82, .int p0] := by
  have c3 : ev_call mt pg 3000 12 315 [.ref 0, .int p0, .ref 104] (hG 40 9999 0 40 9999 0 105 8641) = some (.inl (some (.int 1)), (hG 40 9999 0 40 9999 0 106 8647)) := by
    refine ev_mc rfl ?_ (ev_finx (by first | rfl | decide +kernel) rfl rfl)
    show ev_run (pg 315) (ev_call mt pg 3000 11) 3000 (0, [(0, .ref 0), (1, .int p0), (2, .ref 104)], []) (hG 40 9999 0 40 9999 0 105 8641) = _
    refine st_aload (p' := 1) rfl rfl rfl ?_
    refine st_push (p' := 2) rfl rfl ?_
    refine st_aload (p' := 3) rfl rfl rfl ?_
    refine st_iload (p' := 4) rfl rfl rfl ?_
    have c2 : ev_call mt pg 3000 11 185 [.ref 0, .int p0] (hG 40 9999 0 40 9999 0 105 8641) = some (.inr "java/lang/IllegalArgumentException", (hG 40 9999 0 40 9999 0 106 8647)) := by
      refine ev_mc rfl ?_ (ev_finX (by decide +kernel) rfl rfl)
      show ev_run (pg 185) (ev_call mt pg 3000 10) 3000 (0, [(0, .ref 0), (1, .int p0)], []) (hG 40 9999 0 40 9999 0 105 8641) = _
      refine st_iload (p' := 1) rfl rfl rfl ?_
      have c1 : ev_call mt pg 3000 10 199 [.int p0] (hG 40 9999 0 40 9999 0 105 8641) = some (.inl (some (.int 0)), (hG 40 9999 0 40 9999 0 105 8641)) := by
        refine ev_mc rfl ?_ (ev_finx (by first | rfl | decide +kernel) rfl rfl)
        show ev_run (pg 199) (ev_call mt pg 3000 9) 3000 (0, [(0, .int p0)], []) (hG 40 9999 0 40 9999 0 105 8641) = _
        refine st_iload (p' := 1) rfl rfl rfl ?_
        refine st_push (p' := 2) rfl rfl ?_
        refine st_icT (p' := 16) rfl (q_lt (by rw [show (1 : Int32).toInt = 1 from by decide]; omega)) rfl ?_
        refine st_push (p' := 17) rfl rfl ?_
        exact st_ret_i rfl
      refine st_inv (p' := 4) (av := [.int p0]) (s' := [.int 0]) rfl rfl c1 rfl rfl rfl rfl rfl ?_
      refine st_ifF (p' := 7) rfl (by decide +kernel) rfl ?_
      exact st_throw rfl rfl rfl
    refine st_invC (p' := 13) (q := 3) (l' := [(0, .ref 0), (1, .int p0), (2, .ref 104)]) (av := [.ref 0, .int p0]) rfl rfl c2 rfl rfl (q_recv (hG_x ..)) (by decide +kernel) rfl ?_
    refine st_push (p' := 14) rfl rfl ?_
    exact st_ret_i rfl
  have c6 : ev_call mt pg 3000 12 284 [.ref 82, .int p0] (hG 40 9999 0 40 9999 0 106 8647) = some (.inl (some (.int 0)), (hG 40 9999 1 40 9999 0 106 8647)) := by
    refine ev_mc rfl ?_ (ev_finx (by first | rfl | decide +kernel) rfl rfl)
    show ev_run (pg 284) (ev_call mt pg 3000 11) 3000 (0, [(0, .ref 82), (1, .int p0)], []) (hG 40 9999 0 40 9999 0 106 8647) = _
    refine st_aload (p' := 1) rfl rfl rfl ?_
    refine st_push (p' := 2) rfl rfl ?_
    refine st_putf (p' := 5) (h' := (hG 40 9999 0 40 9999 0 106 8647)) rfl rfl (hG_m ..) rfl (hG_sm ..) ?_
    refine st_iload (p' := 6) rfl rfl rfl ?_
    refine st_push (p' := 7) rfl rfl ?_
    refine st_push (p' := 10) rfl rfl ?_
    have c4 : ev_call mt pg 3000 11 230 [.int p0, .int 1, .int 500] (hG 40 9999 0 40 9999 0 106 8647) = some (.inl (some (.int 0)), (hG 40 9999 0 40 9999 0 106 8647)) := by
      refine ev_mc rfl ?_ (ev_finx (by first | rfl | decide +kernel) rfl rfl)
      show ev_run (pg 230) (ev_call mt pg 3000 10) 3000 (0, [(0, .int p0), (1, .int 1), (2, .int 500)], []) (hG 40 9999 0 40 9999 0 106 8647) = _
      refine st_iload (p' := 1) rfl rfl rfl ?_
      refine st_iload (p' := 2) rfl rfl rfl ?_
      refine st_icT (p' := 14) rfl (q_lt (by rw [show (1 : Int32).toInt = 1 from by decide]; omega)) rfl ?_
      refine st_push (p' := 15) rfl rfl ?_
      exact st_ret_i rfl
    refine st_inv (p' := 13) (av := [.int p0, .int 1, .int 500]) (s' := [.int 0]) rfl rfl c4 rfl rfl rfl rfl rfl ?_
    refine st_ifF (p' := 16) rfl (by decide +kernel) rfl ?_
    refine st_aload (p' := 17) rfl rfl rfl ?_
    refine st_push (p' := 18) rfl rfl ?_
    have c5 : ev_call mt pg 3000 11 229 [.ref 82, .int 1] (hG 40 9999 0 40 9999 0 106 8647) = some (.inl (some (.int 0)), (hG 40 9999 1 40 9999 0 106 8647)) := by
      refine ev_mc rfl ?_ (ev_finx (by first | rfl | decide +kernel) rfl rfl)
      show ev_run (pg 229) (ev_call mt pg 3000 10) 3000 (0, [(0, .ref 82), (1, .int 1)], []) (hG 40 9999 0 40 9999 0 106 8647) = _
      refine st_aload (p' := 1) rfl rfl rfl ?_
      refine st_iload (p' := 2) rfl rfl rfl ?_
      refine st_putf (p' := 5) (h' := (hG 40 9999 1 40 9999 0 106 8647)) rfl rfl (hG_m ..) rfl (hG_sm ..) ?_
      refine st_push (p' := 6) rfl rfl ?_
      exact st_ret_i rfl
    refine st_inv (p' := 21) (av := [.ref 82, .int 1]) (s' := [.int 0]) rfl rfl c5 rfl rfl (q_recv (hG_m ..)) rfl rfl ?_
    exact st_ret_i rfl
  have c7 : ev_call mt pg 3000 12 228 [.ref 82] (hG 40 9999 1 40 9999 0 106 8647) = some (.inl (some (.int 1)), (hG 40 9999 1 40 9999 0 106 8647)) := by
    refine ev_mc rfl ?_ (ev_finx (by first | rfl | decide +kernel) rfl rfl)
    show ev_run (pg 228) (ev_call mt pg 3000 11) 3000 (0, [(0, .ref 82)], []) (hG 40 9999 1 40 9999 0 106 8647) = _
    refine st_aload (p' := 1) rfl rfl rfl ?_
    refine st_getf (p' := 4) (v := .int 1) rfl rfl (hG_m ..) rfl ?_
    exact st_ret_i rfl
  exact ⟨1, 0, _, _, _, _, c3, hG_m .., c6, hG_m .., c7, (fun h => absurd h (by decide)), Nat.le_of_ble_eq_true rfl, Nat.le_of_ble_eq_true rfl⟩
theorem ag_sizeWith_2 (p0 : Int32) (l_p0 : 1 ≤ p0.toInt) (u_p0 : p0.toInt ≤ 500) : agree 315 284 [.ref 0, .int p0, .ref 104] [.ref 82, .int p0] := by
  have c4 : ev_call mt pg 3000 12 315 [.ref 0, .int p0, .ref 104] (hG 40 9999 0 40 9999 0 105 8641) = some (.inl (some (.int 2)), (hG 40 9999 0 40 9999 0 106 8647)) := by
    refine ev_mc rfl ?_ (ev_finx (by first | rfl | decide +kernel) rfl rfl)
    show ev_run (pg 315) (ev_call mt pg 3000 11) 3000 (0, [(0, .ref 0), (1, .int p0), (2, .ref 104)], []) (hG 40 9999 0 40 9999 0 105 8641) = _
    refine st_aload (p' := 1) rfl rfl rfl ?_
    refine st_push (p' := 2) rfl rfl ?_
    refine st_aload (p' := 3) rfl rfl rfl ?_
    refine st_iload (p' := 4) rfl rfl rfl ?_
    have c3 : ev_call mt pg 3000 11 185 [.ref 0, .int p0] (hG 40 9999 0 40 9999 0 105 8641) = some (.inr "java/lang/IllegalStateException", (hG 40 9999 0 40 9999 0 106 8647)) := by
      refine ev_mc rfl ?_ (ev_finX (by decide +kernel) rfl rfl)
      show ev_run (pg 185) (ev_call mt pg 3000 10) 3000 (0, [(0, .ref 0), (1, .int p0)], []) (hG 40 9999 0 40 9999 0 105 8641) = _
      refine st_iload (p' := 1) rfl rfl rfl ?_
      have c1 : ev_call mt pg 3000 10 199 [.int p0] (hG 40 9999 0 40 9999 0 105 8641) = some (.inl (some (.int 1)), (hG 40 9999 0 40 9999 0 105 8641)) := by
        refine ev_mc rfl ?_ (ev_finx (by first | rfl | decide +kernel) rfl rfl)
        show ev_run (pg 199) (ev_call mt pg 3000 9) 3000 (0, [(0, .int p0)], []) (hG 40 9999 0 40 9999 0 105 8641) = _
        refine st_iload (p' := 1) rfl rfl rfl ?_
        refine st_push (p' := 2) rfl rfl ?_
        refine st_icF (p' := 5) rfl (q_lt' (by rw [show (1 : Int32).toInt = 1 from by decide]; omega)) rfl ?_
        refine st_iload (p' := 6) rfl rfl rfl ?_
        refine st_push (p' := 9) rfl rfl ?_
        refine st_icF (p' := 12) rfl (q_lt' (by rw [show (500 : Int32).toInt = 500 from by decide]; omega)) rfl ?_
        refine st_push (p' := 13) rfl rfl ?_
        refine st_goto rfl ?_
        exact st_ret_i rfl
      refine st_inv (p' := 4) (av := [.int p0]) (s' := [.int 1]) rfl rfl c1 rfl rfl rfl rfl rfl ?_
      refine st_ifT (p' := 18) rfl (by decide +kernel) rfl ?_
      refine st_aload (p' := 19) rfl rfl rfl ?_
      refine st_getf (p' := 22) (v := .ref 38) rfl rfl (hG_x ..) rfl ?_
      have c2 : ev_call mt pg 3000 10 79 [.ref 38] (hG 40 9999 0 40 9999 0 105 8641) = some (.inl (some (.int 0)), (hG 40 9999 0 40 9999 0 105 8641)) := by
        refine ev_mc rfl ?_ (ev_finx (by first | rfl | decide +kernel) rfl rfl)
        show ev_run (pg 79) (ev_call mt pg 3000 9) 3000 (0, [(0, .ref 38)], []) (hG 40 9999 0 40 9999 0 105 8641) = _
        refine st_aload (p' := 1) rfl rfl rfl ?_
        refine st_getf (p' := 4) (v := .int 0) rfl rfl (hG_c38 ..) rfl ?_
        exact st_ret_i rfl
      refine st_inv (p' := 25) (av := [.ref 38]) (s' := [.int 0]) rfl rfl c2 rfl rfl (q_recv (hG_c38 ..)) rfl rfl ?_
      refine st_ifF (p' := 28) rfl (by decide +kernel) rfl ?_
      exact st_throw rfl rfl rfl
    refine st_invC (p' := 16) (q := 3) (l' := [(0, .ref 0), (1, .int p0), (2, .ref 104)]) (av := [.ref 0, .int p0]) rfl rfl c3 rfl rfl (q_recv (hG_x ..)) (by decide +kernel) rfl ?_
    refine st_push (p' := 17) rfl rfl ?_
    exact st_ret_i rfl
  have c7 : ev_call mt pg 3000 12 284 [.ref 82, .int p0] (hG 40 9999 0 40 9999 0 106 8647) = some (.inl (some (.int 0)), (hG 40 9999 2 40 9999 0 106 8647)) := by
    refine ev_mc rfl ?_ (ev_finx (by first | rfl | decide +kernel) rfl rfl)
    show ev_run (pg 284) (ev_call mt pg 3000 11) 3000 (0, [(0, .ref 82), (1, .int p0)], []) (hG 40 9999 0 40 9999 0 106 8647) = _
    refine st_aload (p' := 1) rfl rfl rfl ?_
    refine st_push (p' := 2) rfl rfl ?_
    refine st_putf (p' := 5) (h' := (hG 40 9999 0 40 9999 0 106 8647)) rfl rfl (hG_m ..) rfl (hG_sm ..) ?_
    refine st_iload (p' := 6) rfl rfl rfl ?_
    refine st_push (p' := 7) rfl rfl ?_
    refine st_push (p' := 10) rfl rfl ?_
    have c5 : ev_call mt pg 3000 11 230 [.int p0, .int 1, .int 500] (hG 40 9999 0 40 9999 0 106 8647) = some (.inl (some (.int 1)), (hG 40 9999 0 40 9999 0 106 8647)) := by
      refine ev_mc rfl ?_ (ev_finx (by first | rfl | decide +kernel) rfl rfl)
      show ev_run (pg 230) (ev_call mt pg 3000 10) 3000 (0, [(0, .int p0), (1, .int 1), (2, .int 500)], []) (hG 40 9999 0 40 9999 0 106 8647) = _
      refine st_iload (p' := 1) rfl rfl rfl ?_
      refine st_iload (p' := 2) rfl rfl rfl ?_
      refine st_icF (p' := 5) rfl (q_lt' (by rw [show (1 : Int32).toInt = 1 from by decide]; omega)) rfl ?_
      refine st_iload (p' := 6) rfl rfl rfl ?_
      refine st_iload (p' := 7) rfl rfl rfl ?_
      refine st_icF (p' := 10) rfl (q_lt' (by rw [show (500 : Int32).toInt = 500 from by decide]; omega)) rfl ?_
      refine st_push (p' := 11) rfl rfl ?_
      refine st_goto rfl ?_
      exact st_ret_i rfl
    refine st_inv (p' := 13) (av := [.int p0, .int 1, .int 500]) (s' := [.int 1]) rfl rfl c5 rfl rfl rfl rfl rfl ?_
    refine st_ifT (p' := 22) rfl (by decide +kernel) rfl ?_
    refine st_aload (p' := 23) rfl rfl rfl ?_
    refine st_getf (p' := 26) (v := .int 0) rfl rfl (hG_m ..) rfl ?_
    refine st_ifT (p' := 63) rfl (by decide +kernel) rfl ?_
    refine st_aload (p' := 64) rfl rfl rfl ?_
    refine st_push (p' := 65) rfl rfl ?_
    have c6 : ev_call mt pg 3000 11 229 [.ref 82, .int 2] (hG 40 9999 0 40 9999 0 106 8647) = some (.inl (some (.int 0)), (hG 40 9999 2 40 9999 0 106 8647)) := by
      refine ev_mc rfl ?_ (ev_finx (by first | rfl | decide +kernel) rfl rfl)
      show ev_run (pg 229) (ev_call mt pg 3000 10) 3000 (0, [(0, .ref 82), (1, .int 2)], []) (hG 40 9999 0 40 9999 0 106 8647) = _
      refine st_aload (p' := 1) rfl rfl rfl ?_
      refine st_iload (p' := 2) rfl rfl rfl ?_
      refine st_putf (p' := 5) (h' := (hG 40 9999 2 40 9999 0 106 8647)) rfl rfl (hG_m ..) rfl (hG_sm ..) ?_
      refine st_push (p' := 6) rfl rfl ?_
      exact st_ret_i rfl
    refine st_inv (p' := 68) (av := [.ref 82, .int 2]) (s' := [.int 0]) rfl rfl c6 rfl rfl (q_recv (hG_m ..)) rfl rfl ?_
    exact st_ret_i rfl
  have c8 : ev_call mt pg 3000 12 228 [.ref 82] (hG 40 9999 2 40 9999 0 106 8647) = some (.inl (some (.int 2)), (hG 40 9999 2 40 9999 0 106 8647)) := by
    refine ev_mc rfl ?_ (ev_finx (by first | rfl | decide +kernel) rfl rfl)
    show ev_run (pg 228) (ev_call mt pg 3000 11) 3000 (0, [(0, .ref 82)], []) (hG 40 9999 2 40 9999 0 106 8647) = _
    refine st_aload (p' := 1) rfl rfl rfl ?_
    refine st_getf (p' := 4) (v := .int 2) rfl rfl (hG_m ..) rfl ?_
    exact st_ret_i rfl
  exact ⟨2, 0, _, _, _, _, c4, hG_m .., c7, hG_m .., c8, (fun h => absurd h (by decide)), Nat.le_of_ble_eq_true rfl, Nat.le_of_ble_eq_true rfl⟩
theorem ag_sizeWith_3 (p0 : Int32) (l_p0 : 501 ≤ p0.toInt) : agree 315 284 [.ref 0, .int p0, .ref 104] [.ref 82, .int p0] := by
  have c3 : ev_call mt pg 3000 12 315 [.ref 0, .int p0, .ref 104] (hG 40 9999 0 40 9999 0 105 8641) = some (.inl (some (.int 1)), (hG 40 9999 0 40 9999 0 106 8647)) := by
    refine ev_mc rfl ?_ (ev_finx (by first | rfl | decide +kernel) rfl rfl)
    show ev_run (pg 315) (ev_call mt pg 3000 11) 3000 (0, [(0, .ref 0), (1, .int p0), (2, .ref 104)], []) (hG 40 9999 0 40 9999 0 105 8641) = _
    refine st_aload (p' := 1) rfl rfl rfl ?_
    refine st_push (p' := 2) rfl rfl ?_
    refine st_aload (p' := 3) rfl rfl rfl ?_
    refine st_iload (p' := 4) rfl rfl rfl ?_
    have c2 : ev_call mt pg 3000 11 185 [.ref 0, .int p0] (hG 40 9999 0 40 9999 0 105 8641) = some (.inr "java/lang/IllegalArgumentException", (hG 40 9999 0 40 9999 0 106 8647)) := by
      refine ev_mc rfl ?_ (ev_finX (by decide +kernel) rfl rfl)
      show ev_run (pg 185) (ev_call mt pg 3000 10) 3000 (0, [(0, .ref 0), (1, .int p0)], []) (hG 40 9999 0 40 9999 0 105 8641) = _
      refine st_iload (p' := 1) rfl rfl rfl ?_
      have c1 : ev_call mt pg 3000 10 199 [.int p0] (hG 40 9999 0 40 9999 0 105 8641) = some (.inl (some (.int 0)), (hG 40 9999 0 40 9999 0 105 8641)) := by
        refine ev_mc rfl ?_ (ev_finx (by first | rfl | decide +kernel) rfl rfl)
        show ev_run (pg 199) (ev_call mt pg 3000 9) 3000 (0, [(0, .int p0)], []) (hG 40 9999 0 40 9999 0 105 8641) = _
        refine st_iload (p' := 1) rfl rfl rfl ?_
        refine st_push (p' := 2) rfl rfl ?_
        refine st_icF (p' := 5) rfl (q_lt' (by rw [show (1 : Int32).toInt = 1 from by decide]; omega)) rfl ?_
        refine st_iload (p' := 6) rfl rfl rfl ?_
        refine st_push (p' := 9) rfl rfl ?_
        refine st_icT (p' := 16) rfl (q_lt (by rw [show (500 : Int32).toInt = 500 from by decide]; omega)) rfl ?_
        refine st_push (p' := 17) rfl rfl ?_
        exact st_ret_i rfl
      refine st_inv (p' := 4) (av := [.int p0]) (s' := [.int 0]) rfl rfl c1 rfl rfl rfl rfl rfl ?_
      refine st_ifF (p' := 7) rfl (by decide +kernel) rfl ?_
      exact st_throw rfl rfl rfl
    refine st_invC (p' := 13) (q := 3) (l' := [(0, .ref 0), (1, .int p0), (2, .ref 104)]) (av := [.ref 0, .int p0]) rfl rfl c2 rfl rfl (q_recv (hG_x ..)) (by decide +kernel) rfl ?_
    refine st_push (p' := 14) rfl rfl ?_
    exact st_ret_i rfl
  have c6 : ev_call mt pg 3000 12 284 [.ref 82, .int p0] (hG 40 9999 0 40 9999 0 106 8647) = some (.inl (some (.int 0)), (hG 40 9999 1 40 9999 0 106 8647)) := by
    refine ev_mc rfl ?_ (ev_finx (by first | rfl | decide +kernel) rfl rfl)
    show ev_run (pg 284) (ev_call mt pg 3000 11) 3000 (0, [(0, .ref 82), (1, .int p0)], []) (hG 40 9999 0 40 9999 0 106 8647) = _
    refine st_aload (p' := 1) rfl rfl rfl ?_
    refine st_push (p' := 2) rfl rfl ?_
    refine st_putf (p' := 5) (h' := (hG 40 9999 0 40 9999 0 106 8647)) rfl rfl (hG_m ..) rfl (hG_sm ..) ?_
    refine st_iload (p' := 6) rfl rfl rfl ?_
    refine st_push (p' := 7) rfl rfl ?_
    refine st_push (p' := 10) rfl rfl ?_
    have c4 : ev_call mt pg 3000 11 230 [.int p0, .int 1, .int 500] (hG 40 9999 0 40 9999 0 106 8647) = some (.inl (some (.int 0)), (hG 40 9999 0 40 9999 0 106 8647)) := by
      refine ev_mc rfl ?_ (ev_finx (by first | rfl | decide +kernel) rfl rfl)
      show ev_run (pg 230) (ev_call mt pg 3000 10) 3000 (0, [(0, .int p0), (1, .int 1), (2, .int 500)], []) (hG 40 9999 0 40 9999 0 106 8647) = _
      refine st_iload (p' := 1) rfl rfl rfl ?_
      refine st_iload (p' := 2) rfl rfl rfl ?_
      refine st_icF (p' := 5) rfl (q_lt' (by rw [show (1 : Int32).toInt = 1 from by decide]; omega)) rfl ?_
      refine st_iload (p' := 6) rfl rfl rfl ?_
      refine st_iload (p' := 7) rfl rfl rfl ?_
      refine st_icT (p' := 14) rfl (q_lt (by rw [show (500 : Int32).toInt = 500 from by decide]; omega)) rfl ?_
      refine st_push (p' := 15) rfl rfl ?_
      exact st_ret_i rfl
    refine st_inv (p' := 13) (av := [.int p0, .int 1, .int 500]) (s' := [.int 0]) rfl rfl c4 rfl rfl rfl rfl rfl ?_
    refine st_ifF (p' := 16) rfl (by decide +kernel) rfl ?_
    refine st_aload (p' := 17) rfl rfl rfl ?_
    refine st_push (p' := 18) rfl rfl ?_
    have c5 : ev_call mt pg 3000 11 229 [.ref 82, .int 1] (hG 40 9999 0 40 9999 0 106 8647) = some (.inl (some (.int 0)), (hG 40 9999 1 40 9999 0 106 8647)) := by
      refine ev_mc rfl ?_ (ev_finx (by first | rfl | decide +kernel) rfl rfl)
      show ev_run (pg 229) (ev_call mt pg 3000 10) 3000 (0, [(0, .ref 82), (1, .int 1)], []) (hG 40 9999 0 40 9999 0 106 8647) = _
      refine st_aload (p' := 1) rfl rfl rfl ?_
      refine st_iload (p' := 2) rfl rfl rfl ?_
      refine st_putf (p' := 5) (h' := (hG 40 9999 1 40 9999 0 106 8647)) rfl rfl (hG_m ..) rfl (hG_sm ..) ?_
      refine st_push (p' := 6) rfl rfl ?_
      exact st_ret_i rfl
    refine st_inv (p' := 21) (av := [.ref 82, .int 1]) (s' := [.int 0]) rfl rfl c5 rfl rfl (q_recv (hG_m ..)) rfl rfl ?_
    exact st_ret_i rfl
  have c7 : ev_call mt pg 3000 12 228 [.ref 82] (hG 40 9999 1 40 9999 0 106 8647) = some (.inl (some (.int 1)), (hG 40 9999 1 40 9999 0 106 8647)) := by
    refine ev_mc rfl ?_ (ev_finx (by first | rfl | decide +kernel) rfl rfl)
    show ev_run (pg 228) (ev_call mt pg 3000 11) 3000 (0, [(0, .ref 82)], []) (hG 40 9999 1 40 9999 0 106 8647) = _
    refine st_aload (p' := 1) rfl rfl rfl ?_
    refine st_getf (p' := 4) (v := .int 1) rfl rfl (hG_m ..) rfl ?_
    exact st_ret_i rfl
  exact ⟨1, 0, _, _, _, _, c3, hG_m .., c6, hG_m .., c7, (fun h => absurd h (by decide)), Nat.le_of_ble_eq_true rfl, Nat.le_of_ble_eq_true rfl⟩
theorem ag_sizeWith (p0 : Int32)  : agree 315 284 [.ref 0, .int p0, .ref 104] [.ref 82, .int p0] := by
  rcases Int.lt_or_le p0.toInt 1 with h | h
  · exact ag_sizeWith_1 p0 (by omega)
  · rcases Int.lt_or_le p0.toInt 501 with h | h
    · exact ag_sizeWith_2 p0 (by omega) (by omega)
    · exact ag_sizeWith_3 p0 (by omega)
theorem ag_faultsWithout_1 (p0 : Int32) (u_p0 : p0.toInt ≤ -1) : agree 316 285 [.ref 0, .int p0, .ref 104] [.ref 82, .int p0] := by
  have c3 : ev_call mt pg 3000 12 316 [.ref 0, .int p0, .ref 104] (hG 40 9999 0 40 9999 0 105 8641) = some (.inl (some (.int 1)), (hG 40 9999 0 40 9999 0 106 8647)) := by
    refine ev_mc rfl ?_ (ev_finx (by first | rfl | decide +kernel) rfl rfl)
    show ev_run (pg 316) (ev_call mt pg 3000 11) 3000 (0, [(0, .ref 0), (1, .int p0), (2, .ref 104)], []) (hG 40 9999 0 40 9999 0 105 8641) = _
    refine st_aload (p' := 1) rfl rfl rfl ?_
    refine st_push (p' := 2) rfl rfl ?_
    refine st_aload (p' := 3) rfl rfl rfl ?_
    refine st_iload (p' := 4) rfl rfl rfl ?_
    have c2 : ev_call mt pg 3000 11 186 [.ref 0, .int p0] (hG 40 9999 0 40 9999 0 105 8641) = some (.inr "java/lang/IndexOutOfBoundsException", (hG 40 9999 0 40 9999 0 106 8647)) := by
      refine ev_mc rfl ?_ (ev_finX (by decide +kernel) rfl rfl)
      show ev_run (pg 186) (ev_call mt pg 3000 10) 3000 (0, [(0, .ref 0), (1, .int p0)], []) (hG 40 9999 0 40 9999 0 105 8641) = _
      refine st_aload (p' := 1) rfl rfl rfl ?_
      refine st_getf (p' := 4) (v := .ref 1) rfl rfl (hG_x ..) rfl ?_
      refine st_iload (p' := 5) rfl rfl rfl ?_
      have c1 : ev_call mt pg 3000 10 90 [.ref 1, .int p0] (hG 40 9999 0 40 9999 0 105 8641) = some (.inl (some (.int 0)), (hG 40 9999 0 40 9999 0 105 8641)) := by
        refine ev_mc rfl ?_ (ev_finx (by first | rfl | decide +kernel) rfl rfl)
        show ev_run (pg 90) (ev_call mt pg 3000 9) 3000 (0, [(0, .ref 1), (1, .int p0)], []) (hG 40 9999 0 40 9999 0 105 8641) = _
        refine st_iload (p' := 1) rfl rfl rfl ?_
        refine st_ifT (p' := 22) rfl (q_lt (by rw [show (0 : Int32).toInt = 0 from by decide]; omega)) rfl ?_
        refine st_push (p' := 23) rfl rfl ?_
        exact st_ret_i rfl
      refine st_inv (p' := 8) (av := [.ref 1, .int p0]) (s' := [.int 0]) rfl rfl c1 rfl rfl (q_recv (hG_c1 ..)) rfl rfl ?_
      refine st_ifF (p' := 11) rfl (by decide +kernel) rfl ?_
      exact st_throw rfl rfl rfl
    refine st_invC (p' := 13) (q := 3) (l' := [(0, .ref 0), (1, .int p0), (2, .ref 104)]) (av := [.ref 0, .int p0]) rfl rfl c2 rfl rfl (q_recv (hG_x ..)) (by decide +kernel) rfl ?_
    refine st_push (p' := 14) rfl rfl ?_
    exact st_ret_i rfl
  have c7 : ev_call mt pg 3000 12 285 [.ref 82, .int p0] (hG 40 9999 0 40 9999 0 106 8647) = some (.inl (some (.int 0)), (hG 40 9999 1 40 9999 0 106 8647)) := by
    refine ev_mc rfl ?_ (ev_finx (by first | rfl | decide +kernel) rfl rfl)
    show ev_run (pg 285) (ev_call mt pg 3000 11) 3000 (0, [(0, .ref 82), (1, .int p0)], []) (hG 40 9999 0 40 9999 0 106 8647) = _
    refine st_aload (p' := 1) rfl rfl rfl ?_
    refine st_push (p' := 2) rfl rfl ?_
    refine st_putf (p' := 5) (h' := (hG 40 9999 0 40 9999 0 106 8647)) rfl rfl (hG_m ..) rfl (hG_sm ..) ?_
    refine st_aload (p' := 6) rfl rfl rfl ?_
    refine st_iload (p' := 7) rfl rfl rfl ?_
    have c5 : ev_call mt pg 3000 11 233 [.ref 82, .int p0] (hG 40 9999 0 40 9999 0 106 8647) = some (.inl (some (.int 0)), (hG 40 9999 0 40 9999 0 106 8647)) := by
      refine ev_mc rfl ?_ (ev_finx (by first | rfl | decide +kernel) rfl rfl)
      show ev_run (pg 233) (ev_call mt pg 3000 10) 3000 (0, [(0, .ref 82), (1, .int p0)], []) (hG 40 9999 0 40 9999 0 106 8647) = _
      refine st_iload (p' := 1) rfl rfl rfl ?_
      refine st_push (p' := 2) rfl rfl ?_
      refine st_aload (p' := 3) rfl rfl rfl ?_
      refine st_getf (p' := 6) (v := .int 0) rfl rfl (hG_m ..) rfl ?_
      refine st_push (p' := 7) rfl rfl ?_
      refine st_ii (p' := 8) (z := (-1)) rfl rfl (by decide +kernel) ?_
      have c4 : ev_call mt pg 3000 10 230 [.int p0, .int 0, .int (-1)] (hG 40 9999 0 40 9999 0 106 8647) = some (.inl (some (.int 0)), (hG 40 9999 0 40 9999 0 106 8647)) := by
        refine ev_mc rfl ?_ (ev_finx (by first | rfl | decide +kernel) rfl rfl)
        show ev_run (pg 230) (ev_call mt pg 3000 9) 3000 (0, [(0, .int p0), (1, .int 0), (2, .int (-1))], []) (hG 40 9999 0 40 9999 0 106 8647) = _
        refine st_iload (p' := 1) rfl rfl rfl ?_
        refine st_iload (p' := 2) rfl rfl rfl ?_
        refine st_icT (p' := 14) rfl (q_lt (by rw [show (0 : Int32).toInt = 0 from by decide]; omega)) rfl ?_
        refine st_push (p' := 15) rfl rfl ?_
        exact st_ret_i rfl
      refine st_inv (p' := 11) (av := [.int p0, .int 0, .int (-1)]) (s' := [.int 0]) rfl rfl c4 rfl rfl rfl rfl rfl ?_
      exact st_ret_i rfl
    refine st_inv (p' := 10) (av := [.ref 82, .int p0]) (s' := [.int 0]) rfl rfl c5 rfl rfl (q_recv (hG_m ..)) rfl rfl ?_
    refine st_ifF (p' := 13) rfl (by decide +kernel) rfl ?_
    refine st_aload (p' := 14) rfl rfl rfl ?_
    refine st_push (p' := 15) rfl rfl ?_
    have c6 : ev_call mt pg 3000 11 229 [.ref 82, .int 1] (hG 40 9999 0 40 9999 0 106 8647) = some (.inl (some (.int 0)), (hG 40 9999 1 40 9999 0 106 8647)) := by
      refine ev_mc rfl ?_ (ev_finx (by first | rfl | decide +kernel) rfl rfl)
      show ev_run (pg 229) (ev_call mt pg 3000 10) 3000 (0, [(0, .ref 82), (1, .int 1)], []) (hG 40 9999 0 40 9999 0 106 8647) = _
      refine st_aload (p' := 1) rfl rfl rfl ?_
      refine st_iload (p' := 2) rfl rfl rfl ?_
      refine st_putf (p' := 5) (h' := (hG 40 9999 1 40 9999 0 106 8647)) rfl rfl (hG_m ..) rfl (hG_sm ..) ?_
      refine st_push (p' := 6) rfl rfl ?_
      exact st_ret_i rfl
    refine st_inv (p' := 18) (av := [.ref 82, .int 1]) (s' := [.int 0]) rfl rfl c6 rfl rfl (q_recv (hG_m ..)) rfl rfl ?_
    exact st_ret_i rfl
  have c8 : ev_call mt pg 3000 12 228 [.ref 82] (hG 40 9999 1 40 9999 0 106 8647) = some (.inl (some (.int 1)), (hG 40 9999 1 40 9999 0 106 8647)) := by
    refine ev_mc rfl ?_ (ev_finx (by first | rfl | decide +kernel) rfl rfl)
    show ev_run (pg 228) (ev_call mt pg 3000 11) 3000 (0, [(0, .ref 82)], []) (hG 40 9999 1 40 9999 0 106 8647) = _
    refine st_aload (p' := 1) rfl rfl rfl ?_
    refine st_getf (p' := 4) (v := .int 1) rfl rfl (hG_m ..) rfl ?_
    exact st_ret_i rfl
  exact ⟨1, 0, _, _, _, _, c3, hG_m .., c7, hG_m .., c8, (fun h => absurd h (by decide)), Nat.le_of_ble_eq_true rfl, Nat.le_of_ble_eq_true rfl⟩
theorem ag_faultsWithout_2 (p0 : Int32) (l_p0 : 0 ≤ p0.toInt) : agree 316 285 [.ref 0, .int p0, .ref 104] [.ref 82, .int p0] := by
  have c3 : ev_call mt pg 3000 12 316 [.ref 0, .int p0, .ref 104] (hG 40 9999 0 40 9999 0 105 8641) = some (.inl (some (.int 1)), (hG 40 9999 0 40 9999 0 106 8647)) := by
    refine ev_mc rfl ?_ (ev_finx (by first | rfl | decide +kernel) rfl rfl)
    show ev_run (pg 316) (ev_call mt pg 3000 11) 3000 (0, [(0, .ref 0), (1, .int p0), (2, .ref 104)], []) (hG 40 9999 0 40 9999 0 105 8641) = _
    refine st_aload (p' := 1) rfl rfl rfl ?_
    refine st_push (p' := 2) rfl rfl ?_
    refine st_aload (p' := 3) rfl rfl rfl ?_
    refine st_iload (p' := 4) rfl rfl rfl ?_
    have c2 : ev_call mt pg 3000 11 186 [.ref 0, .int p0] (hG 40 9999 0 40 9999 0 105 8641) = some (.inr "java/lang/IndexOutOfBoundsException", (hG 40 9999 0 40 9999 0 106 8647)) := by
      refine ev_mc rfl ?_ (ev_finX (by decide +kernel) rfl rfl)
      show ev_run (pg 186) (ev_call mt pg 3000 10) 3000 (0, [(0, .ref 0), (1, .int p0)], []) (hG 40 9999 0 40 9999 0 105 8641) = _
      refine st_aload (p' := 1) rfl rfl rfl ?_
      refine st_getf (p' := 4) (v := .ref 1) rfl rfl (hG_x ..) rfl ?_
      refine st_iload (p' := 5) rfl rfl rfl ?_
      have c1 : ev_call mt pg 3000 10 90 [.ref 1, .int p0] (hG 40 9999 0 40 9999 0 105 8641) = some (.inl (some (.int 0)), (hG 40 9999 0 40 9999 0 105 8641)) := by
        refine ev_mc rfl ?_ (ev_finx (by first | rfl | decide +kernel) rfl rfl)
        show ev_run (pg 90) (ev_call mt pg 3000 9) 3000 (0, [(0, .ref 1), (1, .int p0)], []) (hG 40 9999 0 40 9999 0 105 8641) = _
        refine st_iload (p' := 1) rfl rfl rfl ?_
        refine st_ifF (p' := 4) rfl (q_lt' (by rw [show (0 : Int32).toInt = 0 from by decide]; omega)) rfl ?_
        refine st_iload (p' := 5) rfl rfl rfl ?_
        refine st_aload (p' := 6) rfl rfl rfl ?_
        refine st_getf (p' := 9) (v := .int 0) rfl rfl (hG_c1 ..) rfl ?_
        refine st_icT (p' := 22) rfl (q_le (by rw [show (0 : Int32).toInt = 0 from by decide]; omega)) rfl ?_
        refine st_push (p' := 23) rfl rfl ?_
        exact st_ret_i rfl
      refine st_inv (p' := 8) (av := [.ref 1, .int p0]) (s' := [.int 0]) rfl rfl c1 rfl rfl (q_recv (hG_c1 ..)) rfl rfl ?_
      refine st_ifF (p' := 11) rfl (by decide +kernel) rfl ?_
      exact st_throw rfl rfl rfl
    refine st_invC (p' := 13) (q := 3) (l' := [(0, .ref 0), (1, .int p0), (2, .ref 104)]) (av := [.ref 0, .int p0]) rfl rfl c2 rfl rfl (q_recv (hG_x ..)) (by decide +kernel) rfl ?_
    refine st_push (p' := 14) rfl rfl ?_
    exact st_ret_i rfl
  have c7 : ev_call mt pg 3000 12 285 [.ref 82, .int p0] (hG 40 9999 0 40 9999 0 106 8647) = some (.inl (some (.int 0)), (hG 40 9999 1 40 9999 0 106 8647)) := by
    refine ev_mc rfl ?_ (ev_finx (by first | rfl | decide +kernel) rfl rfl)
    show ev_run (pg 285) (ev_call mt pg 3000 11) 3000 (0, [(0, .ref 82), (1, .int p0)], []) (hG 40 9999 0 40 9999 0 106 8647) = _
    refine st_aload (p' := 1) rfl rfl rfl ?_
    refine st_push (p' := 2) rfl rfl ?_
    refine st_putf (p' := 5) (h' := (hG 40 9999 0 40 9999 0 106 8647)) rfl rfl (hG_m ..) rfl (hG_sm ..) ?_
    refine st_aload (p' := 6) rfl rfl rfl ?_
    refine st_iload (p' := 7) rfl rfl rfl ?_
    have c5 : ev_call mt pg 3000 11 233 [.ref 82, .int p0] (hG 40 9999 0 40 9999 0 106 8647) = some (.inl (some (.int 0)), (hG 40 9999 0 40 9999 0 106 8647)) := by
      refine ev_mc rfl ?_ (ev_finx (by first | rfl | decide +kernel) rfl rfl)
      show ev_run (pg 233) (ev_call mt pg 3000 10) 3000 (0, [(0, .ref 82), (1, .int p0)], []) (hG 40 9999 0 40 9999 0 106 8647) = _
      refine st_iload (p' := 1) rfl rfl rfl ?_
      refine st_push (p' := 2) rfl rfl ?_
      refine st_aload (p' := 3) rfl rfl rfl ?_
      refine st_getf (p' := 6) (v := .int 0) rfl rfl (hG_m ..) rfl ?_
      refine st_push (p' := 7) rfl rfl ?_
      refine st_ii (p' := 8) (z := (-1)) rfl rfl (by decide +kernel) ?_
      have c4 : ev_call mt pg 3000 10 230 [.int p0, .int 0, .int (-1)] (hG 40 9999 0 40 9999 0 106 8647) = some (.inl (some (.int 0)), (hG 40 9999 0 40 9999 0 106 8647)) := by
        refine ev_mc rfl ?_ (ev_finx (by first | rfl | decide +kernel) rfl rfl)
        show ev_run (pg 230) (ev_call mt pg 3000 9) 3000 (0, [(0, .int p0), (1, .int 0), (2, .int (-1))], []) (hG 40 9999 0 40 9999 0 106 8647) = _
        refine st_iload (p' := 1) rfl rfl rfl ?_
        refine st_iload (p' := 2) rfl rfl rfl ?_
        refine st_icF (p' := 5) rfl (q_lt' (by rw [show (0 : Int32).toInt = 0 from by decide]; omega)) rfl ?_
        refine st_iload (p' := 6) rfl rfl rfl ?_
        refine st_iload (p' := 7) rfl rfl rfl ?_
        refine st_icT (p' := 14) rfl (q_lt (by rw [show ((-1) : Int32).toInt = (-1) from by decide]; omega)) rfl ?_
        refine st_push (p' := 15) rfl rfl ?_
        exact st_ret_i rfl
      refine st_inv (p' := 11) (av := [.int p0, .int 0, .int (-1)]) (s' := [.int 0]) rfl rfl c4 rfl rfl rfl rfl rfl ?_
      exact st_ret_i rfl
    refine st_inv (p' := 10) (av := [.ref 82, .int p0]) (s' := [.int 0]) rfl rfl c5 rfl rfl (q_recv (hG_m ..)) rfl rfl ?_
    refine st_ifF (p' := 13) rfl (by decide +kernel) rfl ?_
    refine st_aload (p' := 14) rfl rfl rfl ?_
    refine st_push (p' := 15) rfl rfl ?_
    have c6 : ev_call mt pg 3000 11 229 [.ref 82, .int 1] (hG 40 9999 0 40 9999 0 106 8647) = some (.inl (some (.int 0)), (hG 40 9999 1 40 9999 0 106 8647)) := by
      refine ev_mc rfl ?_ (ev_finx (by first | rfl | decide +kernel) rfl rfl)
      show ev_run (pg 229) (ev_call mt pg 3000 10) 3000 (0, [(0, .ref 82), (1, .int 1)], []) (hG 40 9999 0 40 9999 0 106 8647) = _
      refine st_aload (p' := 1) rfl rfl rfl ?_
      refine st_iload (p' := 2) rfl rfl rfl ?_
      refine st_putf (p' := 5) (h' := (hG 40 9999 1 40 9999 0 106 8647)) rfl rfl (hG_m ..) rfl (hG_sm ..) ?_
      refine st_push (p' := 6) rfl rfl ?_
      exact st_ret_i rfl
    refine st_inv (p' := 18) (av := [.ref 82, .int 1]) (s' := [.int 0]) rfl rfl c6 rfl rfl (q_recv (hG_m ..)) rfl rfl ?_
    exact st_ret_i rfl
  have c8 : ev_call mt pg 3000 12 228 [.ref 82] (hG 40 9999 1 40 9999 0 106 8647) = some (.inl (some (.int 1)), (hG 40 9999 1 40 9999 0 106 8647)) := by
    refine ev_mc rfl ?_ (ev_finx (by first | rfl | decide +kernel) rfl rfl)
    show ev_run (pg 228) (ev_call mt pg 3000 11) 3000 (0, [(0, .ref 82)], []) (hG 40 9999 1 40 9999 0 106 8647) = _
    refine st_aload (p' := 1) rfl rfl rfl ?_
    refine st_getf (p' := 4) (v := .int 1) rfl rfl (hG_m ..) rfl ?_
    exact st_ret_i rfl
  exact ⟨1, 0, _, _, _, _, c3, hG_m .., c7, hG_m .., c8, (fun h => absurd h (by decide)), Nat.le_of_ble_eq_true rfl, Nat.le_of_ble_eq_true rfl⟩
theorem ag_faultsWithout (p0 : Int32)  : agree 316 285 [.ref 0, .int p0, .ref 104] [.ref 82, .int p0] := by
  rcases Int.lt_or_le p0.toInt 0 with h | h
  · exact ag_faultsWithout_1 p0 (by omega)
  · exact ag_faultsWithout_2 p0 (by omega)
theorem ag_goes_1 (p0 : Int32) (u_p0 : p0.toInt ≤ -1) : agree 317 286 [.ref 0, .int p0, .ref 104] [.ref 82, .int p0] := by
  have c3 : ev_call mt pg 3000 12 317 [.ref 0, .int p0, .ref 104] (hG 40 9999 0 40 9999 0 105 8641) = some (.inl (some (.int 1)), (hG 40 9999 0 40 9999 0 106 8647)) := by
    refine ev_mc rfl ?_ (ev_finx (by first | rfl | decide +kernel) rfl rfl)
    show ev_run (pg 317) (ev_call mt pg 3000 11) 3000 (0, [(0, .ref 0), (1, .int p0), (2, .ref 104)], []) (hG 40 9999 0 40 9999 0 105 8641) = _
    refine st_aload (p' := 1) rfl rfl rfl ?_
    refine st_push (p' := 2) rfl rfl ?_
    refine st_aload (p' := 3) rfl rfl rfl ?_
    refine st_iload (p' := 4) rfl rfl rfl ?_
    have c2 : ev_call mt pg 3000 11 187 [.ref 0, .int p0] (hG 40 9999 0 40 9999 0 105 8641) = some (.inr "java/lang/IndexOutOfBoundsException", (hG 40 9999 0 40 9999 0 106 8647)) := by
      refine ev_mc rfl ?_ (ev_finX (by decide +kernel) rfl rfl)
      show ev_run (pg 187) (ev_call mt pg 3000 10) 3000 (0, [(0, .ref 0), (1, .int p0)], []) (hG 40 9999 0 40 9999 0 105 8641) = _
      refine st_aload (p' := 1) rfl rfl rfl ?_
      refine st_getf (p' := 4) (v := .ref 23) rfl rfl (hG_x ..) rfl ?_
      refine st_iload (p' := 5) rfl rfl rfl ?_
      have c1 : ev_call mt pg 3000 10 44 [.ref 23, .int p0] (hG 40 9999 0 40 9999 0 105 8641) = some (.inl (some (.int 0)), (hG 40 9999 0 40 9999 0 105 8641)) := by
        refine ev_mc rfl ?_ (ev_finx (by first | rfl | decide +kernel) rfl rfl)
        show ev_run (pg 44) (ev_call mt pg 3000 9) 3000 (0, [(0, .ref 23), (1, .int p0)], []) (hG 40 9999 0 40 9999 0 105 8641) = _
        refine st_iload (p' := 1) rfl rfl rfl ?_
        refine st_ifT (p' := 22) rfl (q_lt (by rw [show (0 : Int32).toInt = 0 from by decide]; omega)) rfl ?_
        refine st_push (p' := 23) rfl rfl ?_
        exact st_ret_i rfl
      refine st_inv (p' := 8) (av := [.ref 23, .int p0]) (s' := [.int 0]) rfl rfl c1 rfl rfl (q_recv (hG_c23 ..)) rfl rfl ?_
      refine st_ifF (p' := 11) rfl (by decide +kernel) rfl ?_
      exact st_throw rfl rfl rfl
    refine st_invC (p' := 13) (q := 3) (l' := [(0, .ref 0), (1, .int p0), (2, .ref 104)]) (av := [.ref 0, .int p0]) rfl rfl c2 rfl rfl (q_recv (hG_x ..)) (by decide +kernel) rfl ?_
    refine st_push (p' := 14) rfl rfl ?_
    exact st_ret_i rfl
  have c7 : ev_call mt pg 3000 12 286 [.ref 82, .int p0] (hG 40 9999 0 40 9999 0 106 8647) = some (.inl (some (.int 0)), (hG 40 9999 1 40 9999 0 106 8647)) := by
    refine ev_mc rfl ?_ (ev_finx (by first | rfl | decide +kernel) rfl rfl)
    show ev_run (pg 286) (ev_call mt pg 3000 11) 3000 (0, [(0, .ref 82), (1, .int p0)], []) (hG 40 9999 0 40 9999 0 106 8647) = _
    refine st_aload (p' := 1) rfl rfl rfl ?_
    refine st_push (p' := 2) rfl rfl ?_
    refine st_putf (p' := 5) (h' := (hG 40 9999 0 40 9999 0 106 8647)) rfl rfl (hG_m ..) rfl (hG_sm ..) ?_
    refine st_aload (p' := 6) rfl rfl rfl ?_
    refine st_iload (p' := 7) rfl rfl rfl ?_
    have c5 : ev_call mt pg 3000 11 260 [.ref 82, .int p0] (hG 40 9999 0 40 9999 0 106 8647) = some (.inl (some (.int 0)), (hG 40 9999 0 40 9999 0 106 8647)) := by
      refine ev_mc rfl ?_ (ev_finx (by first | rfl | decide +kernel) rfl rfl)
      show ev_run (pg 260) (ev_call mt pg 3000 10) 3000 (0, [(0, .ref 82), (1, .int p0)], []) (hG 40 9999 0 40 9999 0 106 8647) = _
      refine st_iload (p' := 1) rfl rfl rfl ?_
      refine st_push (p' := 2) rfl rfl ?_
      refine st_aload (p' := 3) rfl rfl rfl ?_
      refine st_getf (p' := 6) (v := .int 0) rfl rfl (hG_m ..) rfl ?_
      refine st_push (p' := 7) rfl rfl ?_
      refine st_ii (p' := 8) (z := (-1)) rfl rfl (by decide +kernel) ?_
      have c4 : ev_call mt pg 3000 10 230 [.int p0, .int 0, .int (-1)] (hG 40 9999 0 40 9999 0 106 8647) = some (.inl (some (.int 0)), (hG 40 9999 0 40 9999 0 106 8647)) := by
        refine ev_mc rfl ?_ (ev_finx (by first | rfl | decide +kernel) rfl rfl)
        show ev_run (pg 230) (ev_call mt pg 3000 9) 3000 (0, [(0, .int p0), (1, .int 0), (2, .int (-1))], []) (hG 40 9999 0 40 9999 0 106 8647) = _
        refine st_iload (p' := 1) rfl rfl rfl ?_
        refine st_iload (p' := 2) rfl rfl rfl ?_
        refine st_icT (p' := 14) rfl (q_lt (by rw [show (0 : Int32).toInt = 0 from by decide]; omega)) rfl ?_
        refine st_push (p' := 15) rfl rfl ?_
        exact st_ret_i rfl
      refine st_inv (p' := 11) (av := [.int p0, .int 0, .int (-1)]) (s' := [.int 0]) rfl rfl c4 rfl rfl rfl rfl rfl ?_
      exact st_ret_i rfl
    refine st_inv (p' := 10) (av := [.ref 82, .int p0]) (s' := [.int 0]) rfl rfl c5 rfl rfl (q_recv (hG_m ..)) rfl rfl ?_
    refine st_ifT (p' := 21) rfl (by decide +kernel) rfl ?_
    refine st_aload (p' := 22) rfl rfl rfl ?_
    refine st_push (p' := 23) rfl rfl ?_
    have c6 : ev_call mt pg 3000 11 229 [.ref 82, .int 1] (hG 40 9999 0 40 9999 0 106 8647) = some (.inl (some (.int 0)), (hG 40 9999 1 40 9999 0 106 8647)) := by
      refine ev_mc rfl ?_ (ev_finx (by first | rfl | decide +kernel) rfl rfl)
      show ev_run (pg 229) (ev_call mt pg 3000 10) 3000 (0, [(0, .ref 82), (1, .int 1)], []) (hG 40 9999 0 40 9999 0 106 8647) = _
      refine st_aload (p' := 1) rfl rfl rfl ?_
      refine st_iload (p' := 2) rfl rfl rfl ?_
      refine st_putf (p' := 5) (h' := (hG 40 9999 1 40 9999 0 106 8647)) rfl rfl (hG_m ..) rfl (hG_sm ..) ?_
      refine st_push (p' := 6) rfl rfl ?_
      exact st_ret_i rfl
    refine st_inv (p' := 26) (av := [.ref 82, .int 1]) (s' := [.int 0]) rfl rfl c6 rfl rfl (q_recv (hG_m ..)) rfl rfl ?_
    exact st_ret_i rfl
  have c8 : ev_call mt pg 3000 12 228 [.ref 82] (hG 40 9999 1 40 9999 0 106 8647) = some (.inl (some (.int 1)), (hG 40 9999 1 40 9999 0 106 8647)) := by
    refine ev_mc rfl ?_ (ev_finx (by first | rfl | decide +kernel) rfl rfl)
    show ev_run (pg 228) (ev_call mt pg 3000 11) 3000 (0, [(0, .ref 82)], []) (hG 40 9999 1 40 9999 0 106 8647) = _
    refine st_aload (p' := 1) rfl rfl rfl ?_
    refine st_getf (p' := 4) (v := .int 1) rfl rfl (hG_m ..) rfl ?_
    exact st_ret_i rfl
  exact ⟨1, 0, _, _, _, _, c3, hG_m .., c7, hG_m .., c8, (fun h => absurd h (by decide)), Nat.le_of_ble_eq_true rfl, Nat.le_of_ble_eq_true rfl⟩
theorem ag_goes_2 (p0 : Int32) (l_p0 : 0 ≤ p0.toInt) : agree 317 286 [.ref 0, .int p0, .ref 104] [.ref 82, .int p0] := by
  have c3 : ev_call mt pg 3000 12 317 [.ref 0, .int p0, .ref 104] (hG 40 9999 0 40 9999 0 105 8641) = some (.inl (some (.int 1)), (hG 40 9999 0 40 9999 0 106 8647)) := by
    refine ev_mc rfl ?_ (ev_finx (by first | rfl | decide +kernel) rfl rfl)
    show ev_run (pg 317) (ev_call mt pg 3000 11) 3000 (0, [(0, .ref 0), (1, .int p0), (2, .ref 104)], []) (hG 40 9999 0 40 9999 0 105 8641) = _
    refine st_aload (p' := 1) rfl rfl rfl ?_
    refine st_push (p' := 2) rfl rfl ?_
    refine st_aload (p' := 3) rfl rfl rfl ?_
    refine st_iload (p' := 4) rfl rfl rfl ?_
    have c2 : ev_call mt pg 3000 11 187 [.ref 0, .int p0] (hG 40 9999 0 40 9999 0 105 8641) = some (.inr "java/lang/IndexOutOfBoundsException", (hG 40 9999 0 40 9999 0 106 8647)) := by
      refine ev_mc rfl ?_ (ev_finX (by decide +kernel) rfl rfl)
      show ev_run (pg 187) (ev_call mt pg 3000 10) 3000 (0, [(0, .ref 0), (1, .int p0)], []) (hG 40 9999 0 40 9999 0 105 8641) = _
      refine st_aload (p' := 1) rfl rfl rfl ?_
      refine st_getf (p' := 4) (v := .ref 23) rfl rfl (hG_x ..) rfl ?_
      refine st_iload (p' := 5) rfl rfl rfl ?_
      have c1 : ev_call mt pg 3000 10 44 [.ref 23, .int p0] (hG 40 9999 0 40 9999 0 105 8641) = some (.inl (some (.int 0)), (hG 40 9999 0 40 9999 0 105 8641)) := by
        refine ev_mc rfl ?_ (ev_finx (by first | rfl | decide +kernel) rfl rfl)
        show ev_run (pg 44) (ev_call mt pg 3000 9) 3000 (0, [(0, .ref 23), (1, .int p0)], []) (hG 40 9999 0 40 9999 0 105 8641) = _
        refine st_iload (p' := 1) rfl rfl rfl ?_
        refine st_ifF (p' := 4) rfl (q_lt' (by rw [show (0 : Int32).toInt = 0 from by decide]; omega)) rfl ?_
        refine st_iload (p' := 5) rfl rfl rfl ?_
        refine st_aload (p' := 6) rfl rfl rfl ?_
        refine st_getf (p' := 9) (v := .int 0) rfl rfl (hG_c23 ..) rfl ?_
        refine st_icT (p' := 22) rfl (q_le (by rw [show (0 : Int32).toInt = 0 from by decide]; omega)) rfl ?_
        refine st_push (p' := 23) rfl rfl ?_
        exact st_ret_i rfl
      refine st_inv (p' := 8) (av := [.ref 23, .int p0]) (s' := [.int 0]) rfl rfl c1 rfl rfl (q_recv (hG_c23 ..)) rfl rfl ?_
      refine st_ifF (p' := 11) rfl (by decide +kernel) rfl ?_
      exact st_throw rfl rfl rfl
    refine st_invC (p' := 13) (q := 3) (l' := [(0, .ref 0), (1, .int p0), (2, .ref 104)]) (av := [.ref 0, .int p0]) rfl rfl c2 rfl rfl (q_recv (hG_x ..)) (by decide +kernel) rfl ?_
    refine st_push (p' := 14) rfl rfl ?_
    exact st_ret_i rfl
  have c7 : ev_call mt pg 3000 12 286 [.ref 82, .int p0] (hG 40 9999 0 40 9999 0 106 8647) = some (.inl (some (.int 0)), (hG 40 9999 1 40 9999 0 106 8647)) := by
    refine ev_mc rfl ?_ (ev_finx (by first | rfl | decide +kernel) rfl rfl)
    show ev_run (pg 286) (ev_call mt pg 3000 11) 3000 (0, [(0, .ref 82), (1, .int p0)], []) (hG 40 9999 0 40 9999 0 106 8647) = _
    refine st_aload (p' := 1) rfl rfl rfl ?_
    refine st_push (p' := 2) rfl rfl ?_
    refine st_putf (p' := 5) (h' := (hG 40 9999 0 40 9999 0 106 8647)) rfl rfl (hG_m ..) rfl (hG_sm ..) ?_
    refine st_aload (p' := 6) rfl rfl rfl ?_
    refine st_iload (p' := 7) rfl rfl rfl ?_
    have c5 : ev_call mt pg 3000 11 260 [.ref 82, .int p0] (hG 40 9999 0 40 9999 0 106 8647) = some (.inl (some (.int 0)), (hG 40 9999 0 40 9999 0 106 8647)) := by
      refine ev_mc rfl ?_ (ev_finx (by first | rfl | decide +kernel) rfl rfl)
      show ev_run (pg 260) (ev_call mt pg 3000 10) 3000 (0, [(0, .ref 82), (1, .int p0)], []) (hG 40 9999 0 40 9999 0 106 8647) = _
      refine st_iload (p' := 1) rfl rfl rfl ?_
      refine st_push (p' := 2) rfl rfl ?_
      refine st_aload (p' := 3) rfl rfl rfl ?_
      refine st_getf (p' := 6) (v := .int 0) rfl rfl (hG_m ..) rfl ?_
      refine st_push (p' := 7) rfl rfl ?_
      refine st_ii (p' := 8) (z := (-1)) rfl rfl (by decide +kernel) ?_
      have c4 : ev_call mt pg 3000 10 230 [.int p0, .int 0, .int (-1)] (hG 40 9999 0 40 9999 0 106 8647) = some (.inl (some (.int 0)), (hG 40 9999 0 40 9999 0 106 8647)) := by
        refine ev_mc rfl ?_ (ev_finx (by first | rfl | decide +kernel) rfl rfl)
        show ev_run (pg 230) (ev_call mt pg 3000 9) 3000 (0, [(0, .int p0), (1, .int 0), (2, .int (-1))], []) (hG 40 9999 0 40 9999 0 106 8647) = _
        refine st_iload (p' := 1) rfl rfl rfl ?_
        refine st_iload (p' := 2) rfl rfl rfl ?_
        refine st_icF (p' := 5) rfl (q_lt' (by rw [show (0 : Int32).toInt = 0 from by decide]; omega)) rfl ?_
        refine st_iload (p' := 6) rfl rfl rfl ?_
        refine st_iload (p' := 7) rfl rfl rfl ?_
        refine st_icT (p' := 14) rfl (q_lt (by rw [show ((-1) : Int32).toInt = (-1) from by decide]; omega)) rfl ?_
        refine st_push (p' := 15) rfl rfl ?_
        exact st_ret_i rfl
      refine st_inv (p' := 11) (av := [.int p0, .int 0, .int (-1)]) (s' := [.int 0]) rfl rfl c4 rfl rfl rfl rfl rfl ?_
      exact st_ret_i rfl
    refine st_inv (p' := 10) (av := [.ref 82, .int p0]) (s' := [.int 0]) rfl rfl c5 rfl rfl (q_recv (hG_m ..)) rfl rfl ?_
    refine st_ifT (p' := 21) rfl (by decide +kernel) rfl ?_
    refine st_aload (p' := 22) rfl rfl rfl ?_
    refine st_push (p' := 23) rfl rfl ?_
    have c6 : ev_call mt pg 3000 11 229 [.ref 82, .int 1] (hG 40 9999 0 40 9999 0 106 8647) = some (.inl (some (.int 0)), (hG 40 9999 1 40 9999 0 106 8647)) := by
      refine ev_mc rfl ?_ (ev_finx (by first | rfl | decide +kernel) rfl rfl)
      show ev_run (pg 229) (ev_call mt pg 3000 10) 3000 (0, [(0, .ref 82), (1, .int 1)], []) (hG 40 9999 0 40 9999 0 106 8647) = _
      refine st_aload (p' := 1) rfl rfl rfl ?_
      refine st_iload (p' := 2) rfl rfl rfl ?_
      refine st_putf (p' := 5) (h' := (hG 40 9999 1 40 9999 0 106 8647)) rfl rfl (hG_m ..) rfl (hG_sm ..) ?_
      refine st_push (p' := 6) rfl rfl ?_
      exact st_ret_i rfl
    refine st_inv (p' := 26) (av := [.ref 82, .int 1]) (s' := [.int 0]) rfl rfl c6 rfl rfl (q_recv (hG_m ..)) rfl rfl ?_
    exact st_ret_i rfl
  have c8 : ev_call mt pg 3000 12 228 [.ref 82] (hG 40 9999 1 40 9999 0 106 8647) = some (.inl (some (.int 1)), (hG 40 9999 1 40 9999 0 106 8647)) := by
    refine ev_mc rfl ?_ (ev_finx (by first | rfl | decide +kernel) rfl rfl)
    show ev_run (pg 228) (ev_call mt pg 3000 11) 3000 (0, [(0, .ref 82)], []) (hG 40 9999 1 40 9999 0 106 8647) = _
    refine st_aload (p' := 1) rfl rfl rfl ?_
    refine st_getf (p' := 4) (v := .int 1) rfl rfl (hG_m ..) rfl ?_
    exact st_ret_i rfl
  exact ⟨1, 0, _, _, _, _, c3, hG_m .., c7, hG_m .., c8, (fun h => absurd h (by decide)), Nat.le_of_ble_eq_true rfl, Nat.le_of_ble_eq_true rfl⟩
theorem ag_goes (p0 : Int32)  : agree 317 286 [.ref 0, .int p0, .ref 104] [.ref 82, .int p0] := by
  rcases Int.lt_or_le p0.toInt 0 with h | h
  · exact ag_goes_1 p0 (by omega)
  · exact ag_goes_2 p0 (by omega)
theorem ag_wouldBind_1 (p0 p1 : Int32) (u_p0 : p0.toInt ≤ -1) : agree 318 288 [.ref 0, .int p0, .int p1, .ref 104] [.ref 82, .int p0, .int p1] := by
  have c3 : ev_call mt pg 3000 12 318 [.ref 0, .int p0, .int p1, .ref 104] (hG 40 9999 0 40 9999 0 105 8641) = some (.inl (some (.int 1)), (hG 40 9999 0 40 9999 0 106 8647)) := by
    refine ev_mc rfl ?_ (ev_finx (by first | rfl | decide +kernel) rfl rfl)
    show ev_run (pg 318) (ev_call mt pg 3000 11) 3000 (0, [(0, .ref 0), (1, .int p0), (2, .int p1), (3, .ref 104)], []) (hG 40 9999 0 40 9999 0 105 8641) = _
    refine st_aload (p' := 1) rfl rfl rfl ?_
    refine st_push (p' := 2) rfl rfl ?_
    refine st_aload (p' := 3) rfl rfl rfl ?_
    refine st_iload (p' := 4) rfl rfl rfl ?_
    refine st_iload (p' := 5) rfl rfl rfl ?_
    have c2 : ev_call mt pg 3000 11 188 [.ref 0, .int p0, .int p1] (hG 40 9999 0 40 9999 0 105 8641) = some (.inr "java/lang/IndexOutOfBoundsException", (hG 40 9999 0 40 9999 0 106 8647)) := by
      refine ev_mc rfl ?_ (ev_finX (by decide +kernel) rfl rfl)
      show ev_run (pg 188) (ev_call mt pg 3000 10) 3000 (0, [(0, .ref 0), (1, .int p0), (2, .int p1)], []) (hG 40 9999 0 40 9999 0 105 8641) = _
      refine st_aload (p' := 1) rfl rfl rfl ?_
      refine st_getf (p' := 4) (v := .ref 23) rfl rfl (hG_x ..) rfl ?_
      refine st_iload (p' := 5) rfl rfl rfl ?_
      have c1 : ev_call mt pg 3000 10 44 [.ref 23, .int p0] (hG 40 9999 0 40 9999 0 105 8641) = some (.inl (some (.int 0)), (hG 40 9999 0 40 9999 0 105 8641)) := by
        refine ev_mc rfl ?_ (ev_finx (by first | rfl | decide +kernel) rfl rfl)
        show ev_run (pg 44) (ev_call mt pg 3000 9) 3000 (0, [(0, .ref 23), (1, .int p0)], []) (hG 40 9999 0 40 9999 0 105 8641) = _
        refine st_iload (p' := 1) rfl rfl rfl ?_
        refine st_ifT (p' := 22) rfl (q_lt (by rw [show (0 : Int32).toInt = 0 from by decide]; omega)) rfl ?_
        refine st_push (p' := 23) rfl rfl ?_
        exact st_ret_i rfl
      refine st_inv (p' := 8) (av := [.ref 23, .int p0]) (s' := [.int 0]) rfl rfl c1 rfl rfl (q_recv (hG_c23 ..)) rfl rfl ?_
      refine st_ifF (p' := 11) rfl (by decide +kernel) rfl ?_
      exact st_throw rfl rfl rfl
    refine st_invC (p' := 15) (q := 4) (l' := [(0, .ref 0), (1, .int p0), (2, .int p1), (3, .ref 104)]) (av := [.ref 0, .int p0, .int p1]) rfl rfl c2 rfl rfl (q_recv (hG_x ..)) (by decide +kernel) rfl ?_
    refine st_push (p' := 16) rfl rfl ?_
    exact st_ret_i rfl
  have c7 : ev_call mt pg 3000 12 288 [.ref 82, .int p0, .int p1] (hG 40 9999 0 40 9999 0 106 8647) = some (.inl (some (.int 0)), (hG 40 9999 1 40 9999 0 106 8647)) := by
    refine ev_mc rfl ?_ (ev_finx (by first | rfl | decide +kernel) rfl rfl)
    show ev_run (pg 288) (ev_call mt pg 3000 11) 3000 (0, [(0, .ref 82), (1, .int p0), (2, .int p1)], []) (hG 40 9999 0 40 9999 0 106 8647) = _
    refine st_aload (p' := 1) rfl rfl rfl ?_
    refine st_push (p' := 2) rfl rfl ?_
    refine st_putf (p' := 5) (h' := (hG 40 9999 0 40 9999 0 106 8647)) rfl rfl (hG_m ..) rfl (hG_sm ..) ?_
    refine st_aload (p' := 6) rfl rfl rfl ?_
    refine st_iload (p' := 7) rfl rfl rfl ?_
    have c5 : ev_call mt pg 3000 11 260 [.ref 82, .int p0] (hG 40 9999 0 40 9999 0 106 8647) = some (.inl (some (.int 0)), (hG 40 9999 0 40 9999 0 106 8647)) := by
      refine ev_mc rfl ?_ (ev_finx (by first | rfl | decide +kernel) rfl rfl)
      show ev_run (pg 260) (ev_call mt pg 3000 10) 3000 (0, [(0, .ref 82), (1, .int p0)], []) (hG 40 9999 0 40 9999 0 106 8647) = _
      refine st_iload (p' := 1) rfl rfl rfl ?_
      refine st_push (p' := 2) rfl rfl ?_
      refine st_aload (p' := 3) rfl rfl rfl ?_
      refine st_getf (p' := 6) (v := .int 0) rfl rfl (hG_m ..) rfl ?_
      refine st_push (p' := 7) rfl rfl ?_
      refine st_ii (p' := 8) (z := (-1)) rfl rfl (by decide +kernel) ?_
      have c4 : ev_call mt pg 3000 10 230 [.int p0, .int 0, .int (-1)] (hG 40 9999 0 40 9999 0 106 8647) = some (.inl (some (.int 0)), (hG 40 9999 0 40 9999 0 106 8647)) := by
        refine ev_mc rfl ?_ (ev_finx (by first | rfl | decide +kernel) rfl rfl)
        show ev_run (pg 230) (ev_call mt pg 3000 9) 3000 (0, [(0, .int p0), (1, .int 0), (2, .int (-1))], []) (hG 40 9999 0 40 9999 0 106 8647) = _
        refine st_iload (p' := 1) rfl rfl rfl ?_
        refine st_iload (p' := 2) rfl rfl rfl ?_
        refine st_icT (p' := 14) rfl (q_lt (by rw [show (0 : Int32).toInt = 0 from by decide]; omega)) rfl ?_
        refine st_push (p' := 15) rfl rfl ?_
        exact st_ret_i rfl
      refine st_inv (p' := 11) (av := [.int p0, .int 0, .int (-1)]) (s' := [.int 0]) rfl rfl c4 rfl rfl rfl rfl rfl ?_
      exact st_ret_i rfl
    refine st_inv (p' := 10) (av := [.ref 82, .int p0]) (s' := [.int 0]) rfl rfl c5 rfl rfl (q_recv (hG_m ..)) rfl rfl ?_
    refine st_ifF (p' := 13) rfl (by decide +kernel) rfl ?_
    refine st_aload (p' := 14) rfl rfl rfl ?_
    refine st_push (p' := 15) rfl rfl ?_
    have c6 : ev_call mt pg 3000 11 229 [.ref 82, .int 1] (hG 40 9999 0 40 9999 0 106 8647) = some (.inl (some (.int 0)), (hG 40 9999 1 40 9999 0 106 8647)) := by
      refine ev_mc rfl ?_ (ev_finx (by first | rfl | decide +kernel) rfl rfl)
      show ev_run (pg 229) (ev_call mt pg 3000 10) 3000 (0, [(0, .ref 82), (1, .int 1)], []) (hG 40 9999 0 40 9999 0 106 8647) = _
      refine st_aload (p' := 1) rfl rfl rfl ?_
      refine st_iload (p' := 2) rfl rfl rfl ?_
      refine st_putf (p' := 5) (h' := (hG 40 9999 1 40 9999 0 106 8647)) rfl rfl (hG_m ..) rfl (hG_sm ..) ?_
      refine st_push (p' := 6) rfl rfl ?_
      exact st_ret_i rfl
    refine st_inv (p' := 18) (av := [.ref 82, .int 1]) (s' := [.int 0]) rfl rfl c6 rfl rfl (q_recv (hG_m ..)) rfl rfl ?_
    exact st_ret_i rfl
  have c8 : ev_call mt pg 3000 12 228 [.ref 82] (hG 40 9999 1 40 9999 0 106 8647) = some (.inl (some (.int 1)), (hG 40 9999 1 40 9999 0 106 8647)) := by
    refine ev_mc rfl ?_ (ev_finx (by first | rfl | decide +kernel) rfl rfl)
    show ev_run (pg 228) (ev_call mt pg 3000 11) 3000 (0, [(0, .ref 82)], []) (hG 40 9999 1 40 9999 0 106 8647) = _
    refine st_aload (p' := 1) rfl rfl rfl ?_
    refine st_getf (p' := 4) (v := .int 1) rfl rfl (hG_m ..) rfl ?_
    exact st_ret_i rfl
  exact ⟨1, 0, _, _, _, _, c3, hG_m .., c7, hG_m .., c8, (fun h => absurd h (by decide)), Nat.le_of_ble_eq_true rfl, Nat.le_of_ble_eq_true rfl⟩
theorem ag_wouldBind_2 (p0 p1 : Int32) (l_p0 : 0 ≤ p0.toInt) : agree 318 288 [.ref 0, .int p0, .int p1, .ref 104] [.ref 82, .int p0, .int p1] := by
  have c3 : ev_call mt pg 3000 12 318 [.ref 0, .int p0, .int p1, .ref 104] (hG 40 9999 0 40 9999 0 105 8641) = some (.inl (some (.int 1)), (hG 40 9999 0 40 9999 0 106 8647)) := by
    refine ev_mc rfl ?_ (ev_finx (by first | rfl | decide +kernel) rfl rfl)
    show ev_run (pg 318) (ev_call mt pg 3000 11) 3000 (0, [(0, .ref 0), (1, .int p0), (2, .int p1), (3, .ref 104)], []) (hG 40 9999 0 40 9999 0 105 8641) = _
    refine st_aload (p' := 1) rfl rfl rfl ?_
    refine st_push (p' := 2) rfl rfl ?_
    refine st_aload (p' := 3) rfl rfl rfl ?_
    refine st_iload (p' := 4) rfl rfl rfl ?_
    refine st_iload (p' := 5) rfl rfl rfl ?_
    have c2 : ev_call mt pg 3000 11 188 [.ref 0, .int p0, .int p1] (hG 40 9999 0 40 9999 0 105 8641) = some (.inr "java/lang/IndexOutOfBoundsException", (hG 40 9999 0 40 9999 0 106 8647)) := by
      refine ev_mc rfl ?_ (ev_finX (by decide +kernel) rfl rfl)
      show ev_run (pg 188) (ev_call mt pg 3000 10) 3000 (0, [(0, .ref 0), (1, .int p0), (2, .int p1)], []) (hG 40 9999 0 40 9999 0 105 8641) = _
      refine st_aload (p' := 1) rfl rfl rfl ?_
      refine st_getf (p' := 4) (v := .ref 23) rfl rfl (hG_x ..) rfl ?_
      refine st_iload (p' := 5) rfl rfl rfl ?_
      have c1 : ev_call mt pg 3000 10 44 [.ref 23, .int p0] (hG 40 9999 0 40 9999 0 105 8641) = some (.inl (some (.int 0)), (hG 40 9999 0 40 9999 0 105 8641)) := by
        refine ev_mc rfl ?_ (ev_finx (by first | rfl | decide +kernel) rfl rfl)
        show ev_run (pg 44) (ev_call mt pg 3000 9) 3000 (0, [(0, .ref 23), (1, .int p0)], []) (hG 40 9999 0 40 9999 0 105 8641) = _
        refine st_iload (p' := 1) rfl rfl rfl ?_
        refine st_ifF (p' := 4) rfl (q_lt' (by rw [show (0 : Int32).toInt = 0 from by decide]; omega)) rfl ?_
        refine st_iload (p' := 5) rfl rfl rfl ?_
        refine st_aload (p' := 6) rfl rfl rfl ?_
        refine st_getf (p' := 9) (v := .int 0) rfl rfl (hG_c23 ..) rfl ?_
        refine st_icT (p' := 22) rfl (q_le (by rw [show (0 : Int32).toInt = 0 from by decide]; omega)) rfl ?_
        refine st_push (p' := 23) rfl rfl ?_
        exact st_ret_i rfl
      refine st_inv (p' := 8) (av := [.ref 23, .int p0]) (s' := [.int 0]) rfl rfl c1 rfl rfl (q_recv (hG_c23 ..)) rfl rfl ?_
      refine st_ifF (p' := 11) rfl (by decide +kernel) rfl ?_
      exact st_throw rfl rfl rfl
    refine st_invC (p' := 15) (q := 4) (l' := [(0, .ref 0), (1, .int p0), (2, .int p1), (3, .ref 104)]) (av := [.ref 0, .int p0, .int p1]) rfl rfl c2 rfl rfl (q_recv (hG_x ..)) (by decide +kernel) rfl ?_
    refine st_push (p' := 16) rfl rfl ?_
    exact st_ret_i rfl
  have c7 : ev_call mt pg 3000 12 288 [.ref 82, .int p0, .int p1] (hG 40 9999 0 40 9999 0 106 8647) = some (.inl (some (.int 0)), (hG 40 9999 1 40 9999 0 106 8647)) := by
    refine ev_mc rfl ?_ (ev_finx (by first | rfl | decide +kernel) rfl rfl)
    show ev_run (pg 288) (ev_call mt pg 3000 11) 3000 (0, [(0, .ref 82), (1, .int p0), (2, .int p1)], []) (hG 40 9999 0 40 9999 0 106 8647) = _
    refine st_aload (p' := 1) rfl rfl rfl ?_
    refine st_push (p' := 2) rfl rfl ?_
    refine st_putf (p' := 5) (h' := (hG 40 9999 0 40 9999 0 106 8647)) rfl rfl (hG_m ..) rfl (hG_sm ..) ?_
    refine st_aload (p' := 6) rfl rfl rfl ?_
    refine st_iload (p' := 7) rfl rfl rfl ?_
    have c5 : ev_call mt pg 3000 11 260 [.ref 82, .int p0] (hG 40 9999 0 40 9999 0 106 8647) = some (.inl (some (.int 0)), (hG 40 9999 0 40 9999 0 106 8647)) := by
      refine ev_mc rfl ?_ (ev_finx (by first | rfl | decide +kernel) rfl rfl)
      show ev_run (pg 260) (ev_call mt pg 3000 10) 3000 (0, [(0, .ref 82), (1, .int p0)], []) (hG 40 9999 0 40 9999 0 106 8647) = _
      refine st_iload (p' := 1) rfl rfl rfl ?_
      refine st_push (p' := 2) rfl rfl ?_
      refine st_aload (p' := 3) rfl rfl rfl ?_
      refine st_getf (p' := 6) (v := .int 0) rfl rfl (hG_m ..) rfl ?_
      refine st_push (p' := 7) rfl rfl ?_
      refine st_ii (p' := 8) (z := (-1)) rfl rfl (by decide +kernel) ?_
      have c4 : ev_call mt pg 3000 10 230 [.int p0, .int 0, .int (-1)] (hG 40 9999 0 40 9999 0 106 8647) = some (.inl (some (.int 0)), (hG 40 9999 0 40 9999 0 106 8647)) := by
        refine ev_mc rfl ?_ (ev_finx (by first | rfl | decide +kernel) rfl rfl)
        show ev_run (pg 230) (ev_call mt pg 3000 9) 3000 (0, [(0, .int p0), (1, .int 0), (2, .int (-1))], []) (hG 40 9999 0 40 9999 0 106 8647) = _
        refine st_iload (p' := 1) rfl rfl rfl ?_
        refine st_iload (p' := 2) rfl rfl rfl ?_
        refine st_icF (p' := 5) rfl (q_lt' (by rw [show (0 : Int32).toInt = 0 from by decide]; omega)) rfl ?_
        refine st_iload (p' := 6) rfl rfl rfl ?_
        refine st_iload (p' := 7) rfl rfl rfl ?_
        refine st_icT (p' := 14) rfl (q_lt (by rw [show ((-1) : Int32).toInt = (-1) from by decide]; omega)) rfl ?_
        refine st_push (p' := 15) rfl rfl ?_
        exact st_ret_i rfl
      refine st_inv (p' := 11) (av := [.int p0, .int 0, .int (-1)]) (s' := [.int 0]) rfl rfl c4 rfl rfl rfl rfl rfl ?_
      exact st_ret_i rfl
    refine st_inv (p' := 10) (av := [.ref 82, .int p0]) (s' := [.int 0]) rfl rfl c5 rfl rfl (q_recv (hG_m ..)) rfl rfl ?_
    refine st_ifF (p' := 13) rfl (by decide +kernel) rfl ?_
    refine st_aload (p' := 14) rfl rfl rfl ?_
    refine st_push (p' := 15) rfl rfl ?_
    have c6 : ev_call mt pg 3000 11 229 [.ref 82, .int 1] (hG 40 9999 0 40 9999 0 106 8647) = some (.inl (some (.int 0)), (hG 40 9999 1 40 9999 0 106 8647)) := by
      refine ev_mc rfl ?_ (ev_finx (by first | rfl | decide +kernel) rfl rfl)
      show ev_run (pg 229) (ev_call mt pg 3000 10) 3000 (0, [(0, .ref 82), (1, .int 1)], []) (hG 40 9999 0 40 9999 0 106 8647) = _
      refine st_aload (p' := 1) rfl rfl rfl ?_
      refine st_iload (p' := 2) rfl rfl rfl ?_
      refine st_putf (p' := 5) (h' := (hG 40 9999 1 40 9999 0 106 8647)) rfl rfl (hG_m ..) rfl (hG_sm ..) ?_
      refine st_push (p' := 6) rfl rfl ?_
      exact st_ret_i rfl
    refine st_inv (p' := 18) (av := [.ref 82, .int 1]) (s' := [.int 0]) rfl rfl c6 rfl rfl (q_recv (hG_m ..)) rfl rfl ?_
    exact st_ret_i rfl
  have c8 : ev_call mt pg 3000 12 228 [.ref 82] (hG 40 9999 1 40 9999 0 106 8647) = some (.inl (some (.int 1)), (hG 40 9999 1 40 9999 0 106 8647)) := by
    refine ev_mc rfl ?_ (ev_finx (by first | rfl | decide +kernel) rfl rfl)
    show ev_run (pg 228) (ev_call mt pg 3000 11) 3000 (0, [(0, .ref 82)], []) (hG 40 9999 1 40 9999 0 106 8647) = _
    refine st_aload (p' := 1) rfl rfl rfl ?_
    refine st_getf (p' := 4) (v := .int 1) rfl rfl (hG_m ..) rfl ?_
    exact st_ret_i rfl
  exact ⟨1, 0, _, _, _, _, c3, hG_m .., c7, hG_m .., c8, (fun h => absurd h (by decide)), Nat.le_of_ble_eq_true rfl, Nat.le_of_ble_eq_true rfl⟩
theorem ag_wouldBind (p0 p1 : Int32)  : agree 318 288 [.ref 0, .int p0, .int p1, .ref 104] [.ref 82, .int p0, .int p1] := by
  rcases Int.lt_or_le p0.toInt 0 with h | h
  · exact ag_wouldBind_1 p0 p1 (by omega)
  · exact ag_wouldBind_2 p0 p1 (by omega)
