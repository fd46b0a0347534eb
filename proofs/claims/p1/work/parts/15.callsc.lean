theorem ag_bounds_3 (p0 p1 : Int32) (l_p0 : 1 ≤ p0.toInt) (u_p0 : p0.toInt ≤ 500) (l_p1 : 0 ≤ p1.toInt) (u_p1 : p1.toInt ≤ 9999) : agree 302 252 [.ref 0, .int p0, .int p1, .ref 104] [.ref 82, .int p0, .int p1] := by
  have c3 : ev_call mt pg 3000 12 302 [.ref 0, .int p0, .int p1, .ref 104] (hG 40 9999 0 40 9999 0 105 8641) = some (.inl (some (.int 0)), (hG p0 p1 0 40 9999 40 105 8641)) := by
    refine ev_mc rfl ?_ (ev_finx (by first | rfl | decide +kernel) rfl rfl)
    show ev_run (pg 302) (ev_call mt pg 3000 11) 3000 (0, [(0, .ref 0), (1, .int p0), (2, .int p1), (3, .ref 104)], []) (hG 40 9999 0 40 9999 0 105 8641) = _
    refine st_aload (p' := 1) rfl rfl rfl ?_
    refine st_push (p' := 2) rfl rfl ?_
    refine st_aload (p' := 3) rfl rfl rfl ?_
    refine st_iload (p' := 4) rfl rfl rfl ?_
    refine st_iload (p' := 5) rfl rfl rfl ?_
    have c2 : ev_call mt pg 3000 11 171 [.ref 0, .int p0, .int p1] (hG 40 9999 0 40 9999 0 105 8641) = some (.inl (some (.int 40)), (hG p0 p1 0 40 9999 0 105 8641)) := by
      refine ev_mc rfl ?_ (ev_finx (by first | rfl | decide +kernel) rfl rfl)
      show ev_run (pg 171) (ev_call mt pg 3000 10) 3000 (0, [(0, .ref 0), (1, .int p0), (2, .int p1)], []) (hG 40 9999 0 40 9999 0 105 8641) = _
      refine st_iload (p' := 1) rfl rfl rfl ?_
      have c1 : ev_call mt pg 3000 10 199 [.int p0] (hG 40 9999 0 40 9999 0 105 8641) = some (.inl (some (.int 1)), (hG 40 9999 0 40 9999 0 105 8641)) := by
        refine ev_mc rfl ?_ (ev_finx (by first | rfl | decide +kernel) rfl rfl)
        show ev_run (pg 199) (ev_call mt pg 3000 9) 3000 (0, [(0, .int p0)], []) (hG 40 9999 0 40 9999 0 105 8641) = _
        refine st_iload (p' := 1) rfl rfl rfl ?_
        refine st_push (p' := 2) rfl rfl ?_
        refine st_icF (p' := 5) rfl (q_lt' (by rw [show (1 : Int32).toInt = 1 from by decide]; omega)) rfl ?_
        refine st_iload (p' := 6) rfl rfl rfl ?_
        refine st_push (p' := 9) rfl rfl ?_
        refine st_icF (p' := 12) rfl (q_lt' (by rw [show (500 : Int32).toInt = 500 from by decide]; omega)) rfl ?_
        refine st_push (p' := 13) rfl rfl ?_
        refine st_goto rfl ?_
        exact st_ret_i rfl
      refine st_inv (p' := 4) (av := [.int p0]) (s' := [.int 1]) rfl rfl c1 rfl rfl rfl rfl rfl ?_
      refine st_ifF (p' := 7) rfl (by decide +kernel) rfl ?_
      refine st_iload (p' := 8) rfl rfl rfl ?_
      refine st_ifF (p' := 11) rfl (q_lt' (by rw [show (0 : Int32).toInt = 0 from by decide]; omega)) rfl ?_
      refine st_iload (p' := 12) rfl rfl rfl ?_
      refine st_push (p' := 15) rfl rfl ?_
      refine st_icT (p' := 28) rfl (q_le (by rw [show (9999 : Int32).toInt = 9999 from by decide]; omega)) rfl ?_
      refine st_aload (p' := 29) rfl rfl rfl ?_
      refine st_getf (p' := 32) (v := .int 40) rfl rfl (hG_x ..) rfl ?_
      refine st_istore (p' := 33) (l' := [(3, .int 40), (0, .ref 0), (1, .int p0), (2, .int p1)]) rfl rfl (by decide) rfl ?_
      refine st_aload (p' := 34) rfl rfl rfl ?_
      refine st_iload (p' := 35) rfl rfl rfl ?_
      refine st_putf (p' := 38) (h' := (hG p0 9999 0 40 9999 0 105 8641)) rfl rfl (hG_x ..) rfl (hG_sx ..) ?_
      refine st_aload (p' := 39) rfl rfl rfl ?_
      refine st_iload (p' := 40) rfl rfl rfl ?_
      refine st_putf (p' := 43) (h' := (hG p0 p1 0 40 9999 0 105 8641)) rfl rfl (hG_x ..) rfl (hG_sx ..) ?_
      refine st_iload (p' := 44) rfl rfl rfl ?_
      exact st_ret_i rfl
    refine st_invH (p' := 8) (av := [.ref 0, .int p0, .int p1]) (s' := [.int 40, .int 0, .ref 104]) rfl rfl c2 rfl rfl (q_recv (hG_x ..)) rfl rfl ?_
    refine st_i (p' := 9) (v := .long 40) rfl rfl (by decide +kernel) ?_
    refine st_lst (p' := 10) (j := 0) (h' := (hG p0 p1 0 40 9999 40 105 8641)) rfl rfl (hG_o ..) (by decide) (by decide) rfl (hG_so ..) ?_
    refine st_goto rfl ?_
    refine st_push (p' := 18) rfl rfl ?_
    exact st_ret_i rfl
  have c6 : ev_call mt pg 3000 12 252 [.ref 82, .int p0, .int p1] (hG p0 p1 0 40 9999 40 105 8641) = some (.inl (some (.int 40)), (hG p0 p1 0 p0 p1 40 105 8641)) := by
    refine ev_mc rfl ?_ (ev_finx (by first | rfl | decide +kernel) rfl rfl)
    show ev_run (pg 252) (ev_call mt pg 3000 11) 3000 (0, [(0, .ref 82), (1, .int p0), (2, .int p1)], []) (hG p0 p1 0 40 9999 40 105 8641) = _
    refine st_aload (p' := 1) rfl rfl rfl ?_
    refine st_push (p' := 2) rfl rfl ?_
    refine st_putf (p' := 5) (h' := (hG p0 p1 0 40 9999 40 105 8641)) rfl rfl (hG_m ..) rfl (hG_sm ..) ?_
    refine st_iload (p' := 6) rfl rfl rfl ?_
    refine st_push (p' := 7) rfl rfl ?_
    refine st_push (p' := 10) rfl rfl ?_
    have c4 : ev_call mt pg 3000 11 230 [.int p0, .int 1, .int 500] (hG p0 p1 0 40 9999 40 105 8641) = some (.inl (some (.int 1)), (hG p0 p1 0 40 9999 40 105 8641)) := by
      refine ev_mc rfl ?_ (ev_finx (by first | rfl | decide +kernel) rfl rfl)
      show ev_run (pg 230) (ev_call mt pg 3000 10) 3000 (0, [(0, .int p0), (1, .int 1), (2, .int 500)], []) (hG p0 p1 0 40 9999 40 105 8641) = _
      refine st_iload (p' := 1) rfl rfl rfl ?_
      refine st_iload (p' := 2) rfl rfl rfl ?_
      refine st_icF (p' := 5) rfl (q_lt' (by rw [show (1 : Int32).toInt = 1 from by decide]; omega)) rfl ?_
      refine st_iload (p' := 6) rfl rfl rfl ?_
      refine st_iload (p' := 7) rfl rfl rfl ?_
      refine st_icF (p' := 10) rfl (q_lt' (by rw [show (500 : Int32).toInt = 500 from by decide]; omega)) rfl ?_
      refine st_push (p' := 11) rfl rfl ?_
      refine st_goto rfl ?_
      exact st_ret_i rfl
    refine st_inv (p' := 13) (av := [.int p0, .int 1, .int 500]) (s' := [.int 1]) rfl rfl c4 rfl rfl rfl rfl rfl ?_
    refine st_ifF (p' := 16) rfl (by decide +kernel) rfl ?_
    refine st_iload (p' := 17) rfl rfl rfl ?_
    refine st_push (p' := 18) rfl rfl ?_
    refine st_push (p' := 21) rfl rfl ?_
    have c5 : ev_call mt pg 3000 11 230 [.int p1, .int 0, .int 9999] (hG p0 p1 0 40 9999 40 105 8641) = some (.inl (some (.int 1)), (hG p0 p1 0 40 9999 40 105 8641)) := by
      refine ev_mc rfl ?_ (ev_finx (by first | rfl | decide +kernel) rfl rfl)
      show ev_run (pg 230) (ev_call mt pg 3000 10) 3000 (0, [(0, .int p1), (1, .int 0), (2, .int 9999)], []) (hG p0 p1 0 40 9999 40 105 8641) = _
      refine st_iload (p' := 1) rfl rfl rfl ?_
      refine st_iload (p' := 2) rfl rfl rfl ?_
      refine st_icF (p' := 5) rfl (q_lt' (by rw [show (0 : Int32).toInt = 0 from by decide]; omega)) rfl ?_
      refine st_iload (p' := 6) rfl rfl rfl ?_
      refine st_iload (p' := 7) rfl rfl rfl ?_
      refine st_icF (p' := 10) rfl (q_lt' (by rw [show (9999 : Int32).toInt = 9999 from by decide]; omega)) rfl ?_
      refine st_push (p' := 11) rfl rfl ?_
      refine st_goto rfl ?_
      exact st_ret_i rfl
    refine st_inv (p' := 24) (av := [.int p1, .int 0, .int 9999]) (s' := [.int 1]) rfl rfl c5 rfl rfl rfl rfl rfl ?_
    refine st_ifT (p' := 33) rfl (by decide +kernel) rfl ?_
    refine st_aload (p' := 34) rfl rfl rfl ?_
    refine st_getf (p' := 37) (v := .int 40) rfl rfl (hG_m ..) rfl ?_
    refine st_istore (p' := 38) (l' := [(3, .int 40), (0, .ref 82), (1, .int p0), (2, .int p1)]) rfl rfl (by decide) rfl ?_
    refine st_aload (p' := 39) rfl rfl rfl ?_
    refine st_iload (p' := 40) rfl rfl rfl ?_
    refine st_putf (p' := 43) (h' := (hG p0 p1 0 p0 9999 40 105 8641)) rfl rfl (hG_m ..) rfl (hG_sm ..) ?_
    refine st_aload (p' := 44) rfl rfl rfl ?_
    refine st_iload (p' := 45) rfl rfl rfl ?_
    refine st_putf (p' := 48) (h' := (hG p0 p1 0 p0 p1 40 105 8641)) rfl rfl (hG_m ..) rfl (hG_sm ..) ?_
    refine st_iload (p' := 49) rfl rfl rfl ?_
    exact st_ret_i rfl
  have c7 : ev_call mt pg 3000 12 228 [.ref 82] (hG p0 p1 0 p0 p1 40 105 8641) = some (.inl (some (.int 0)), (hG p0 p1 0 p0 p1 40 105 8641)) := by
    refine ev_mc rfl ?_ (ev_finx (by first | rfl | decide +kernel) rfl rfl)
    show ev_run (pg 228) (ev_call mt pg 3000 11) 3000 (0, [(0, .ref 82)], []) (hG p0 p1 0 p0 p1 40 105 8641) = _
    refine st_aload (p' := 1) rfl rfl rfl ?_
    refine st_getf (p' := 4) (v := .int 0) rfl rfl (hG_m ..) rfl ?_
    exact st_ret_i rfl
  exact ⟨0, 40, _, _, _, _, c3, hG_m .., c6, hG_m .., c7, (fun _ => (hG_o ..).trans (by decide +kernel)), Nat.le_of_ble_eq_true rfl, Nat.le_of_ble_eq_true rfl⟩
theorem ag_bounds_4 (p0 p1 : Int32) (l_p0 : 1 ≤ p0.toInt) (u_p0 : p0.toInt ≤ 500) (l_p1 : 10000 ≤ p1.toInt) : agree 302 252 [.ref 0, .int p0, .int p1, .ref 104] [.ref 82, .int p0, .int p1] := by
  have c3 : ev_call mt pg 3000 12 302 [.ref 0, .int p0, .int p1, .ref 104] (hG 40 9999 0 40 9999 0 105 8641) = some (.inl (some (.int 1)), (hG 40 9999 0 40 9999 0 106 8647)) := by
    refine ev_mc rfl ?_ (ev_finx (by first | rfl | decide +kernel) rfl rfl)
    show ev_run (pg 302) (ev_call mt pg 3000 11) 3000 (0, [(0, .ref 0), (1, .int p0), (2, .int p1), (3, .ref 104)], []) (hG 40 9999 0 40 9999 0 105 8641) = _
    refine st_aload (p' := 1) rfl rfl rfl ?_
    refine st_push (p' := 2) rfl rfl ?_
    refine st_aload (p' := 3) rfl rfl rfl ?_
    refine st_iload (p' := 4) rfl rfl rfl ?_
    refine st_iload (p' := 5) rfl rfl rfl ?_
    have c2 : ev_call mt pg 3000 11 171 [.ref 0, .int p0, .int p1] (hG 40 9999 0 40 9999 0 105 8641) = some (.inr "java/lang/IllegalArgumentException", (hG 40 9999 0 40 9999 0 106 8647)) := by
      refine ev_mc rfl ?_ (ev_finX (by decide +kernel) rfl rfl)
      show ev_run (pg 171) (ev_call mt pg 3000 10) 3000 (0, [(0, .ref 0), (1, .int p0), (2, .int p1)], []) (hG 40 9999 0 40 9999 0 105 8641) = _
      refine st_iload (p' := 1) rfl rfl rfl ?_
      have c1 : ev_call mt pg 3000 10 199 [.int p0] (hG 40 9999 0 40 9999 0 105 8641) = some (.inl (some (.int 1)), (hG 40 9999 0 40 9999 0 105 8641)) := by
        refine ev_mc rfl ?_ (ev_finx (by first | rfl | decide +kernel) rfl rfl)
        show ev_run (pg 199) (ev_call mt pg 3000 9) 3000 (0, [(0, .int p0)], []) (hG 40 9999 0 40 9999 0 105 8641) = _
        refine st_iload (p' := 1) rfl rfl rfl ?_
        refine st_push (p' := 2) rfl rfl ?_
        refine st_icF (p' := 5) rfl (q_lt' (by rw [show (1 : Int32).toInt = 1 from by decide]; omega)) rfl ?_
        refine st_iload (p' := 6) rfl rfl rfl ?_
        refine st_push (p' := 9) rfl rfl ?_
        refine st_icF (p' := 12) rfl (q_lt' (by rw [show (500 : Int32).toInt = 500 from by decide]; omega)) rfl ?_
        refine st_push (p' := 13) rfl rfl ?_
        refine st_goto rfl ?_
        exact st_ret_i rfl
      refine st_inv (p' := 4) (av := [.int p0]) (s' := [.int 1]) rfl rfl c1 rfl rfl rfl rfl rfl ?_
      refine st_ifF (p' := 7) rfl (by decide +kernel) rfl ?_
      refine st_iload (p' := 8) rfl rfl rfl ?_
      refine st_ifF (p' := 11) rfl (q_lt' (by rw [show (0 : Int32).toInt = 0 from by decide]; omega)) rfl ?_
      refine st_iload (p' := 12) rfl rfl rfl ?_
      refine st_push (p' := 15) rfl rfl ?_
      refine st_icF (p' := 18) rfl (q_le' (by rw [show (9999 : Int32).toInt = 9999 from by decide]; omega)) rfl ?_
      exact st_throw rfl rfl rfl
    refine st_invC (p' := 15) (q := 4) (l' := [(0, .ref 0), (1, .int p0), (2, .int p1), (3, .ref 104)]) (av := [.ref 0, .int p0, .int p1]) rfl rfl c2 rfl rfl (q_recv (hG_x ..)) (by decide +kernel) rfl ?_
    refine st_push (p' := 16) rfl rfl ?_
    exact st_ret_i rfl
  have c7 : ev_call mt pg 3000 12 252 [.ref 82, .int p0, .int p1] (hG 40 9999 0 40 9999 0 106 8647) = some (.inl (some (.int 0)), (hG 40 9999 1 40 9999 0 106 8647)) := by
    refine ev_mc rfl ?_ (ev_finx (by first | rfl | decide +kernel) rfl rfl)
    show ev_run (pg 252) (ev_call mt pg 3000 11) 3000 (0, [(0, .ref 82), (1, .int p0), (2, .int p1)], []) (hG 40 9999 0 40 9999 0 106 8647) = _
    refine st_aload (p' := 1) rfl rfl rfl ?_
    refine st_push (p' := 2) rfl rfl ?_
    refine st_putf (p' := 5) (h' := (hG 40 9999 0 40 9999 0 106 8647)) rfl rfl (hG_m ..) rfl (hG_sm ..) ?_
    refine st_iload (p' := 6) rfl rfl rfl ?_
    refine st_push (p' := 7) rfl rfl ?_
    refine st_push (p' := 10) rfl rfl ?_
    have c4 : ev_call mt pg 3000 11 230 [.int p0, .int 1, .int 500] (hG 40 9999 0 40 9999 0 106 8647) = some (.inl (some (.int 1)), (hG 40 9999 0 40 9999 0 106 8647)) := by
      refine ev_mc rfl ?_ (ev_finx (by first | rfl | decide +kernel) rfl rfl)
      show ev_run (pg 230) (ev_call mt pg 3000 10) 3000 (0, [(0, .int p0), (1, .int 1), (2, .int 500)], []) (hG 40 9999 0 40 9999 0 106 8647) = _
      refine st_iload (p' := 1) rfl rfl rfl ?_
      refine st_iload (p' := 2) rfl rfl rfl ?_
      refine st_icF (p' := 5) rfl (q_lt' (by rw [show (1 : Int32).toInt = 1 from by decide]; omega)) rfl ?_
      refine st_iload (p' := 6) rfl rfl rfl ?_
      refine st_iload (p' := 7) rfl rfl rfl ?_
      refine st_icF (p' := 10) rfl (q_lt' (by rw [show (500 : Int32).toInt = 500 from by decide]; omega)) rfl ?_
      refine st_push (p' := 11) rfl rfl ?_
      refine st_goto rfl ?_
      exact st_ret_i rfl
    refine st_inv (p' := 13) (av := [.int p0, .int 1, .int 500]) (s' := [.int 1]) rfl rfl c4 rfl rfl rfl rfl rfl ?_
    refine st_ifF (p' := 16) rfl (by decide +kernel) rfl ?_
    refine st_iload (p' := 17) rfl rfl rfl ?_
    refine st_push (p' := 18) rfl rfl ?_
    refine st_push (p' := 21) rfl rfl ?_
    have c5 : ev_call mt pg 3000 11 230 [.int p1, .int 0, .int 9999] (hG 40 9999 0 40 9999 0 106 8647) = some (.inl (some (.int 0)), (hG 40 9999 0 40 9999 0 106 8647)) := by
      refine ev_mc rfl ?_ (ev_finx (by first | rfl | decide +kernel) rfl rfl)
      show ev_run (pg 230) (ev_call mt pg 3000 10) 3000 (0, [(0, .int p1), (1, .int 0), (2, .int 9999)], []) (hG 40 9999 0 40 9999 0 106 8647) = _
      refine st_iload (p' := 1) rfl rfl rfl ?_
      refine st_iload (p' := 2) rfl rfl rfl ?_
      refine st_icF (p' := 5) rfl (q_lt' (by rw [show (0 : Int32).toInt = 0 from by decide]; omega)) rfl ?_
      refine st_iload (p' := 6) rfl rfl rfl ?_
      refine st_iload (p' := 7) rfl rfl rfl ?_
      refine st_icT (p' := 14) rfl (q_lt (by rw [show (9999 : Int32).toInt = 9999 from by decide]; omega)) rfl ?_
      refine st_push (p' := 15) rfl rfl ?_
      exact st_ret_i rfl
    refine st_inv (p' := 24) (av := [.int p1, .int 0, .int 9999]) (s' := [.int 0]) rfl rfl c5 rfl rfl rfl rfl rfl ?_
    refine st_ifF (p' := 27) rfl (by decide +kernel) rfl ?_
    refine st_aload (p' := 28) rfl rfl rfl ?_
    refine st_push (p' := 29) rfl rfl ?_
    have c6 : ev_call mt pg 3000 11 229 [.ref 82, .int 1] (hG 40 9999 0 40 9999 0 106 8647) = some (.inl (some (.int 0)), (hG 40 9999 1 40 9999 0 106 8647)) := by
      refine ev_mc rfl ?_ (ev_finx (by first | rfl | decide +kernel) rfl rfl)
      show ev_run (pg 229) (ev_call mt pg 3000 10) 3000 (0, [(0, .ref 82), (1, .int 1)], []) (hG 40 9999 0 40 9999 0 106 8647) = _
      refine st_aload (p' := 1) rfl rfl rfl ?_
      refine st_iload (p' := 2) rfl rfl rfl ?_
      refine st_putf (p' := 5) (h' := (hG 40 9999 1 40 9999 0 106 8647)) rfl rfl (hG_m ..) rfl (hG_sm ..) ?_
      refine st_push (p' := 6) rfl rfl ?_
      exact st_ret_i rfl
    refine st_inv (p' := 32) (av := [.ref 82, .int 1]) (s' := [.int 0]) rfl rfl c6 rfl rfl (q_recv (hG_m ..)) rfl rfl ?_
    exact st_ret_i rfl
  have c8 : ev_call mt pg 3000 12 228 [.ref 82] (hG 40 9999 1 40 9999 0 106 8647) = some (.inl (some (.int 1)), (hG 40 9999 1 40 9999 0 106 8647)) := by
    refine ev_mc rfl ?_ (ev_finx (by first | rfl | decide +kernel) rfl rfl)
    show ev_run (pg 228) (ev_call mt pg 3000 11) 3000 (0, [(0, .ref 82)], []) (hG 40 9999 1 40 9999 0 106 8647) = _
    refine st_aload (p' := 1) rfl rfl rfl ?_
    refine st_getf (p' := 4) (v := .int 1) rfl rfl (hG_m ..) rfl ?_
    exact st_ret_i rfl
  exact ⟨1, 0, _, _, _, _, c3, hG_m .., c7, hG_m .., c8, (fun h => absurd h (by decide)), Nat.le_of_ble_eq_true rfl, Nat.le_of_ble_eq_true rfl⟩
theorem ag_bounds_5 (p0 p1 : Int32) (l_p0 : 501 ≤ p0.toInt) : agree 302 252 [.ref 0, .int p0, .int p1, .ref 104] [.ref 82, .int p0, .int p1] := by
  have c3 : ev_call mt pg 3000 12 302 [.ref 0, .int p0, .int p1, .ref 104] (hG 40 9999 0 40 9999 0 105 8641) = some (.inl (some (.int 1)), (hG 40 9999 0 40 9999 0 106 8647)) := by
    refine ev_mc rfl ?_ (ev_finx (by first | rfl | decide +kernel) rfl rfl)
    show ev_run (pg 302) (ev_call mt pg 3000 11) 3000 (0, [(0, .ref 0), (1, .int p0), (2, .int p1), (3, .ref 104)], []) (hG 40 9999 0 40 9999 0 105 8641) = _
    refine st_aload (p' := 1) rfl rfl rfl ?_
    refine st_push (p' := 2) rfl rfl ?_
    refine st_aload (p' := 3) rfl rfl rfl ?_
    refine st_iload (p' := 4) rfl rfl rfl ?_
    refine st_iload (p' := 5) rfl rfl rfl ?_
    have c2 : ev_call mt pg 3000 11 171 [.ref 0, .int p0, .int p1] (hG 40 9999 0 40 9999 0 105 8641) = some (.inr "java/lang/IllegalArgumentException", (hG 40 9999 0 40 9999 0 106 8647)) := by
      refine ev_mc rfl ?_ (ev_finX (by decide +kernel) rfl rfl)
      show ev_run (pg 171) (ev_call mt pg 3000 10) 3000 (0, [(0, .ref 0), (1, .int p0), (2, .int p1)], []) (hG 40 9999 0 40 9999 0 105 8641) = _
      refine st_iload (p' := 1) rfl rfl rfl ?_
      have c1 : ev_call mt pg 3000 10 199 [.int p0] (hG 40 9999 0 40 9999 0 105 8641) = some (.inl (some (.int 0)), (hG 40 9999 0 40 9999 0 105 8641)) := by
        refine ev_mc rfl ?_ (ev_finx (by first | rfl | decide +kernel) rfl rfl)
        show ev_run (pg 199) (ev_call mt pg 3000 9) 3000 (0, [(0, .int p0)], []) (hG 40 9999 0 40 9999 0 105 8641) = _
        refine st_iload (p' := 1) rfl rfl rfl ?_
        refine st_push (p' := 2) rfl rfl ?_
        refine st_icF (p' := 5) rfl (q_lt' (by rw [show (1 : Int32).toInt = 1 from by decide]; omega)) rfl ?_
        refine st_iload (p' := 6) rfl rfl rfl ?_
        refine st_push (p' := 9) rfl rfl ?_
        refine st_icT (p' := 16) rfl (q_lt (by rw [show (500 : Int32).toInt = 500 from by decide]; omega)) rfl ?_
        refine st_push (p' := 17) rfl rfl ?_
        exact st_ret_i rfl
      refine st_inv (p' := 4) (av := [.int p0]) (s' := [.int 0]) rfl rfl c1 rfl rfl rfl rfl rfl ?_
      refine st_ifT (p' := 18) rfl (by decide +kernel) rfl ?_
      exact st_throw rfl rfl rfl
    refine st_invC (p' := 15) (q := 4) (l' := [(0, .ref 0), (1, .int p0), (2, .int p1), (3, .ref 104)]) (av := [.ref 0, .int p0, .int p1]) rfl rfl c2 rfl rfl (q_recv (hG_x ..)) (by decide +kernel) rfl ?_
    refine st_push (p' := 16) rfl rfl ?_
    exact st_ret_i rfl
  have c6 : ev_call mt pg 3000 12 252 [.ref 82, .int p0, .int p1] (hG 40 9999 0 40 9999 0 106 8647) = some (.inl (some (.int 0)), (hG 40 9999 1 40 9999 0 106 8647)) := by
    refine ev_mc rfl ?_ (ev_finx (by first | rfl | decide +kernel) rfl rfl)
    show ev_run (pg 252) (ev_call mt pg 3000 11) 3000 (0, [(0, .ref 82), (1, .int p0), (2, .int p1)], []) (hG 40 9999 0 40 9999 0 106 8647) = _
    refine st_aload (p' := 1) rfl rfl rfl ?_
    refine st_push (p' := 2) rfl rfl ?_
    refine st_putf (p' := 5) (h' := (hG 40 9999 0 40 9999 0 106 8647)) rfl rfl (hG_m ..) rfl (hG_sm ..) ?_
    refine st_iload (p' := 6) rfl rfl rfl ?_
    refine st_push (p' := 7) rfl rfl ?_
    refine st_push (p' := 10) rfl rfl ?_
    have c4 : ev_call mt pg 3000 11 230 [.int p0, .int 1, .int 500] (hG 40 9999 0 40 9999 0 106 8647) = some (.inl (some (.int 0)), (hG 40 9999 0 40 9999 0 106 8647)) := by
      refine ev_mc rfl ?_ (ev_finx (by first | rfl | decide +kernel) rfl rfl)
      show ev_run (pg 230) (ev_call mt pg 3000 10) 3000 (0, [(0, .int p0), (1, .int 1), (2, .int 500)], []) (hG 40 9999 0 40 9999 0 106 8647) = _
      refine st_iload (p' := 1) rfl rfl rfl ?_
      refine st_iload (p' := 2) rfl rfl rfl ?_
      refine st_icF (p' := 5) rfl (q_lt' (by rw [show (1 : Int32).toInt = 1 from by decide]; omega)) rfl ?_
      refine st_iload (p' := 6) rfl rfl rfl ?_
      refine st_iload (p' := 7) rfl rfl rfl ?_
      refine st_icT (p' := 14) rfl (q_lt (by rw [show (500 : Int32).toInt = 500 from by decide]; omega)) rfl ?_
      refine st_push (p' := 15) rfl rfl ?_
      exact st_ret_i rfl
    refine st_inv (p' := 13) (av := [.int p0, .int 1, .int 500]) (s' := [.int 0]) rfl rfl c4 rfl rfl rfl rfl rfl ?_
    refine st_ifT (p' := 27) rfl (by decide +kernel) rfl ?_
    refine st_aload (p' := 28) rfl rfl rfl ?_
    refine st_push (p' := 29) rfl rfl ?_
    have c5 : ev_call mt pg 3000 11 229 [.ref 82, .int 1] (hG 40 9999 0 40 9999 0 106 8647) = some (.inl (some (.int 0)), (hG 40 9999 1 40 9999 0 106 8647)) := by
      refine ev_mc rfl ?_ (ev_finx (by first | rfl | decide +kernel) rfl rfl)
      show ev_run (pg 229) (ev_call mt pg 3000 10) 3000 (0, [(0, .ref 82), (1, .int 1)], []) (hG 40 9999 0 40 9999 0 106 8647) = _
      refine st_aload (p' := 1) rfl rfl rfl ?_
      refine st_iload (p' := 2) rfl rfl rfl ?_
      refine st_putf (p' := 5) (h' := (hG 40 9999 1 40 9999 0 106 8647)) rfl rfl (hG_m ..) rfl (hG_sm ..) ?_
      refine st_push (p' := 6) rfl rfl ?_
      exact st_ret_i rfl
    refine st_inv (p' := 32) (av := [.ref 82, .int 1]) (s' := [.int 0]) rfl rfl c5 rfl rfl (q_recv (hG_m ..)) rfl rfl ?_
    exact st_ret_i rfl
  have c7 : ev_call mt pg 3000 12 228 [.ref 82] (hG 40 9999 1 40 9999 0 106 8647) = some (.inl (some (.int 1)), (hG 40 9999 1 40 9999 0 106 8647)) := by
    refine ev_mc rfl ?_ (ev_finx (by first | rfl | decide +kernel) rfl rfl)
    show ev_run (pg 228) (ev_call mt pg 3000 11) 3000 (0, [(0, .ref 82)], []) (hG 40 9999 1 40 9999 0 106 8647) = _
    refine st_aload (p' := 1) rfl rfl rfl ?_
    refine st_getf (p' := 4) (v := .int 1) rfl rfl (hG_m ..) rfl ?_
    exact st_ret_i rfl
  exact ⟨1, 0, _, _, _, _, c3, hG_m .., c6, hG_m .., c7, (fun h => absurd h (by decide)), Nat.le_of_ble_eq_true rfl, Nat.le_of_ble_eq_true rfl⟩
theorem ag_bounds (p0 p1 : Int32)  : agree 302 252 [.ref 0, .int p0, .int p1, .ref 104] [.ref 82, .int p0, .int p1] := by
  rcases Int.lt_or_le p0.toInt 1 with h | h
  · exact ag_bounds_1 p0 p1 (by omega)
  · rcases Int.lt_or_le p0.toInt 501 with h | h
    · rcases Int.lt_or_le p1.toInt 0 with h | h
      · exact ag_bounds_2 p0 p1 (by omega) (by omega) (by omega)
      · rcases Int.lt_or_le p1.toInt 10000 with h | h
        · exact ag_bounds_3 p0 p1 (by omega) (by omega) (by omega) (by omega)
        · exact ag_bounds_4 p0 p1 (by omega) (by omega) (by omega)
    · exact ag_bounds_5 p0 p1 (by omega)
theorem ag_link_1 (p0 p1 : Int32) (u_p0 : p0.toInt ≤ -1) : agree 303 253 [.ref 0, .int p0, .int p1, .ref 104] [.ref 82, .int p0, .int p1] := by
  have c3 : ev_call mt pg 3000 12 303 [.ref 0, .int p0, .int p1, .ref 104] (hG 40 9999 0 40 9999 0 105 8641) = some (.inl (some (.int 1)), (hG 40 9999 0 40 9999 0 106 8647)) := by
    refine ev_mc rfl ?_ (ev_finx (by first | rfl | decide +kernel) rfl rfl)
    show ev_run (pg 303) (ev_call mt pg 3000 11) 3000 (0, [(0, .ref 0), (1, .int p0), (2, .int p1), (3, .ref 104)], []) (hG 40 9999 0 40 9999 0 105 8641) = _
    refine st_aload (p' := 1) rfl rfl rfl ?_
    refine st_push (p' := 2) rfl rfl ?_
    refine st_aload (p' := 3) rfl rfl rfl ?_
    refine st_iload (p' := 4) rfl rfl rfl ?_
    refine st_iload (p' := 5) rfl rfl rfl ?_
    have c2 : ev_call mt pg 3000 11 172 [.ref 0, .int p0, .int p1] (hG 40 9999 0 40 9999 0 105 8641) = some (.inr "java/lang/IllegalArgumentException", (hG 40 9999 0 40 9999 0 106 8647)) := by
      refine ev_mc rfl ?_ (ev_finX (by decide +kernel) rfl rfl)
      show ev_run (pg 172) (ev_call mt pg 3000 10) 3000 (0, [(0, .ref 0), (1, .int p0), (2, .int p1)], []) (hG 40 9999 0 40 9999 0 105 8641) = _
      refine st_iload (p' := 1) rfl rfl rfl ?_
      have c1 : ev_call mt pg 3000 10 197 [.int p0] (hG 40 9999 0 40 9999 0 105 8641) = some (.inl (some (.int 0)), (hG 40 9999 0 40 9999 0 105 8641)) := by
        refine ev_mc rfl ?_ (ev_finx (by first | rfl | decide +kernel) rfl rfl)
        show ev_run (pg 197) (ev_call mt pg 3000 9) 3000 (0, [(0, .int p0)], []) (hG 40 9999 0 40 9999 0 105 8641) = _
        refine st_iload (p' := 1) rfl rfl rfl ?_
        refine st_ifT (p' := 14) rfl (q_lt (by rw [show (0 : Int32).toInt = 0 from by decide]; omega)) rfl ?_
        refine st_push (p' := 15) rfl rfl ?_
        exact st_ret_i rfl
      refine st_inv (p' := 4) (av := [.int p0]) (s' := [.int 0]) rfl rfl c1 rfl rfl rfl rfl rfl ?_
      refine st_ifF (p' := 7) rfl (by decide +kernel) rfl ?_
      exact st_throw rfl rfl rfl
    refine st_invC (p' := 15) (q := 4) (l' := [(0, .ref 0), (1, .int p0), (2, .int p1), (3, .ref 104)]) (av := [.ref 0, .int p0, .int p1]) rfl rfl c2 rfl rfl (q_recv (hG_x ..)) (by decide +kernel) rfl ?_
    refine st_push (p' := 16) rfl rfl ?_
    exact st_ret_i rfl
  have c7 : ev_call mt pg 3000 12 253 [.ref 82, .int p0, .int p1] (hG 40 9999 0 40 9999 0 106 8647) = some (.inl (some (.int 0)), (hG 40 9999 1 40 9999 0 106 8647)) := by
    refine ev_mc rfl ?_ (ev_finx (by first | rfl | decide +kernel) rfl rfl)
    show ev_run (pg 253) (ev_call mt pg 3000 11) 3000 (0, [(0, .ref 82), (1, .int p0), (2, .int p1)], []) (hG 40 9999 0 40 9999 0 106 8647) = _
    refine st_aload (p' := 1) rfl rfl rfl ?_
    refine st_push (p' := 2) rfl rfl ?_
    refine st_putf (p' := 5) (h' := (hG 40 9999 0 40 9999 0 106 8647)) rfl rfl (hG_m ..) rfl (hG_sm ..) ?_
    refine st_iload (p' := 6) rfl rfl rfl ?_
    have c5 : ev_call mt pg 3000 11 235 [.int p0] (hG 40 9999 0 40 9999 0 106 8647) = some (.inl (some (.int 0)), (hG 40 9999 0 40 9999 0 106 8647)) := by
      refine ev_mc rfl ?_ (ev_finx (by first | rfl | decide +kernel) rfl rfl)
      show ev_run (pg 235) (ev_call mt pg 3000 10) 3000 (0, [(0, .int p0)], []) (hG 40 9999 0 40 9999 0 106 8647) = _
      refine st_iload (p' := 1) rfl rfl rfl ?_
      refine st_push (p' := 2) rfl rfl ?_
      refine st_push (p' := 4) rfl rfl ?_
      have c4 : ev_call mt pg 3000 10 230 [.int p0, .int 0, .int 19] (hG 40 9999 0 40 9999 0 106 8647) = some (.inl (some (.int 0)), (hG 40 9999 0 40 9999 0 106 8647)) := by
        refine ev_mc rfl ?_ (ev_finx (by first | rfl | decide +kernel) rfl rfl)
        show ev_run (pg 230) (ev_call mt pg 3000 9) 3000 (0, [(0, .int p0), (1, .int 0), (2, .int 19)], []) (hG 40 9999 0 40 9999 0 106 8647) = _
        refine st_iload (p' := 1) rfl rfl rfl ?_
        refine st_iload (p' := 2) rfl rfl rfl ?_
        refine st_icT (p' := 14) rfl (q_lt (by rw [show (0 : Int32).toInt = 0 from by decide]; omega)) rfl ?_
        refine st_push (p' := 15) rfl rfl ?_
        exact st_ret_i rfl
      refine st_inv (p' := 7) (av := [.int p0, .int 0, .int 19]) (s' := [.int 0]) rfl rfl c4 rfl rfl rfl rfl rfl ?_
      exact st_ret_i rfl
    refine st_inv (p' := 9) (av := [.int p0]) (s' := [.int 0]) rfl rfl c5 rfl rfl rfl rfl rfl ?_
    refine st_ifF (p' := 12) rfl (by decide +kernel) rfl ?_
    refine st_aload (p' := 13) rfl rfl rfl ?_
    refine st_push (p' := 14) rfl rfl ?_
    have c6 : ev_call mt pg 3000 11 229 [.ref 82, .int 1] (hG 40 9999 0 40 9999 0 106 8647) = some (.inl (some (.int 0)), (hG 40 9999 1 40 9999 0 106 8647)) := by
      refine ev_mc rfl ?_ (ev_finx (by first | rfl | decide +kernel) rfl rfl)
      show ev_run (pg 229) (ev_call mt pg 3000 10) 3000 (0, [(0, .ref 82), (1, .int 1)], []) (hG 40 9999 0 40 9999 0 106 8647) = _
      refine st_aload (p' := 1) rfl rfl rfl ?_
      refine st_iload (p' := 2) rfl rfl rfl ?_
      refine st_putf (p' := 5) (h' := (hG 40 9999 1 40 9999 0 106 8647)) rfl rfl (hG_m ..) rfl (hG_sm ..) ?_
      refine st_push (p' := 6) rfl rfl ?_
      exact st_ret_i rfl
    refine st_inv (p' := 17) (av := [.ref 82, .int 1]) (s' := [.int 0]) rfl rfl c6 rfl rfl (q_recv (hG_m ..)) rfl rfl ?_
    exact st_ret_i rfl
  have c8 : ev_call mt pg 3000 12 228 [.ref 82] (hG 40 9999 1 40 9999 0 106 8647) = some (.inl (some (.int 1)), (hG 40 9999 1 40 9999 0 106 8647)) := by
    refine ev_mc rfl ?_ (ev_finx (by first | rfl | decide +kernel) rfl rfl)
    show ev_run (pg 228) (ev_call mt pg 3000 11) 3000 (0, [(0, .ref 82)], []) (hG 40 9999 1 40 9999 0 106 8647) = _
    refine st_aload (p' := 1) rfl rfl rfl ?_
    refine st_getf (p' := 4) (v := .int 1) rfl rfl (hG_m ..) rfl ?_
    exact st_ret_i rfl
  exact ⟨1, 0, _, _, _, _, c3, hG_m .., c7, hG_m .., c8, (fun h => absurd h (by decide)), Nat.le_of_ble_eq_true rfl, Nat.le_of_ble_eq_true rfl⟩
theorem ag_link_2 (p0 p1 : Int32) (l_p0 : 0 ≤ p0.toInt) (u_p0 : p0.toInt ≤ 19) (h_p1 : p1 = 0 ∨ p1 = 1) : agree 303 253 [.ref 0, .int p0, .int p1, .ref 104] [.ref 82, .int p0, .int p1] := by
  have h := ag_link_2_c
  obtain ⟨k_p0, q_p0, e_p0⟩ := q_conc (x := p0) (lo := 0) (m := 20) (by omega) (by omega)
  have h := List.all_eq_true.mp h k_p0 (List.mem_range.mpr q_p0)
  have h := List.all_eq_true.mp h p1 (by rcases h_p1 with q | q <;> rw [q] <;> decide)
  subst e_p0
  exact chk_agree h
theorem ag_link_3 (p0 p1 : Int32) (l_p0 : 20 ≤ p0.toInt) : agree 303 253 [.ref 0, .int p0, .int p1, .ref 104] [.ref 82, .int p0, .int p1] := by
  have c3 : ev_call mt pg 3000 12 303 [.ref 0, .int p0, .int p1, .ref 104] (hG 40 9999 0 40 9999 0 105 8641) = some (.inl (some (.int 1)), (hG 40 9999 0 40 9999 0 106 8647)) := by
    refine ev_mc rfl ?_ (ev_finx (by first | rfl | decide +kernel) rfl rfl)
    show ev_run (pg 303) (ev_call mt pg 3000 11) 3000 (0, [(0, .ref 0), (1, .int p0), (2, .int p1), (3, .ref 104)], []) (hG 40 9999 0 40 9999 0 105 8641) = _
    refine st_aload (p' := 1) rfl rfl rfl ?_
    refine st_push (p' := 2) rfl rfl ?_
    refine st_aload (p' := 3) rfl rfl rfl ?_
    refine st_iload (p' := 4) rfl rfl rfl ?_
    refine st_iload (p' := 5) rfl rfl rfl ?_
    have c2 : ev_call mt pg 3000 11 172 [.ref 0, .int p0, .int p1] (hG 40 9999 0 40 9999 0 105 8641) = some (.inr "java/lang/IllegalArgumentException", (hG 40 9999 0 40 9999 0 106 8647)) := by
      refine ev_mc rfl ?_ (ev_finX (by decide +kernel) rfl rfl)
      show ev_run (pg 172) (ev_call mt pg 3000 10) 3000 (0, [(0, .ref 0), (1, .int p0), (2, .int p1)], []) (hG 40 9999 0 40 9999 0 105 8641) = _
      refine st_iload (p' := 1) rfl rfl rfl ?_
      have c1 : ev_call mt pg 3000 10 197 [.int p0] (hG 40 9999 0 40 9999 0 105 8641) = some (.inl (some (.int 0)), (hG 40 9999 0 40 9999 0 105 8641)) := by
        refine ev_mc rfl ?_ (ev_finx (by first | rfl | decide +kernel) rfl rfl)
        show ev_run (pg 197) (ev_call mt pg 3000 9) 3000 (0, [(0, .int p0)], []) (hG 40 9999 0 40 9999 0 105 8641) = _
        refine st_iload (p' := 1) rfl rfl rfl ?_
        refine st_ifF (p' := 4) rfl (q_lt' (by rw [show (0 : Int32).toInt = 0 from by decide]; omega)) rfl ?_
        refine st_iload (p' := 5) rfl rfl rfl ?_
        refine st_push (p' := 7) rfl rfl ?_
        refine st_icT (p' := 14) rfl (q_le (by rw [show (20 : Int32).toInt = 20 from by decide]; omega)) rfl ?_
        refine st_push (p' := 15) rfl rfl ?_
        exact st_ret_i rfl
      refine st_inv (p' := 4) (av := [.int p0]) (s' := [.int 0]) rfl rfl c1 rfl rfl rfl rfl rfl ?_
      refine st_ifF (p' := 7) rfl (by decide +kernel) rfl ?_
      exact st_throw rfl rfl rfl
    refine st_invC (p' := 15) (q := 4) (l' := [(0, .ref 0), (1, .int p0), (2, .int p1), (3, .ref 104)]) (av := [.ref 0, .int p0, .int p1]) rfl rfl c2 rfl rfl (q_recv (hG_x ..)) (by decide +kernel) rfl ?_
    refine st_push (p' := 16) rfl rfl ?_
    exact st_ret_i rfl
  have c7 : ev_call mt pg 3000 12 253 [.ref 82, .int p0, .int p1] (hG 40 9999 0 40 9999 0 106 8647) = some (.inl (some (.int 0)), (hG 40 9999 1 40 9999 0 106 8647)) := by
    refine ev_mc rfl ?_ (ev_finx (by first | rfl | decide +kernel) rfl rfl)
    show ev_run (pg 253) (ev_call mt pg 3000 11) 3000 (0, [(0, .ref 82), (1, .int p0), (2, .int p1)], []) (hG 40 9999 0 40 9999 0 106 8647) = _
    refine st_aload (p' := 1) rfl rfl rfl ?_
    refine st_push (p' := 2) rfl rfl ?_
    refine st_putf (p' := 5) (h' := (hG 40 9999 0 40 9999 0 106 8647)) rfl rfl (hG_m ..) rfl (hG_sm ..) ?_
    refine st_iload (p' := 6) rfl rfl rfl ?_
    have c5 : ev_call mt pg 3000 11 235 [.int p0] (hG 40 9999 0 40 9999 0 106 8647) = some (.inl (some (.int 0)), (hG 40 9999 0 40 9999 0 106 8647)) := by
      refine ev_mc rfl ?_ (ev_finx (by first | rfl | decide +kernel) rfl rfl)
      show ev_run (pg 235) (ev_call mt pg 3000 10) 3000 (0, [(0, .int p0)], []) (hG 40 9999 0 40 9999 0 106 8647) = _
      refine st_iload (p' := 1) rfl rfl rfl ?_
      refine st_push (p' := 2) rfl rfl ?_
      refine st_push (p' := 4) rfl rfl ?_
      have c4 : ev_call mt pg 3000 10 230 [.int p0, .int 0, .int 19] (hG 40 9999 0 40 9999 0 106 8647) = some (.inl (some (.int 0)), (hG 40 9999 0 40 9999 0 106 8647)) := by
        refine ev_mc rfl ?_ (ev_finx (by first | rfl | decide +kernel) rfl rfl)
        show ev_run (pg 230) (ev_call mt pg 3000 9) 3000 (0, [(0, .int p0), (1, .int 0), (2, .int 19)], []) (hG 40 9999 0 40 9999 0 106 8647) = _
        refine st_iload (p' := 1) rfl rfl rfl ?_
        refine st_iload (p' := 2) rfl rfl rfl ?_
        refine st_icF (p' := 5) rfl (q_lt' (by rw [show (0 : Int32).toInt = 0 from by decide]; omega)) rfl ?_
        refine st_iload (p' := 6) rfl rfl rfl ?_
        refine st_iload (p' := 7) rfl rfl rfl ?_
        refine st_icT (p' := 14) rfl (q_lt (by rw [show (19 : Int32).toInt = 19 from by decide]; omega)) rfl ?_
        refine st_push (p' := 15) rfl rfl ?_
        exact st_ret_i rfl
      refine st_inv (p' := 7) (av := [.int p0, .int 0, .int 19]) (s' := [.int 0]) rfl rfl c4 rfl rfl rfl rfl rfl ?_
      exact st_ret_i rfl
    refine st_inv (p' := 9) (av := [.int p0]) (s' := [.int 0]) rfl rfl c5 rfl rfl rfl rfl rfl ?_
    refine st_ifF (p' := 12) rfl (by decide +kernel) rfl ?_
    refine st_aload (p' := 13) rfl rfl rfl ?_
    refine st_push (p' := 14) rfl rfl ?_
    have c6 : ev_call mt pg 3000 11 229 [.ref 82, .int 1] (hG 40 9999 0 40 9999 0 106 8647) = some (.inl (some (.int 0)), (hG 40 9999 1 40 9999 0 106 8647)) := by
      refine ev_mc rfl ?_ (ev_finx (by first | rfl | decide +kernel) rfl rfl)
      show ev_run (pg 229) (ev_call mt pg 3000 10) 3000 (0, [(0, .ref 82), (1, .int 1)], []) (hG 40 9999 0 40 9999 0 106 8647) = _
      refine st_aload (p' := 1) rfl rfl rfl ?_
      refine st_iload (p' := 2) rfl rfl rfl ?_
      refine st_putf (p' := 5) (h' := (hG 40 9999 1 40 9999 0 106 8647)) rfl rfl (hG_m ..) rfl (hG_sm ..) ?_
      refine st_push (p' := 6) rfl rfl ?_
      exact st_ret_i rfl
    refine st_inv (p' := 17) (av := [.ref 82, .int 1]) (s' := [.int 0]) rfl rfl c6 rfl rfl (q_recv (hG_m ..)) rfl rfl ?_
    exact st_ret_i rfl
  have c8 : ev_call mt pg 3000 12 228 [.ref 82] (hG 40 9999 1 40 9999 0 106 8647) = some (.inl (some (.int 1)), (hG 40 9999 1 40 9999 0 106 8647)) := by
    refine ev_mc rfl ?_ (ev_finx (by first | rfl | decide +kernel) rfl rfl)
    show ev_run (pg 228) (ev_call mt pg 3000 11) 3000 (0, [(0, .ref 82)], []) (hG 40 9999 1 40 9999 0 106 8647) = _
    refine st_aload (p' := 1) rfl rfl rfl ?_
    refine st_getf (p' := 4) (v := .int 1) rfl rfl (hG_m ..) rfl ?_
    exact st_ret_i rfl
  exact ⟨1, 0, _, _, _, _, c3, hG_m .., c7, hG_m .., c8, (fun h => absurd h (by decide)), Nat.le_of_ble_eq_true rfl, Nat.le_of_ble_eq_true rfl⟩
theorem ag_link (p0 p1 : Int32) (h_p1 : p1 = 0 ∨ p1 = 1) : agree 303 253 [.ref 0, .int p0, .int p1, .ref 104] [.ref 82, .int p0, .int p1] := by
  rcases Int.lt_or_le p0.toInt 0 with h | h
  · exact ag_link_1 p0 p1 (by omega)
  · rcases Int.lt_or_le p0.toInt 20 with h | h
    · exact ag_link_2 p0 p1 (by omega) (by omega) h_p1
    · exact ag_link_3 p0 p1 (by omega)
theorem ag_ofSection_1 (p0 p1 : Int32) (u_p0 : p0.toInt ≤ -1) : agree 304 255 [.ref 0, .int p0, .int p1, .ref 104] [.ref 82, .int p0, .int p1] := by
  have c3 : ev_call mt pg 3000 12 304 [.ref 0, .int p0, .int p1, .ref 104] (hG 40 9999 0 40 9999 0 105 8641) = some (.inl (some (.int 1)), (hG 40 9999 0 40 9999 0 106 8647)) := by
    refine ev_mc rfl ?_ (ev_finx (by first | rfl | decide +kernel) rfl rfl)
    show ev_run (pg 304) (ev_call mt pg 3000 11) 3000 (0, [(0, .ref 0), (1, .int p0), (2, .int p1), (3, .ref 104)], []) (hG 40 9999 0 40 9999 0 105 8641) = _
    refine st_aload (p' := 1) rfl rfl rfl ?_
    refine st_push (p' := 2) rfl rfl ?_
    refine st_aload (p' := 3) rfl rfl rfl ?_
    refine st_iload (p' := 4) rfl rfl rfl ?_
    refine st_iload (p' := 5) rfl rfl rfl ?_
    have c2 : ev_call mt pg 3000 11 173 [.ref 0, .int p0, .int p1] (hG 40 9999 0 40 9999 0 105 8641) = some (.inr "java/lang/IndexOutOfBoundsException", (hG 40 9999 0 40 9999 0 106 8647)) := by
      refine ev_mc rfl ?_ (ev_finX (by decide +kernel) rfl rfl)
      show ev_run (pg 173) (ev_call mt pg 3000 10) 3000 (0, [(0, .ref 0), (1, .int p0), (2, .int p1)], []) (hG 40 9999 0 40 9999 0 105 8641) = _
      refine st_aload (p' := 1) rfl rfl rfl ?_
      refine st_getf (p' := 4) (v := .ref 11) rfl rfl (hG_x ..) rfl ?_
      refine st_iload (p' := 5) rfl rfl rfl ?_
      have c1 : ev_call mt pg 3000 10 121 [.ref 11, .int p0] (hG 40 9999 0 40 9999 0 105 8641) = some (.inl (some (.int 0)), (hG 40 9999 0 40 9999 0 105 8641)) := by
        refine ev_mc rfl ?_ (ev_finx (by first | rfl | decide +kernel) rfl rfl)
        show ev_run (pg 121) (ev_call mt pg 3000 9) 3000 (0, [(0, .ref 11), (1, .int p0)], []) (hG 40 9999 0 40 9999 0 105 8641) = _
        refine st_iload (p' := 1) rfl rfl rfl ?_
        refine st_ifT (p' := 22) rfl (q_lt (by rw [show (0 : Int32).toInt = 0 from by decide]; omega)) rfl ?_
        refine st_push (p' := 23) rfl rfl ?_
        exact st_ret_i rfl
      refine st_inv (p' := 8) (av := [.ref 11, .int p0]) (s' := [.int 0]) rfl rfl c1 rfl rfl (q_recv (hG_c11 ..)) rfl rfl ?_
      refine st_ifF (p' := 11) rfl (by decide +kernel) rfl ?_
      exact st_throw rfl rfl rfl
    refine st_invC (p' := 15) (q := 4) (l' := [(0, .ref 0), (1, .int p0), (2, .int p1), (3, .ref 104)]) (av := [.ref 0, .int p0, .int p1]) rfl rfl c2 rfl rfl (q_recv (hG_x ..)) (by decide +kernel) rfl ?_
    refine st_push (p' := 16) rfl rfl ?_
    exact st_ret_i rfl
  have c7 : ev_call mt pg 3000 12 255 [.ref 82, .int p0, .int p1] (hG 40 9999 0 40 9999 0 106 8647) = some (.inl (some (.int 0)), (hG 40 9999 1 40 9999 0 106 8647)) := by
    refine ev_mc rfl ?_ (ev_finx (by first | rfl | decide +kernel) rfl rfl)
    show ev_run (pg 255) (ev_call mt pg 3000 11) 3000 (0, [(0, .ref 82), (1, .int p0), (2, .int p1)], []) (hG 40 9999 0 40 9999 0 106 8647) = _
    refine st_aload (p' := 1) rfl rfl rfl ?_
    refine st_push (p' := 2) rfl rfl ?_
    refine st_putf (p' := 5) (h' := (hG 40 9999 0 40 9999 0 106 8647)) rfl rfl (hG_m ..) rfl (hG_sm ..) ?_
    refine st_aload (p' := 6) rfl rfl rfl ?_
    refine st_iload (p' := 7) rfl rfl rfl ?_
    have c5 : ev_call mt pg 3000 11 234 [.ref 82, .int p0] (hG 40 9999 0 40 9999 0 106 8647) = some (.inl (some (.int 0)), (hG 40 9999 0 40 9999 0 106 8647)) := by
      refine ev_mc rfl ?_ (ev_finx (by first | rfl | decide +kernel) rfl rfl)
      show ev_run (pg 234) (ev_call mt pg 3000 10) 3000 (0, [(0, .ref 82), (1, .int p0)], []) (hG 40 9999 0 40 9999 0 106 8647) = _
      refine st_iload (p' := 1) rfl rfl rfl ?_
      refine st_push (p' := 2) rfl rfl ?_
      refine st_aload (p' := 3) rfl rfl rfl ?_
      refine st_getf (p' := 6) (v := .int 0) rfl rfl (hG_m ..) rfl ?_
      refine st_push (p' := 7) rfl rfl ?_
      refine st_ii (p' := 8) (z := (-1)) rfl rfl (by decide +kernel) ?_
      have c4 : ev_call mt pg 3000 10 230 [.int p0, .int 0, .int (-1)] (hG 40 9999 0 40 9999 0 106 8647) = some (.inl (some (.int 0)), (hG 40 9999 0 40 9999 0 106 8647)) := by
        refine ev_mc rfl ?_ (ev_finx (by first | rfl | decide +kernel) rfl rfl)
        show ev_run (pg 230) (ev_call mt pg 3000 9) 3000 (0, [(0, .int p0), (1, .int 0), (2, .int (-1))], []) (hG 40 9999 0 40 9999 0 106 8647) = _
        refine st_iload (p' := 1) rfl rfl rfl ?_
        refine st_iload (p' := 2) rfl rfl rfl ?_
        refine st_icT (p' := 14) rfl (q_lt (by rw [show (0 : Int32).toInt = 0 from by decide]; omega)) rfl ?_
        refine st_push (p' := 15) rfl rfl ?_
        exact st_ret_i rfl
      refine st_inv (p' := 11) (av := [.int p0, .int 0, .int (-1)]) (s' := [.int 0]) rfl rfl c4 rfl rfl rfl rfl rfl ?_
      exact st_ret_i rfl
    refine st_inv (p' := 10) (av := [.ref 82, .int p0]) (s' := [.int 0]) rfl rfl c5 rfl rfl (q_recv (hG_m ..)) rfl rfl ?_
    refine st_ifF (p' := 13) rfl (by decide +kernel) rfl ?_
    refine st_aload (p' := 14) rfl rfl rfl ?_
    refine st_push (p' := 15) rfl rfl ?_
    have c6 : ev_call mt pg 3000 11 229 [.ref 82, .int 1] (hG 40 9999 0 40 9999 0 106 8647) = some (.inl (some (.int 0)), (hG 40 9999 1 40 9999 0 106 8647)) := by
      refine ev_mc rfl ?_ (ev_finx (by first | rfl | decide +kernel) rfl rfl)
      show ev_run (pg 229) (ev_call mt pg 3000 10) 3000 (0, [(0, .ref 82), (1, .int 1)], []) (hG 40 9999 0 40 9999 0 106 8647) = _
      refine st_aload (p' := 1) rfl rfl rfl ?_
      refine st_iload (p' := 2) rfl rfl rfl ?_
      refine st_putf (p' := 5) (h' := (hG 40 9999 1 40 9999 0 106 8647)) rfl rfl (hG_m ..) rfl (hG_sm ..) ?_
      refine st_push (p' := 6) rfl rfl ?_
      exact st_ret_i rfl
    refine st_inv (p' := 18) (av := [.ref 82, .int 1]) (s' := [.int 0]) rfl rfl c6 rfl rfl (q_recv (hG_m ..)) rfl rfl ?_
    exact st_ret_i rfl
  have c8 : ev_call mt pg 3000 12 228 [.ref 82] (hG 40 9999 1 40 9999 0 106 8647) = some (.inl (some (.int 1)), (hG 40 9999 1 40 9999 0 106 8647)) := by
    refine ev_mc rfl ?_ (ev_finx (by first | rfl | decide +kernel) rfl rfl)
    show ev_run (pg 228) (ev_call mt pg 3000 11) 3000 (0, [(0, .ref 82)], []) (hG 40 9999 1 40 9999 0 106 8647) = _
    refine st_aload (p' := 1) rfl rfl rfl ?_
    refine st_getf (p' := 4) (v := .int 1) rfl rfl (hG_m ..) rfl ?_
    exact st_ret_i rfl
  exact ⟨1, 0, _, _, _, _, c3, hG_m .., c7, hG_m .., c8, (fun h => absurd h (by decide)), Nat.le_of_ble_eq_true rfl, Nat.le_of_ble_eq_true rfl⟩
theorem ag_ofSection_2 (p0 p1 : Int32) (l_p0 : 0 ≤ p0.toInt) : agree 304 255 [.ref 0, .int p0, .int p1, .ref 104] [.ref 82, .int p0, .int p1] := by
  have c3 : ev_call mt pg 3000 12 304 [.ref 0, .int p0, .int p1, .ref 104] (hG 40 9999 0 40 9999 0 105 8641) = some (.inl (some (.int 1)), (hG 40 9999 0 40 9999 0 106 8647)) := by
    refine ev_mc rfl ?_ (ev_finx (by first | rfl | decide +kernel) rfl rfl)
    show ev_run (pg 304) (ev_call mt pg 3000 11) 3000 (0, [(0, .ref 0), (1, .int p0), (2, .int p1), (3, .ref 104)], []) (hG 40 9999 0 40 9999 0 105 8641) = _
    refine st_aload (p' := 1) rfl rfl rfl ?_
    refine st_push (p' := 2) rfl rfl ?_
    refine st_aload (p' := 3) rfl rfl rfl ?_
    refine st_iload (p' := 4) rfl rfl rfl ?_
    refine st_iload (p' := 5) rfl rfl rfl ?_
    have c2 : ev_call mt pg 3000 11 173 [.ref 0, .int p0, .int p1] (hG 40 9999 0 40 9999 0 105 8641) = some (.inr "java/lang/IndexOutOfBoundsException", (hG 40 9999 0 40 9999 0 106 8647)) := by
      refine ev_mc rfl ?_ (ev_finX (by decide +kernel) rfl rfl)
      show ev_run (pg 173) (ev_call mt pg 3000 10) 3000 (0, [(0, .ref 0), (1, .int p0), (2, .int p1)], []) (hG 40 9999 0 40 9999 0 105 8641) = _
      refine st_aload (p' := 1) rfl rfl rfl ?_
      refine st_getf (p' := 4) (v := .ref 11) rfl rfl (hG_x ..) rfl ?_
      refine st_iload (p' := 5) rfl rfl rfl ?_
      have c1 : ev_call mt pg 3000 10 121 [.ref 11, .int p0] (hG 40 9999 0 40 9999 0 105 8641) = some (.inl (some (.int 0)), (hG 40 9999 0 40 9999 0 105 8641)) := by
        refine ev_mc rfl ?_ (ev_finx (by first | rfl | decide +kernel) rfl rfl)
        show ev_run (pg 121) (ev_call mt pg 3000 9) 3000 (0, [(0, .ref 11), (1, .int p0)], []) (hG 40 9999 0 40 9999 0 105 8641) = _
        refine st_iload (p' := 1) rfl rfl rfl ?_
        refine st_ifF (p' := 4) rfl (q_lt' (by rw [show (0 : Int32).toInt = 0 from by decide]; omega)) rfl ?_
        refine st_iload (p' := 5) rfl rfl rfl ?_
        refine st_aload (p' := 6) rfl rfl rfl ?_
        refine st_getf (p' := 9) (v := .int 0) rfl rfl (hG_c11 ..) rfl ?_
        refine st_icT (p' := 22) rfl (q_le (by rw [show (0 : Int32).toInt = 0 from by decide]; omega)) rfl ?_
        refine st_push (p' := 23) rfl rfl ?_
        exact st_ret_i rfl
      refine st_inv (p' := 8) (av := [.ref 11, .int p0]) (s' := [.int 0]) rfl rfl c1 rfl rfl (q_recv (hG_c11 ..)) rfl rfl ?_
      refine st_ifF (p' := 11) rfl (by decide +kernel) rfl ?_
      exact st_throw rfl rfl rfl
    refine st_invC (p' := 15) (q := 4) (l' := [(0, .ref 0), (1, .int p0), (2, .int p1), (3, .ref 104)]) (av := [.ref 0, .int p0, .int p1]) rfl rfl c2 rfl rfl (q_recv (hG_x ..)) (by decide +kernel) rfl ?_
    refine st_push (p' := 16) rfl rfl ?_
    exact st_ret_i rfl
  have c7 : ev_call mt pg 3000 12 255 [.ref 82, .int p0, .int p1] (hG 40 9999 0 40 9999 0 106 8647) = some (.inl (some (.int 0)), (hG 40 9999 1 40 9999 0 106 8647)) := by
    refine ev_mc rfl ?_ (ev_finx (by first | rfl | decide +kernel) rfl rfl)
    show ev_run (pg 255) (ev_call mt pg 3000 11) 3000 (0, [(0, .ref 82), (1, .int p0), (2, .int p1)], []) (hG 40 9999 0 40 9999 0 106 8647) = _
    refine st_aload (p' := 1) rfl rfl rfl ?_
    refine st_push (p' := 2) rfl rfl ?_
    refine st_putf (p' := 5) (h' := (hG 40 9999 0 40 9999 0 106 8647)) rfl rfl (hG_m ..) rfl (hG_sm ..) ?_
    refine st_aload (p' := 6) rfl rfl rfl ?_
    refine st_iload (p' := 7) rfl rfl rfl ?_
    have c5 : ev_call mt pg 3000 11 234 [.ref 82, .int p0] (hG 40 9999 0 40 9999 0 106 8647) = some (.inl (some (.int 0)), (hG 40 9999 0 40 9999 0 106 8647)) := by
      refine ev_mc rfl ?_ (ev_finx (by first | rfl | decide +kernel) rfl rfl)
      show ev_run (pg 234) (ev_call mt pg 3000 10) 3000 (0, [(0, .ref 82), (1, .int p0)], []) (hG 40 9999 0 40 9999 0 106 8647) = _
      refine st_iload (p' := 1) rfl rfl rfl ?_
      refine st_push (p' := 2) rfl rfl ?_
      refine st_aload (p' := 3) rfl rfl rfl ?_
      refine st_getf (p' := 6) (v := .int 0) rfl rfl (hG_m ..) rfl ?_
      refine st_push (p' := 7) rfl rfl ?_
      refine st_ii (p' := 8) (z := (-1)) rfl rfl (by decide +kernel) ?_
      have c4 : ev_call mt pg 3000 10 230 [.int p0, .int 0, .int (-1)] (hG 40 9999 0 40 9999 0 106 8647) = some (.inl (some (.int 0)), (hG 40 9999 0 40 9999 0 106 8647)) := by
        refine ev_mc rfl ?_ (ev_finx (by first | rfl | decide +kernel) rfl rfl)
        show ev_run (pg 230) (ev_call mt pg 3000 9) 3000 (0, [(0, .int p0), (1, .int 0), (2, .int (-1))], []) (hG 40 9999 0 40 9999 0 106 8647) = _
        refine st_iload (p' := 1) rfl rfl rfl ?_
        refine st_iload (p' := 2) rfl rfl rfl ?_
        refine st_icF (p' := 5) rfl (q_lt' (by rw [show (0 : Int32).toInt = 0 from by decide]; omega)) rfl ?_
        refine st_iload (p' := 6) rfl rfl rfl ?_
        refine st_iload (p' := 7) rfl rfl rfl ?_
        refine st_icT (p' := 14) rfl (q_lt (by rw [show ((-1) : Int32).toInt = (-1) from by decide]; omega)) rfl ?_
        refine st_push (p' := 15) rfl rfl ?_
        exact st_ret_i rfl
      refine st_inv (p' := 11) (av := [.int p0, .int 0, .int (-1)]) (s' := [.int 0]) rfl rfl c4 rfl rfl rfl rfl rfl ?_
      exact st_ret_i rfl
    refine st_inv (p' := 10) (av := [.ref 82, .int p0]) (s' := [.int 0]) rfl rfl c5 rfl rfl (q_recv (hG_m ..)) rfl rfl ?_
    refine st_ifF (p' := 13) rfl (by decide +kernel) rfl ?_
    refine st_aload (p' := 14) rfl rfl rfl ?_
    refine st_push (p' := 15) rfl rfl ?_
    have c6 : ev_call mt pg 3000 11 229 [.ref 82, .int 1] (hG 40 9999 0 40 9999 0 106 8647) = some (.inl (some (.int 0)), (hG 40 9999 1 40 9999 0 106 8647)) := by
      refine ev_mc rfl ?_ (ev_finx (by first | rfl | decide +kernel) rfl rfl)
      show ev_run (pg 229) (ev_call mt pg 3000 10) 3000 (0, [(0, .ref 82), (1, .int 1)], []) (hG 40 9999 0 40 9999 0 106 8647) = _
      refine st_aload (p' := 1) rfl rfl rfl ?_
      refine st_iload (p' := 2) rfl rfl rfl ?_
      refine st_putf (p' := 5) (h' := (hG 40 9999 1 40 9999 0 106 8647)) rfl rfl (hG_m ..) rfl (hG_sm ..) ?_
      refine st_push (p' := 6) rfl rfl ?_
      exact st_ret_i rfl
    refine st_inv (p' := 18) (av := [.ref 82, .int 1]) (s' := [.int 0]) rfl rfl c6 rfl rfl (q_recv (hG_m ..)) rfl rfl ?_
    exact st_ret_i rfl
  have c8 : ev_call mt pg 3000 12 228 [.ref 82] (hG 40 9999 1 40 9999 0 106 8647) = some (.inl (some (.int 1)), (hG 40 9999 1 40 9999 0 106 8647)) := by
    refine ev_mc rfl ?_ (ev_finx (by first | rfl | decide +kernel) rfl rfl)
    show ev_run (pg 228) (ev_call mt pg 3000 11) 3000 (0, [(0, .ref 82)], []) (hG 40 9999 1 40 9999 0 106 8647) = _
    refine st_aload (p' := 1) rfl rfl rfl ?_
    refine st_getf (p' := 4) (v := .int 1) rfl rfl (hG_m ..) rfl ?_
    exact st_ret_i rfl
  exact ⟨1, 0, _, _, _, _, c3, hG_m .., c7, hG_m .., c8, (fun h => absurd h (by decide)), Nat.le_of_ble_eq_true rfl, Nat.le_of_ble_eq_true rfl⟩
theorem ag_ofSection (p0 p1 : Int32)  : agree 304 255 [.ref 0, .int p0, .int p1, .ref 104] [.ref 82, .int p0, .int p1] := by
  rcases Int.lt_or_le p0.toInt 0 with h | h
  · exact ag_ofSection_1 p0 p1 (by omega)
  · exact ag_ofSection_2 p0 p1 (by omega)
theorem ag_ofName_1 (p0 p1 : Int32) (u_p0 : p0.toInt ≤ -1) : agree 305 257 [.ref 0, .int p0, .int p1, .ref 104] [.ref 82, .int p0, .int p1] := by
  have c3 : ev_call mt pg 3000 12 305 [.ref 0, .int p0, .int p1, .ref 104] (hG 40 9999 0 40 9999 0 105 8641) = some (.inl (some (.int 1)), (hG 40 9999 0 40 9999 0 106 8647)) := by
    refine ev_mc rfl ?_ (ev_finx (by first | rfl | decide +kernel) rfl rfl)
    show ev_run (pg 305) (ev_call mt pg 3000 11) 3000 (0, [(0, .ref 0), (1, .int p0), (2, .int p1), (3, .ref 104)], []) (hG 40 9999 0 40 9999 0 105 8641) = _
    refine st_aload (p' := 1) rfl rfl rfl ?_
    refine st_push (p' := 2) rfl rfl ?_
    refine st_aload (p' := 3) rfl rfl rfl ?_
    refine st_iload (p' := 4) rfl rfl rfl ?_
    refine st_iload (p' := 5) rfl rfl rfl ?_
    have c2 : ev_call mt pg 3000 11 174 [.ref 0, .int p0, .int p1] (hG 40 9999 0 40 9999 0 105 8641) = some (.inr "java/lang/IllegalArgumentException", (hG 40 9999 0 40 9999 0 106 8647)) := by
      refine ev_mc rfl ?_ (ev_finX (by decide +kernel) rfl rfl)
      show ev_run (pg 174) (ev_call mt pg 3000 10) 3000 (0, [(0, .ref 0), (1, .int p0), (2, .int p1)], []) (hG 40 9999 0 40 9999 0 105 8641) = _
      refine st_iload (p' := 1) rfl rfl rfl ?_
      have c1 : ev_call mt pg 3000 10 197 [.int p0] (hG 40 9999 0 40 9999 0 105 8641) = some (.inl (some (.int 0)), (hG 40 9999 0 40 9999 0 105 8641)) := by
        refine ev_mc rfl ?_ (ev_finx (by first | rfl | decide +kernel) rfl rfl)
        show ev_run (pg 197) (ev_call mt pg 3000 9) 3000 (0, [(0, .int p0)], []) (hG 40 9999 0 40 9999 0 105 8641) = _
        refine st_iload (p' := 1) rfl rfl rfl ?_
        refine st_ifT (p' := 14) rfl (q_lt (by rw [show (0 : Int32).toInt = 0 from by decide]; omega)) rfl ?_
        refine st_push (p' := 15) rfl rfl ?_
        exact st_ret_i rfl
      refine st_inv (p' := 4) (av := [.int p0]) (s' := [.int 0]) rfl rfl c1 rfl rfl rfl rfl rfl ?_
      refine st_ifF (p' := 7) rfl (by decide +kernel) rfl ?_
      exact st_throw rfl rfl rfl
    refine st_invC (p' := 15) (q := 4) (l' := [(0, .ref 0), (1, .int p0), (2, .int p1), (3, .ref 104)]) (av := [.ref 0, .int p0, .int p1]) rfl rfl c2 rfl rfl (q_recv (hG_x ..)) (by decide +kernel) rfl ?_
    refine st_push (p' := 16) rfl rfl ?_
    exact st_ret_i rfl
  have c7 : ev_call mt pg 3000 12 257 [.ref 82, .int p0, .int p1] (hG 40 9999 0 40 9999 0 106 8647) = some (.inl (some (.int 0)), (hG 40 9999 1 40 9999 0 106 8647)) := by
    refine ev_mc rfl ?_ (ev_finx (by first | rfl | decide +kernel) rfl rfl)
    show ev_run (pg 257) (ev_call mt pg 3000 11) 3000 (0, [(0, .ref 82), (1, .int p0), (2, .int p1)], []) (hG 40 9999 0 40 9999 0 106 8647) = _
    refine st_aload (p' := 1) rfl rfl rfl ?_
    refine st_push (p' := 2) rfl rfl ?_
    refine st_putf (p' := 5) (h' := (hG 40 9999 0 40 9999 0 106 8647)) rfl rfl (hG_m ..) rfl (hG_sm ..) ?_
    refine st_iload (p' := 6) rfl rfl rfl ?_
    have c5 : ev_call mt pg 3000 11 235 [.int p0] (hG 40 9999 0 40 9999 0 106 8647) = some (.inl (some (.int 0)), (hG 40 9999 0 40 9999 0 106 8647)) := by
      refine ev_mc rfl ?_ (ev_finx (by first | rfl | decide +kernel) rfl rfl)
      show ev_run (pg 235) (ev_call mt pg 3000 10) 3000 (0, [(0, .int p0)], []) (hG 40 9999 0 40 9999 0 106 8647) = _
      refine st_iload (p' := 1) rfl rfl rfl ?_
      refine st_push (p' := 2) rfl rfl ?_
      refine st_push (p' := 4) rfl rfl ?_
      have c4 : ev_call mt pg 3000 10 230 [.int p0, .int 0, .int 19] (hG 40 9999 0 40 9999 0 106 8647) = some (.inl (some (.int 0)), (hG 40 9999 0 40 9999 0 106 8647)) := by
        refine ev_mc rfl ?_ (ev_finx (by first | rfl | decide +kernel) rfl rfl)
        show ev_run (pg 230) (ev_call mt pg 3000 9) 3000 (0, [(0, .int p0), (1, .int 0), (2, .int 19)], []) (hG 40 9999 0 40 9999 0 106 8647) = _
        refine st_iload (p' := 1) rfl rfl rfl ?_
        refine st_iload (p' := 2) rfl rfl rfl ?_
        refine st_icT (p' := 14) rfl (q_lt (by rw [show (0 : Int32).toInt = 0 from by decide]; omega)) rfl ?_
        refine st_push (p' := 15) rfl rfl ?_
        exact st_ret_i rfl
      refine st_inv (p' := 7) (av := [.int p0, .int 0, .int 19]) (s' := [.int 0]) rfl rfl c4 rfl rfl rfl rfl rfl ?_
      exact st_ret_i rfl
    refine st_inv (p' := 9) (av := [.int p0]) (s' := [.int 0]) rfl rfl c5 rfl rfl rfl rfl rfl ?_
    refine st_ifT (p' := 30) rfl (by decide +kernel) rfl ?_
    refine st_aload (p' := 31) rfl rfl rfl ?_
    refine st_push (p' := 32) rfl rfl ?_
    have c6 : ev_call mt pg 3000 11 229 [.ref 82, .int 1] (hG 40 9999 0 40 9999 0 106 8647) = some (.inl (some (.int 0)), (hG 40 9999 1 40 9999 0 106 8647)) := by
      refine ev_mc rfl ?_ (ev_finx (by first | rfl | decide +kernel) rfl rfl)
      show ev_run (pg 229) (ev_call mt pg 3000 10) 3000 (0, [(0, .ref 82), (1, .int 1)], []) (hG 40 9999 0 40 9999 0 106 8647) = _
      refine st_aload (p' := 1) rfl rfl rfl ?_
      refine st_iload (p' := 2) rfl rfl rfl ?_
      refine st_putf (p' := 5) (h' := (hG 40 9999 1 40 9999 0 106 8647)) rfl rfl (hG_m ..) rfl (hG_sm ..) ?_
      refine st_push (p' := 6) rfl rfl ?_
      exact st_ret_i rfl
    refine st_inv (p' := 35) (av := [.ref 82, .int 1]) (s' := [.int 0]) rfl rfl c6 rfl rfl (q_recv (hG_m ..)) rfl rfl ?_
    exact st_ret_i rfl
  have c8 : ev_call mt pg 3000 12 228 [.ref 82] (hG 40 9999 1 40 9999 0 106 8647) = some (.inl (some (.int 1)), (hG 40 9999 1 40 9999 0 106 8647)) := by
    refine ev_mc rfl ?_ (ev_finx (by first | rfl | decide +kernel) rfl rfl)
    show ev_run (pg 228) (ev_call mt pg 3000 11) 3000 (0, [(0, .ref 82)], []) (hG 40 9999 1 40 9999 0 106 8647) = _
    refine st_aload (p' := 1) rfl rfl rfl ?_
    refine st_getf (p' := 4) (v := .int 1) rfl rfl (hG_m ..) rfl ?_
    exact st_ret_i rfl
  exact ⟨1, 0, _, _, _, _, c3, hG_m .., c7, hG_m .., c8, (fun h => absurd h (by decide)), Nat.le_of_ble_eq_true rfl, Nat.le_of_ble_eq_true rfl⟩
theorem ag_ofName_2 (p0 p1 : Int32) (l_p0 : 0 ≤ p0.toInt) (u_p0 : p0.toInt ≤ 19) (u_p1 : p1.toInt ≤ -1) : agree 305 257 [.ref 0, .int p0, .int p1, .ref 104] [.ref 82, .int p0, .int p1] := by
  have c3 : ev_call mt pg 3000 12 305 [.ref 0, .int p0, .int p1, .ref 104] (hG 40 9999 0 40 9999 0 105 8641) = some (.inl (some (.int 1)), (hG 40 9999 0 40 9999 0 106 8647)) := by
    refine ev_mc rfl ?_ (ev_finx (by first | rfl | decide +kernel) rfl rfl)
    show ev_run (pg 305) (ev_call mt pg 3000 11) 3000 (0, [(0, .ref 0), (1, .int p0), (2, .int p1), (3, .ref 104)], []) (hG 40 9999 0 40 9999 0 105 8641) = _
    refine st_aload (p' := 1) rfl rfl rfl ?_
    refine st_push (p' := 2) rfl rfl ?_
    refine st_aload (p' := 3) rfl rfl rfl ?_
    refine st_iload (p' := 4) rfl rfl rfl ?_
    refine st_iload (p' := 5) rfl rfl rfl ?_
    have c2 : ev_call mt pg 3000 11 174 [.ref 0, .int p0, .int p1] (hG 40 9999 0 40 9999 0 105 8641) = some (.inr "java/lang/IllegalArgumentException", (hG 40 9999 0 40 9999 0 106 8647)) := by
      refine ev_mc rfl ?_ (ev_finX (by decide +kernel) rfl rfl)
      show ev_run (pg 174) (ev_call mt pg 3000 10) 3000 (0, [(0, .ref 0), (1, .int p0), (2, .int p1)], []) (hG 40 9999 0 40 9999 0 105 8641) = _
      refine st_iload (p' := 1) rfl rfl rfl ?_
      have c1 : ev_call mt pg 3000 10 197 [.int p0] (hG 40 9999 0 40 9999 0 105 8641) = some (.inl (some (.int 1)), (hG 40 9999 0 40 9999 0 105 8641)) := by
        refine ev_mc rfl ?_ (ev_finx (by first | rfl | decide +kernel) rfl rfl)
        show ev_run (pg 197) (ev_call mt pg 3000 9) 3000 (0, [(0, .int p0)], []) (hG 40 9999 0 40 9999 0 105 8641) = _
        refine st_iload (p' := 1) rfl rfl rfl ?_
        refine st_ifF (p' := 4) rfl (q_lt' (by rw [show (0 : Int32).toInt = 0 from by decide]; omega)) rfl ?_
        refine st_iload (p' := 5) rfl rfl rfl ?_
        refine st_push (p' := 7) rfl rfl ?_
        refine st_icF (p' := 10) rfl (q_le' (by rw [show (20 : Int32).toInt = 20 from by decide]; omega)) rfl ?_
        refine st_push (p' := 11) rfl rfl ?_
        refine st_goto rfl ?_
        exact st_ret_i rfl
      refine st_inv (p' := 4) (av := [.int p0]) (s' := [.int 1]) rfl rfl c1 rfl rfl rfl rfl rfl ?_
      refine st_ifT (p' := 17) rfl (by decide +kernel) rfl ?_
      refine st_iload (p' := 18) rfl rfl rfl ?_
      refine st_tswL rfl (by omega) ?_
      exact st_throw rfl rfl rfl
    refine st_invC (p' := 15) (q := 4) (l' := [(0, .ref 0), (1, .int p0), (2, .int p1), (3, .ref 104)]) (av := [.ref 0, .int p0, .int p1]) rfl rfl c2 rfl rfl (q_recv (hG_x ..)) (by decide +kernel) rfl ?_
    refine st_push (p' := 16) rfl rfl ?_
    exact st_ret_i rfl
  have c8 : ev_call mt pg 3000 12 257 [.ref 82, .int p0, .int p1] (hG 40 9999 0 40 9999 0 106 8647) = some (.inl (some (.int 0)), (hG 40 9999 1 40 9999 0 106 8647)) := by
    refine ev_mc rfl ?_ (ev_finx (by first | rfl | decide +kernel) rfl rfl)
    show ev_run (pg 257) (ev_call mt pg 3000 11) 3000 (0, [(0, .ref 82), (1, .int p0), (2, .int p1)], []) (hG 40 9999 0 40 9999 0 106 8647) = _
    refine st_aload (p' := 1) rfl rfl rfl ?_
    refine st_push (p' := 2) rfl rfl ?_
    refine st_putf (p' := 5) (h' := (hG 40 9999 0 40 9999 0 106 8647)) rfl rfl (hG_m ..) rfl (hG_sm ..) ?_
    refine st_iload (p' := 6) rfl rfl rfl ?_
    have c5 : ev_call mt pg 3000 11 235 [.int p0] (hG 40 9999 0 40 9999 0 106 8647) = some (.inl (some (.int 1)), (hG 40 9999 0 40 9999 0 106 8647)) := by
      refine ev_mc rfl ?_ (ev_finx (by first | rfl | decide +kernel) rfl rfl)
      show ev_run (pg 235) (ev_call mt pg 3000 10) 3000 (0, [(0, .int p0)], []) (hG 40 9999 0 40 9999 0 106 8647) = _
      refine st_iload (p' := 1) rfl rfl rfl ?_
      refine st_push (p' := 2) rfl rfl ?_
      refine st_push (p' := 4) rfl rfl ?_
      have c4 : ev_call mt pg 3000 10 230 [.int p0, .int 0, .int 19] (hG 40 9999 0 40 9999 0 106 8647) = some (.inl (some (.int 1)), (hG 40 9999 0 40 9999 0 106 8647)) := by
        refine ev_mc rfl ?_ (ev_finx (by first | rfl | decide +kernel) rfl rfl)
        show ev_run (pg 230) (ev_call mt pg 3000 9) 3000 (0, [(0, .int p0), (1, .int 0), (2, .int 19)], []) (hG 40 9999 0 40 9999 0 106 8647) = _
        refine st_iload (p' := 1) rfl rfl rfl ?_
        refine st_iload (p' := 2) rfl rfl rfl ?_
        refine st_icF (p' := 5) rfl (q_lt' (by rw [show (0 : Int32).toInt = 0 from by decide]; omega)) rfl ?_
        refine st_iload (p' := 6) rfl rfl rfl ?_
        refine st_iload (p' := 7) rfl rfl rfl ?_
        refine st_icF (p' := 10) rfl (q_lt' (by rw [show (19 : Int32).toInt = 19 from by decide]; omega)) rfl ?_
        refine st_push (p' := 11) rfl rfl ?_
        refine st_goto rfl ?_
        exact st_ret_i rfl
      refine st_inv (p' := 7) (av := [.int p0, .int 0, .int 19]) (s' := [.int 1]) rfl rfl c4 rfl rfl rfl rfl rfl ?_
      exact st_ret_i rfl
    refine st_inv (p' := 9) (av := [.int p0]) (s' := [.int 1]) rfl rfl c5 rfl rfl rfl rfl rfl ?_
    refine st_ifF (p' := 12) rfl (by decide +kernel) rfl ?_
    refine st_iload (p' := 13) rfl rfl rfl ?_
    refine st_push (p' := 14) rfl rfl ?_
    refine st_push (p' := 15) rfl rfl ?_
    have c6 : ev_call mt pg 3000 11 230 [.int p1, .int 0, .int 4] (hG 40 9999 0 40 9999 0 106 8647) = some (.inl (some (.int 0)), (hG 40 9999 0 40 9999 0 106 8647)) := by
      refine ev_mc rfl ?_ (ev_finx (by first | rfl | decide +kernel) rfl rfl)
      show ev_run (pg 230) (ev_call mt pg 3000 10) 3000 (0, [(0, .int p1), (1, .int 0), (2, .int 4)], []) (hG 40 9999 0 40 9999 0 106 8647) = _
      refine st_iload (p' := 1) rfl rfl rfl ?_
      refine st_iload (p' := 2) rfl rfl rfl ?_
      refine st_icT (p' := 14) rfl (q_lt (by rw [show (0 : Int32).toInt = 0 from by decide]; omega)) rfl ?_
      refine st_push (p' := 15) rfl rfl ?_
      exact st_ret_i rfl
    refine st_inv (p' := 18) (av := [.int p1, .int 0, .int 4]) (s' := [.int 0]) rfl rfl c6 rfl rfl rfl rfl rfl ?_
    refine st_ifT (p' := 30) rfl (by decide +kernel) rfl ?_
    refine st_aload (p' := 31) rfl rfl rfl ?_
    refine st_push (p' := 32) rfl rfl ?_
    have c7 : ev_call mt pg 3000 11 229 [.ref 82, .int 1] (hG 40 9999 0 40 9999 0 106 8647) = some (.inl (some (.int 0)), (hG 40 9999 1 40 9999 0 106 8647)) := by
      refine ev_mc rfl ?_ (ev_finx (by first | rfl | decide +kernel) rfl rfl)
      show ev_run (pg 229) (ev_call mt pg 3000 10) 3000 (0, [(0, .ref 82), (1, .int 1)], []) (hG 40 9999 0 40 9999 0 106 8647) = _
      refine st_aload (p' := 1) rfl rfl rfl ?_
      refine st_iload (p' := 2) rfl rfl rfl ?_
      refine st_putf (p' := 5) (h' := (hG 40 9999 1 40 9999 0 106 8647)) rfl rfl (hG_m ..) rfl (hG_sm ..) ?_
      refine st_push (p' := 6) rfl rfl ?_
      exact st_ret_i rfl
    refine st_inv (p' := 35) (av := [.ref 82, .int 1]) (s' := [.int 0]) rfl rfl c7 rfl rfl (q_recv (hG_m ..)) rfl rfl ?_
    exact st_ret_i rfl
  have c9 : ev_call mt pg 3000 12 228 [.ref 82] (hG 40 9999 1 40 9999 0 106 8647) = some (.inl (some (.int 1)), (hG 40 9999 1 40 9999 0 106 8647)) := by
    refine ev_mc rfl ?_ (ev_finx (by first | rfl | decide +kernel) rfl rfl)
    show ev_run (pg 228) (ev_call mt pg 3000 11) 3000 (0, [(0, .ref 82)], []) (hG 40 9999 1 40 9999 0 106 8647) = _
    refine st_aload (p' := 1) rfl rfl rfl ?_
    refine st_getf (p' := 4) (v := .int 1) rfl rfl (hG_m ..) rfl ?_
    exact st_ret_i rfl
  exact ⟨1, 0, _, _, _, _, c3, hG_m .., c8, hG_m .., c9, (fun h => absurd h (by decide)), Nat.le_of_ble_eq_true rfl, Nat.le_of_ble_eq_true rfl⟩
theorem ag_ofName_3 (p0 p1 : Int32) (l_p0 : 0 ≤ p0.toInt) (u_p0 : p0.toInt ≤ 19) (l_p1 : 0 ≤ p1.toInt) (u_p1 : p1.toInt ≤ 4)  : agree 305 257 [.ref 0, .int p0, .int p1, .ref 104] [.ref 82, .int p0, .int p1] := by
  have h := ag_ofName_3_c
  obtain ⟨k_p0, q_p0, e_p0⟩ := q_conc (x := p0) (lo := 0) (m := 20) (by omega) (by omega)
  have h := List.all_eq_true.mp h k_p0 (List.mem_range.mpr q_p0)
  obtain ⟨k_p1, q_p1, e_p1⟩ := q_conc (x := p1) (lo := 0) (m := 5) (by omega) (by omega)
  have h := List.all_eq_true.mp h k_p1 (List.mem_range.mpr q_p1)
  subst e_p0 e_p1
  exact chk_agree h
theorem ag_ofName_4 (p0 p1 : Int32) (l_p0 : 0 ≤ p0.toInt) (u_p0 : p0.toInt ≤ 19) (l_p1 : 5 ≤ p1.toInt) : agree 305 257 [.ref 0, .int p0, .int p1, .ref 104] [.ref 82, .int p0, .int p1] := by
  have c3 : ev_call mt pg 3000 12 305 [.ref 0, .int p0, .int p1, .ref 104] (hG 40 9999 0 40 9999 0 105 8641) = some (.inl (some (.int 1)), (hG 40 9999 0 40 9999 0 106 8647)) := by
    refine ev_mc rfl ?_ (ev_finx (by first | rfl | decide +kernel) rfl rfl)
    show ev_run (pg 305) (ev_call mt pg 3000 11) 3000 (0, [(0, .ref 0), (1, .int p0), (2, .int p1), (3, .ref 104)], []) (hG 40 9999 0 40 9999 0 105 8641) = _
    refine st_aload (p' := 1) rfl rfl rfl ?_
    refine st_push (p' := 2) rfl rfl ?_
    refine st_aload (p' := 3) rfl rfl rfl ?_
    refine st_iload (p' := 4) rfl rfl rfl ?_
    refine st_iload (p' := 5) rfl rfl rfl ?_
    have c2 : ev_call mt pg 3000 11 174 [.ref 0, .int p0, .int p1] (hG 40 9999 0 40 9999 0 105 8641) = some (.inr "java/lang/IllegalArgumentException", (hG 40 9999 0 40 9999 0 106 8647)) := by
      refine ev_mc rfl ?_ (ev_finX (by decide +kernel) rfl rfl)
      show ev_run (pg 174) (ev_call mt pg 3000 10) 3000 (0, [(0, .ref 0), (1, .int p0), (2, .int p1)], []) (hG 40 9999 0 40 9999 0 105 8641) = _
      refine st_iload (p' := 1) rfl rfl rfl ?_
      have c1 : ev_call mt pg 3000 10 197 [.int p0] (hG 40 9999 0 40 9999 0 105 8641) = some (.inl (some (.int 1)), (hG 40 9999 0 40 9999 0 105 8641)) := by
        refine ev_mc rfl ?_ (ev_finx (by first | rfl | decide +kernel) rfl rfl)
        show ev_run (pg 197) (ev_call mt pg 3000 9) 3000 (0, [(0, .int p0)], []) (hG 40 9999 0 40 9999 0 105 8641) = _
        refine st_iload (p' := 1) rfl rfl rfl ?_
        refine st_ifF (p' := 4) rfl (q_lt' (by rw [show (0 : Int32).toInt = 0 from by decide]; omega)) rfl ?_
        refine st_iload (p' := 5) rfl rfl rfl ?_
        refine st_push (p' := 7) rfl rfl ?_
        refine st_icF (p' := 10) rfl (q_le' (by rw [show (20 : Int32).toInt = 20 from by decide]; omega)) rfl ?_
        refine st_push (p' := 11) rfl rfl ?_
        refine st_goto rfl ?_
        exact st_ret_i rfl
      refine st_inv (p' := 4) (av := [.int p0]) (s' := [.int 1]) rfl rfl c1 rfl rfl rfl rfl rfl ?_
      refine st_ifT (p' := 17) rfl (by decide +kernel) rfl ?_
      refine st_iload (p' := 18) rfl rfl rfl ?_
      refine st_tswH rfl (by show 5 ≤ p1.toInt; omega) ?_
      exact st_throw rfl rfl rfl
    refine st_invC (p' := 15) (q := 4) (l' := [(0, .ref 0), (1, .int p0), (2, .int p1), (3, .ref 104)]) (av := [.ref 0, .int p0, .int p1]) rfl rfl c2 rfl rfl (q_recv (hG_x ..)) (by decide +kernel) rfl ?_
    refine st_push (p' := 16) rfl rfl ?_
    exact st_ret_i rfl
  have c8 : ev_call mt pg 3000 12 257 [.ref 82, .int p0, .int p1] (hG 40 9999 0 40 9999 0 106 8647) = some (.inl (some (.int 0)), (hG 40 9999 1 40 9999 0 106 8647)) := by
    refine ev_mc rfl ?_ (ev_finx (by first | rfl | decide +kernel) rfl rfl)
    show ev_run (pg 257) (ev_call mt pg 3000 11) 3000 (0, [(0, .ref 82), (1, .int p0), (2, .int p1)], []) (hG 40 9999 0 40 9999 0 106 8647) = _
    refine st_aload (p' := 1) rfl rfl rfl ?_
    refine st_push (p' := 2) rfl rfl ?_
    refine st_putf (p' := 5) (h' := (hG 40 9999 0 40 9999 0 106 8647)) rfl rfl (hG_m ..) rfl (hG_sm ..) ?_
    refine st_iload (p' := 6) rfl rfl rfl ?_
    have c5 : ev_call mt pg 3000 11 235 [.int p0] (hG 40 9999 0 40 9999 0 106 8647) = some (.inl (some (.int 1)), (hG 40 9999 0 40 9999 0 106 8647)) := by
      refine ev_mc rfl ?_ (ev_finx (by first | rfl | decide +kernel) rfl rfl)
      show ev_run (pg 235) (ev_call mt pg 3000 10) 3000 (0, [(0, .int p0)], []) (hG 40 9999 0 40 9999 0 106 8647) = _
      refine st_iload (p' := 1) rfl rfl rfl ?_
      refine st_push (p' := 2) rfl rfl ?_
      refine st_push (p' := 4) rfl rfl ?_
      have c4 : ev_call mt pg 3000 10 230 [.int p0, .int 0, .int 19] (hG 40 9999 0 40 9999 0 106 8647) = some (.inl (some (.int 1)), (hG 40 9999 0 40 9999 0 106 8647)) := by
        refine ev_mc rfl ?_ (ev_finx (by first | rfl | decide +kernel) rfl rfl)
        show ev_run (pg 230) (ev_call mt pg 3000 9) 3000 (0, [(0, .int p0), (1, .int 0), (2, .int 19)], []) (hG 40 9999 0 40 9999 0 106 8647) = _
        refine st_iload (p' := 1) rfl rfl rfl ?_
        refine st_iload (p' := 2) rfl rfl rfl ?_
        refine st_icF (p' := 5) rfl (q_lt' (by rw [show (0 : Int32).toInt = 0 from by decide]; omega)) rfl ?_
        refine st_iload (p' := 6) rfl rfl rfl ?_
        refine st_iload (p' := 7) rfl rfl rfl ?_
        refine st_icF (p' := 10) rfl (q_lt' (by rw [show (19 : Int32).toInt = 19 from by decide]; omega)) rfl ?_
        refine st_push (p' := 11) rfl rfl ?_
        refine st_goto rfl ?_
        exact st_ret_i rfl
      refine st_inv (p' := 7) (av := [.int p0, .int 0, .int 19]) (s' := [.int 1]) rfl rfl c4 rfl rfl rfl rfl rfl ?_
      exact st_ret_i rfl
    refine st_inv (p' := 9) (av := [.int p0]) (s' := [.int 1]) rfl rfl c5 rfl rfl rfl rfl rfl ?_
    refine st_ifF (p' := 12) rfl (by decide +kernel) rfl ?_
    refine st_iload (p' := 13) rfl rfl rfl ?_
    refine st_push (p' := 14) rfl rfl ?_
    refine st_push (p' := 15) rfl rfl ?_
    have c6 : ev_call mt pg 3000 11 230 [.int p1, .int 0, .int 4] (hG 40 9999 0 40 9999 0 106 8647) = some (.inl (some (.int 0)), (hG 40 9999 0 40 9999 0 106 8647)) := by
      refine ev_mc rfl ?_ (ev_finx (by first | rfl | decide +kernel) rfl rfl)
      show ev_run (pg 230) (ev_call mt pg 3000 10) 3000 (0, [(0, .int p1), (1, .int 0), (2, .int 4)], []) (hG 40 9999 0 40 9999 0 106 8647) = _
      refine st_iload (p' := 1) rfl rfl rfl ?_
      refine st_iload (p' := 2) rfl rfl rfl ?_
      refine st_icF (p' := 5) rfl (q_lt' (by rw [show (0 : Int32).toInt = 0 from by decide]; omega)) rfl ?_
      refine st_iload (p' := 6) rfl rfl rfl ?_
      refine st_iload (p' := 7) rfl rfl rfl ?_
      refine st_icT (p' := 14) rfl (q_lt (by rw [show (4 : Int32).toInt = 4 from by decide]; omega)) rfl ?_
      refine st_push (p' := 15) rfl rfl ?_
      exact st_ret_i rfl
    refine st_inv (p' := 18) (av := [.int p1, .int 0, .int 4]) (s' := [.int 0]) rfl rfl c6 rfl rfl rfl rfl rfl ?_
    refine st_ifT (p' := 30) rfl (by decide +kernel) rfl ?_
    refine st_aload (p' := 31) rfl rfl rfl ?_
    refine st_push (p' := 32) rfl rfl ?_
    have c7 : ev_call mt pg 3000 11 229 [.ref 82, .int 1] (hG 40 9999 0 40 9999 0 106 8647) = some (.inl (some (.int 0)), (hG 40 9999 1 40 9999 0 106 8647)) := by
      refine ev_mc rfl ?_ (ev_finx (by first | rfl | decide +kernel) rfl rfl)
      show ev_run (pg 229) (ev_call mt pg 3000 10) 3000 (0, [(0, .ref 82), (1, .int 1)], []) (hG 40 9999 0 40 9999 0 106 8647) = _
      refine st_aload (p' := 1) rfl rfl rfl ?_
      refine st_iload (p' := 2) rfl rfl rfl ?_
      refine st_putf (p' := 5) (h' := (hG 40 9999 1 40 9999 0 106 8647)) rfl rfl (hG_m ..) rfl (hG_sm ..) ?_
      refine st_push (p' := 6) rfl rfl ?_
      exact st_ret_i rfl
    refine st_inv (p' := 35) (av := [.ref 82, .int 1]) (s' := [.int 0]) rfl rfl c7 rfl rfl (q_recv (hG_m ..)) rfl rfl ?_
    exact st_ret_i rfl
  have c9 : ev_call mt pg 3000 12 228 [.ref 82] (hG 40 9999 1 40 9999 0 106 8647) = some (.inl (some (.int 1)), (hG 40 9999 1 40 9999 0 106 8647)) := by
    refine ev_mc rfl ?_ (ev_finx (by first | rfl | decide +kernel) rfl rfl)
    show ev_run (pg 228) (ev_call mt pg 3000 11) 3000 (0, [(0, .ref 82)], []) (hG 40 9999 1 40 9999 0 106 8647) = _
    refine st_aload (p' := 1) rfl rfl rfl ?_
    refine st_getf (p' := 4) (v := .int 1) rfl rfl (hG_m ..) rfl ?_
    exact st_ret_i rfl
  exact ⟨1, 0, _, _, _, _, c3, hG_m .., c8, hG_m .., c9, (fun h => absurd h (by decide)), Nat.le_of_ble_eq_true rfl, Nat.le_of_ble_eq_true rfl⟩
theorem ag_ofName_5 (p0 p1 : Int32) (l_p0 : 20 ≤ p0.toInt) : agree 305 257 [.ref 0, .int p0, .int p1, .ref 104] [.ref 82, .int p0, .int p1] := by
  have c3 : ev_call mt pg 3000 12 305 [.ref 0, .int p0, .int p1, .ref 104] (hG 40 9999 0 40 9999 0 105 8641) = some (.inl (some (.int 1)), (hG 40 9999 0 40 9999 0 106 8647)) := by
    refine ev_mc rfl ?_ (ev_finx (by first | rfl | decide +kernel) rfl rfl)
    show ev_run (pg 305) (ev_call mt pg 3000 11) 3000 (0, [(0, .ref 0), (1, .int p0), (2, .int p1), (3, .ref 104)], []) (hG 40 9999 0 40 9999 0 105 8641) = _
    refine st_aload (p' := 1) rfl rfl rfl ?_
    refine st_push (p' := 2) rfl rfl ?_
    refine st_aload (p' := 3) rfl rfl rfl ?_
    refine st_iload (p' := 4) rfl rfl rfl ?_
    refine st_iload (p' := 5) rfl rfl rfl ?_
    have c2 : ev_call mt pg 3000 11 174 [.ref 0, .int p0, .int p1] (hG 40 9999 0 40 9999 0 105 8641) = some (.inr "java/lang/IllegalArgumentException", (hG 40 9999 0 40 9999 0 106 8647)) := by
      refine ev_mc rfl ?_ (ev_finX (by decide +kernel) rfl rfl)
      show ev_run (pg 174) (ev_call mt pg 3000 10) 3000 (0, [(0, .ref 0), (1, .int p0), (2, .int p1)], []) (hG 40 9999 0 40 9999 0 105 8641) = _
      refine st_iload (p' := 1) rfl rfl rfl ?_
      have c1 : ev_call mt pg 3000 10 197 [.int p0] (hG 40 9999 0 40 9999 0 105 8641) = some (.inl (some (.int 0)), (hG 40 9999 0 40 9999 0 105 8641)) := by
        refine ev_mc rfl ?_ (ev_finx (by first | rfl | decide +kernel) rfl rfl)
        show ev_run (pg 197) (ev_call mt pg 3000 9) 3000 (0, [(0, .int p0)], []) (hG 40 9999 0 40 9999 0 105 8641) = _
        refine st_iload (p' := 1) rfl rfl rfl ?_
        refine st_ifF (p' := 4) rfl (q_lt' (by rw [show (0 : Int32).toInt = 0 from by decide]; omega)) rfl ?_
        refine st_iload (p' := 5) rfl rfl rfl ?_
        refine st_push (p' := 7) rfl rfl ?_
        refine st_icT (p' := 14) rfl (q_le (by rw [show (20 : Int32).toInt = 20 from by decide]; omega)) rfl ?_
        refine st_push (p' := 15) rfl rfl ?_
        exact st_ret_i rfl
      refine st_inv (p' := 4) (av := [.int p0]) (s' := [.int 0]) rfl rfl c1 rfl rfl rfl rfl rfl ?_
      refine st_ifF (p' := 7) rfl (by decide +kernel) rfl ?_
      exact st_throw rfl rfl rfl
    refine st_invC (p' := 15) (q := 4) (l' := [(0, .ref 0), (1, .int p0), (2, .int p1), (3, .ref 104)]) (av := [.ref 0, .int p0, .int p1]) rfl rfl c2 rfl rfl (q_recv (hG_x ..)) (by decide +kernel) rfl ?_
    refine st_push (p' := 16) rfl rfl ?_
    exact st_ret_i rfl
  have c7 : ev_call mt pg 3000 12 257 [.ref 82, .int p0, .int p1] (hG 40 9999 0 40 9999 0 106 8647) = some (.inl (some (.int 0)), (hG 40 9999 1 40 9999 0 106 8647)) := by
    refine ev_mc rfl ?_ (ev_finx (by first | rfl | decide +kernel) rfl rfl)
    show ev_run (pg 257) (ev_call mt pg 3000 11) 3000 (0, [(0, .ref 82), (1, .int p0), (2, .int p1)], []) (hG 40 9999 0 40 9999 0 106 8647) = _
    refine st_aload (p' := 1) rfl rfl rfl ?_
    refine st_push (p' := 2) rfl rfl ?_
    refine st_putf (p' := 5) (h' := (hG 40 9999 0 40 9999 0 106 8647)) rfl rfl (hG_m ..) rfl (hG_sm ..) ?_
    refine st_iload (p' := 6) rfl rfl rfl ?_
    have c5 : ev_call mt pg 3000 11 235 [.int p0] (hG 40 9999 0 40 9999 0 106 8647) = some (.inl (some (.int 0)), (hG 40 9999 0 40 9999 0 106 8647)) := by
      refine ev_mc rfl ?_ (ev_finx (by first | rfl | decide +kernel) rfl rfl)
      show ev_run (pg 235) (ev_call mt pg 3000 10) 3000 (0, [(0, .int p0)], []) (hG 40 9999 0 40 9999 0 106 8647) = _
      refine st_iload (p' := 1) rfl rfl rfl ?_
      refine st_push (p' := 2) rfl rfl ?_
      refine st_push (p' := 4) rfl rfl ?_
      have c4 : ev_call mt pg 3000 10 230 [.int p0, .int 0, .int 19] (hG 40 9999 0 40 9999 0 106 8647) = some (.inl (some (.int 0)), (hG 40 9999 0 40 9999 0 106 8647)) := by
        refine ev_mc rfl ?_ (ev_finx (by first | rfl | decide +kernel) rfl rfl)
        show ev_run (pg 230) (ev_call mt pg 3000 9) 3000 (0, [(0, .int p0), (1, .int 0), (2, .int 19)], []) (hG 40 9999 0 40 9999 0 106 8647) = _
        refine st_iload (p' := 1) rfl rfl rfl ?_
        refine st_iload (p' := 2) rfl rfl rfl ?_
        refine st_icF (p' := 5) rfl (q_lt' (by rw [show (0 : Int32).toInt = 0 from by decide]; omega)) rfl ?_
        refine st_iload (p' := 6) rfl rfl rfl ?_
        refine st_iload (p' := 7) rfl rfl rfl ?_
        refine st_icT (p' := 14) rfl (q_lt (by rw [show (19 : Int32).toInt = 19 from by decide]; omega)) rfl ?_
        refine st_push (p' := 15) rfl rfl ?_
        exact st_ret_i rfl
      refine st_inv (p' := 7) (av := [.int p0, .int 0, .int 19]) (s' := [.int 0]) rfl rfl c4 rfl rfl rfl rfl rfl ?_
      exact st_ret_i rfl
    refine st_inv (p' := 9) (av := [.int p0]) (s' := [.int 0]) rfl rfl c5 rfl rfl rfl rfl rfl ?_
    refine st_ifT (p' := 30) rfl (by decide +kernel) rfl ?_
    refine st_aload (p' := 31) rfl rfl rfl ?_
    refine st_push (p' := 32) rfl rfl ?_
    have c6 : ev_call mt pg 3000 11 229 [.ref 82, .int 1] (hG 40 9999 0 40 9999 0 106 8647) = some (.inl (some (.int 0)), (hG 40 9999 1 40 9999 0 106 8647)) := by
      refine ev_mc rfl ?_ (ev_finx (by first | rfl | decide +kernel) rfl rfl)
      show ev_run (pg 229) (ev_call mt pg 3000 10) 3000 (0, [(0, .ref 82), (1, .int 1)], []) (hG 40 9999 0 40 9999 0 106 8647) = _
      refine st_aload (p' := 1) rfl rfl rfl ?_
      refine st_iload (p' := 2) rfl rfl rfl ?_
      refine st_putf (p' := 5) (h' := (hG 40 9999 1 40 9999 0 106 8647)) rfl rfl (hG_m ..) rfl (hG_sm ..) ?_
      refine st_push (p' := 6) rfl rfl ?_
      exact st_ret_i rfl
    refine st_inv (p' := 35) (av := [.ref 82, .int 1]) (s' := [.int 0]) rfl rfl c6 rfl rfl (q_recv (hG_m ..)) rfl rfl ?_
    exact st_ret_i rfl
  have c8 : ev_call mt pg 3000 12 228 [.ref 82] (hG 40 9999 1 40 9999 0 106 8647) = some (.inl (some (.int 1)), (hG 40 9999 1 40 9999 0 106 8647)) := by
    refine ev_mc rfl ?_ (ev_finx (by first | rfl | decide +kernel) rfl rfl)
    show ev_run (pg 228) (ev_call mt pg 3000 11) 3000 (0, [(0, .ref 82)], []) (hG 40 9999 1 40 9999 0 106 8647) = _
    refine st_aload (p' := 1) rfl rfl rfl ?_
    refine st_getf (p' := 4) (v := .int 1) rfl rfl (hG_m ..) rfl ?_
    exact st_ret_i rfl
  exact ⟨1, 0, _, _, _, _, c3, hG_m .., c7, hG_m .., c8, (fun h => absurd h (by decide)), Nat.le_of_ble_eq_true rfl, Nat.le_of_ble_eq_true rfl⟩
theorem ag_ofName (p0 p1 : Int32)  : agree 305 257 [.ref 0, .int p0, .int p1, .ref 104] [.ref 82, .int p0, .int p1] := by
  rcases Int.lt_or_le p0.toInt 0 with h | h
  · exact ag_ofName_1 p0 p1 (by omega)
  · rcases Int.lt_or_le p0.toInt 20 with h | h
    · rcases Int.lt_or_le p1.toInt 0 with h | h
      · exact ag_ofName_2 p0 p1 (by omega) (by omega) (by omega)
      · rcases Int.lt_or_le p1.toInt 5 with h | h
        · exact ag_ofName_3 p0 p1 (by omega) (by omega) (by omega) (by omega)
        · exact ag_ofName_4 p0 p1 (by omega) (by omega) (by omega)
    · exact ag_ofName_5 p0 p1 (by omega)
theorem ag_fault_1 (p0 p1 : Int32) (u_p0 : p0.toInt ≤ -1) : agree 306 258 [.ref 0, .int p0, .int p1, .ref 104] [.ref 82, .int p0, .int p1] := by
  have c2 : ev_call mt pg 3000 12 306 [.ref 0, .int p0, .int p1, .ref 104] (hG 40 9999 0 40 9999 0 105 8641) = some (.inl (some (.int 1)), (hG 40 9999 0 40 9999 0 106 8647)) := by
    refine ev_mc rfl ?_ (ev_finx (by first | rfl | decide +kernel) rfl rfl)
    show ev_run (pg 306) (ev_call mt pg 3000 11) 3000 (0, [(0, .ref 0), (1, .int p0), (2, .int p1), (3, .ref 104)], []) (hG 40 9999 0 40 9999 0 105 8641) = _
    refine st_aload (p' := 1) rfl rfl rfl ?_
    refine st_push (p' := 2) rfl rfl ?_
    refine st_aload (p' := 3) rfl rfl rfl ?_
    refine st_iload (p' := 4) rfl rfl rfl ?_
    refine st_iload (p' := 5) rfl rfl rfl ?_
    have c1 : ev_call mt pg 3000 11 175 [.ref 0, .int p0, .int p1] (hG 40 9999 0 40 9999 0 105 8641) = some (.inr "java/lang/IndexOutOfBoundsException", (hG 40 9999 0 40 9999 0 106 8647)) := by
      refine ev_mc rfl ?_ (ev_finX (by decide +kernel) rfl rfl)
      show ev_run (pg 175) (ev_call mt pg 3000 10) 3000 (0, [(0, .ref 0), (1, .int p0), (2, .int p1)], []) (hG 40 9999 0 40 9999 0 105 8641) = _
      refine st_iload (p' := 1) rfl rfl rfl ?_
      refine st_ifT (p' := 18) rfl (q_lt (by rw [show (0 : Int32).toInt = 0 from by decide]; omega)) rfl ?_
      exact st_throw rfl rfl rfl
    refine st_invC (p' := 15) (q := 4) (l' := [(0, .ref 0), (1, .int p0), (2, .int p1), (3, .ref 104)]) (av := [.ref 0, .int p0, .int p1]) rfl rfl c1 rfl rfl (q_recv (hG_x ..)) (by decide +kernel) rfl ?_
    refine st_push (p' := 16) rfl rfl ?_
    exact st_ret_i rfl
  have c4 : ev_call mt pg 3000 12 258 [.ref 82, .int p0, .int p1] (hG 40 9999 0 40 9999 0 106 8647) = some (.inl (some (.int 0)), (hG 40 9999 1 40 9999 0 106 8647)) := by
    refine ev_mc rfl ?_ (ev_finx (by first | rfl | decide +kernel) rfl rfl)
    show ev_run (pg 258) (ev_call mt pg 3000 11) 3000 (0, [(0, .ref 82), (1, .int p0), (2, .int p1)], []) (hG 40 9999 0 40 9999 0 106 8647) = _
    refine st_aload (p' := 1) rfl rfl rfl ?_
    refine st_push (p' := 2) rfl rfl ?_
    refine st_putf (p' := 5) (h' := (hG 40 9999 0 40 9999 0 106 8647)) rfl rfl (hG_m ..) rfl (hG_sm ..) ?_
    refine st_aload (p' := 6) rfl rfl rfl ?_
    refine st_getf (p' := 9) (v := .int 0) rfl rfl (hG_m ..) rfl ?_
    refine st_ifT (p' := 29) rfl (by decide +kernel) rfl ?_
    refine st_aload (p' := 30) rfl rfl rfl ?_
    refine st_push (p' := 31) rfl rfl ?_
    have c3 : ev_call mt pg 3000 11 229 [.ref 82, .int 1] (hG 40 9999 0 40 9999 0 106 8647) = some (.inl (some (.int 0)), (hG 40 9999 1 40 9999 0 106 8647)) := by
      refine ev_mc rfl ?_ (ev_finx (by first | rfl | decide +kernel) rfl rfl)
      show ev_run (pg 229) (ev_call mt pg 3000 10) 3000 (0, [(0, .ref 82), (1, .int 1)], []) (hG 40 9999 0 40 9999 0 106 8647) = _
      refine st_aload (p' := 1) rfl rfl rfl ?_
      refine st_iload (p' := 2) rfl rfl rfl ?_
      refine st_putf (p' := 5) (h' := (hG 40 9999 1 40 9999 0 106 8647)) rfl rfl (hG_m ..) rfl (hG_sm ..) ?_
      refine st_push (p' := 6) rfl rfl ?_
      exact st_ret_i rfl
    refine st_inv (p' := 34) (av := [.ref 82, .int 1]) (s' := [.int 0]) rfl rfl c3 rfl rfl (q_recv (hG_m ..)) rfl rfl ?_
    exact st_ret_i rfl
  have c5 : ev_call mt pg 3000 12 228 [.ref 82] (hG 40 9999 1 40 9999 0 106 8647) = some (.inl (some (.int 1)), (hG 40 9999 1 40 9999 0 106 8647)) := by
    refine ev_mc rfl ?_ (ev_finx (by first | rfl | decide +kernel) rfl rfl)
    show ev_run (pg 228) (ev_call mt pg 3000 11) 3000 (0, [(0, .ref 82)], []) (hG 40 9999 1 40 9999 0 106 8647) = _
    refine st_aload (p' := 1) rfl rfl rfl ?_
    refine st_getf (p' := 4) (v := .int 1) rfl rfl (hG_m ..) rfl ?_
    exact st_ret_i rfl
  exact ⟨1, 0, _, _, _, _, c2, hG_m .., c4, hG_m .., c5, (fun h => absurd h (by decide)), Nat.le_of_ble_eq_true rfl, Nat.le_of_ble_eq_true rfl⟩
theorem hG_c38 (a b c d e : Int32) (o : Int64) (k n : Nat) : (hG a b c d e o k n).1[38]? = some (.inr 5, [.ref 11, .ref 41, .ref 43, .ref 50, .ref 53, .ref 39, .int 0, .int 0, .int 0]) := rfl
theorem hG_c39 (a b c d e : Int32) (o : Int64) (k n : Nat) : (hG a b c d e o k n).1[39]? = some (.inr 0, [.ref 40, .int 0]) := rfl
theorem ag_fault_2 (p0 p1 : Int32) (l_p0 : 0 ≤ p0.toInt) : agree 306 258 [.ref 0, .int p0, .int p1, .ref 104] [.ref 82, .int p0, .int p1] := by
  have c3 : ev_call mt pg 3000 12 306 [.ref 0, .int p0, .int p1, .ref 104] (hG 40 9999 0 40 9999 0 105 8641) = some (.inl (some (.int 1)), (hG 40 9999 0 40 9999 0 106 8647)) := by
    refine ev_mc rfl ?_ (ev_finx (by first | rfl | decide +kernel) rfl rfl)
    show ev_run (pg 306) (ev_call mt pg 3000 11) 3000 (0, [(0, .ref 0), (1, .int p0), (2, .int p1), (3, .ref 104)], []) (hG 40 9999 0 40 9999 0 105 8641) = _
    refine st_aload (p' := 1) rfl rfl rfl ?_
    refine st_push (p' := 2) rfl rfl ?_
    refine st_aload (p' := 3) rfl rfl rfl ?_
    refine st_iload (p' := 4) rfl rfl rfl ?_
    refine st_iload (p' := 5) rfl rfl rfl ?_
    have c2 : ev_call mt pg 3000 11 175 [.ref 0, .int p0, .int p1] (hG 40 9999 0 40 9999 0 105 8641) = some (.inr "java/lang/IndexOutOfBoundsException", (hG 40 9999 0 40 9999 0 106 8647)) := by
      refine ev_mc rfl ?_ (ev_finX (by decide +kernel) rfl rfl)
      show ev_run (pg 175) (ev_call mt pg 3000 10) 3000 (0, [(0, .ref 0), (1, .int p0), (2, .int p1)], []) (hG 40 9999 0 40 9999 0 105 8641) = _
      refine st_iload (p' := 1) rfl rfl rfl ?_
      refine st_ifF (p' := 4) rfl (q_lt' (by rw [show (0 : Int32).toInt = 0 from by decide]; omega)) rfl ?_
      refine st_iload (p' := 5) rfl rfl rfl ?_
      refine st_aload (p' := 6) rfl rfl rfl ?_
      refine st_getf (p' := 9) (v := .ref 38) rfl rfl (hG_x ..) rfl ?_
      refine st_getf (p' := 12) (v := .ref 39) rfl rfl (hG_c38 ..) rfl ?_
      have c1 : ev_call mt pg 3000 10 1 [.ref 39] (hG 40 9999 0 40 9999 0 105 8641) = some (.inl (some (.int 0)), (hG 40 9999 0 40 9999 0 105 8641)) := by
        refine ev_mc rfl ?_ (ev_finx (by first | rfl | decide +kernel) rfl rfl)
        show ev_run (pg 1) (ev_call mt pg 3000 9) 3000 (0, [(0, .ref 39)], []) (hG 40 9999 0 40 9999 0 105 8641) = _
        refine st_aload (p' := 1) rfl rfl rfl ?_
        refine st_getf (p' := 4) (v := .int 0) rfl rfl (hG_c39 ..) rfl ?_
        exact st_ret_i rfl
      refine st_inv (p' := 15) (av := [.ref 39]) (s' := [.int 0, .int p0]) rfl rfl c1 rfl rfl (q_recv (hG_c39 ..)) rfl rfl ?_
      refine st_icF (p' := 18) rfl (q_lt' (by rw [show (0 : Int32).toInt = 0 from by decide]; omega)) rfl ?_
      exact st_throw rfl rfl rfl
    refine st_invC (p' := 15) (q := 4) (l' := [(0, .ref 0), (1, .int p0), (2, .int p1), (3, .ref 104)]) (av := [.ref 0, .int p0, .int p1]) rfl rfl c2 rfl rfl (q_recv (hG_x ..)) (by decide +kernel) rfl ?_
    refine st_push (p' := 16) rfl rfl ?_
    exact st_ret_i rfl
  have c5 : ev_call mt pg 3000 12 258 [.ref 82, .int p0, .int p1] (hG 40 9999 0 40 9999 0 106 8647) = some (.inl (some (.int 0)), (hG 40 9999 1 40 9999 0 106 8647)) := by
    refine ev_mc rfl ?_ (ev_finx (by first | rfl | decide +kernel) rfl rfl)
    show ev_run (pg 258) (ev_call mt pg 3000 11) 3000 (0, [(0, .ref 82), (1, .int p0), (2, .int p1)], []) (hG 40 9999 0 40 9999 0 106 8647) = _
    refine st_aload (p' := 1) rfl rfl rfl ?_
    refine st_push (p' := 2) rfl rfl ?_
    refine st_putf (p' := 5) (h' := (hG 40 9999 0 40 9999 0 106 8647)) rfl rfl (hG_m ..) rfl (hG_sm ..) ?_
    refine st_aload (p' := 6) rfl rfl rfl ?_
    refine st_getf (p' := 9) (v := .int 0) rfl rfl (hG_m ..) rfl ?_
    refine st_ifT (p' := 29) rfl (by decide +kernel) rfl ?_
    refine st_aload (p' := 30) rfl rfl rfl ?_
    refine st_push (p' := 31) rfl rfl ?_
    have c4 : ev_call mt pg 3000 11 229 [.ref 82, .int 1] (hG 40 9999 0 40 9999 0 106 8647) = some (.inl (some (.int 0)), (hG 40 9999 1 40 9999 0 106 8647)) := by
      refine ev_mc rfl ?_ (ev_finx (by first | rfl | decide +kernel) rfl rfl)
      show ev_run (pg 229) (ev_call mt pg 3000 10) 3000 (0, [(0, .ref 82), (1, .int 1)], []) (hG 40 9999 0 40 9999 0 106 8647) = _
      refine st_aload (p' := 1) rfl rfl rfl ?_
      refine st_iload (p' := 2) rfl rfl rfl ?_
      refine st_putf (p' := 5) (h' := (hG 40 9999 1 40 9999 0 106 8647)) rfl rfl (hG_m ..) rfl (hG_sm ..) ?_
      refine st_push (p' := 6) rfl rfl ?_
      exact st_ret_i rfl
    refine st_inv (p' := 34) (av := [.ref 82, .int 1]) (s' := [.int 0]) rfl rfl c4 rfl rfl (q_recv (hG_m ..)) rfl rfl ?_
    exact st_ret_i rfl
  have c6 : ev_call mt pg 3000 12 228 [.ref 82] (hG 40 9999 1 40 9999 0 106 8647) = some (.inl (some (.int 1)), (hG 40 9999 1 40 9999 0 106 8647)) := by
    refine ev_mc rfl ?_ (ev_finx (by first | rfl | decide +kernel) rfl rfl)
    show ev_run (pg 228) (ev_call mt pg 3000 11) 3000 (0, [(0, .ref 82)], []) (hG 40 9999 1 40 9999 0 106 8647) = _
    refine st_aload (p' := 1) rfl rfl rfl ?_
    refine st_getf (p' := 4) (v := .int 1) rfl rfl (hG_m ..) rfl ?_
    exact st_ret_i rfl
  exact ⟨1, 0, _, _, _, _, c3, hG_m .., c5, hG_m .., c6, (fun h => absurd h (by decide)), Nat.le_of_ble_eq_true rfl, Nat.le_of_ble_eq_true rfl⟩
theorem ag_fault (p0 p1 : Int32)  : agree 306 258 [.ref 0, .int p0, .int p1, .ref 104] [.ref 82, .int p0, .int p1] := by
  rcases Int.lt_or_le p0.toInt 0 with h | h
  · exact ag_fault_1 p0 p1 (by omega)
  · exact ag_fault_2 p0 p1 (by omega)
theorem ag_wordAt_1 (p0 : Int32) (u_p0 : p0.toInt ≤ -1) : agree 307 259 [.ref 0, .int p0, .ref 104] [.ref 82, .int p0] := by
  have c2 : ev_call mt pg 3000 12 307 [.ref 0, .int p0, .ref 104] (hG 40 9999 0 40 9999 0 105 8641) = some (.inl (some (.int 1)), (hG 40 9999 0 40 9999 0 106 8647)) := by
    refine ev_mc rfl ?_ (ev_finx (by first | rfl | decide +kernel) rfl rfl)
    show ev_run (pg 307) (ev_call mt pg 3000 11) 3000 (0, [(0, .ref 0), (1, .int p0), (2, .ref 104)], []) (hG 40 9999 0 40 9999 0 105 8641) = _
    refine st_aload (p' := 1) rfl rfl rfl ?_
    refine st_push (p' := 2) rfl rfl ?_
    refine st_aload (p' := 3) rfl rfl rfl ?_
    refine st_iload (p' := 4) rfl rfl rfl ?_
    have c1 : ev_call mt pg 3000 11 176 [.ref 0, .int p0] (hG 40 9999 0 40 9999 0 105 8641) = some (.inr "java/lang/IndexOutOfBoundsException", (hG 40 9999 0 40 9999 0 106 8647)) := by
      refine ev_mc rfl ?_ (ev_finX (by decide +kernel) rfl rfl)
      show ev_run (pg 176) (ev_call mt pg 3000 10) 3000 (0, [(0, .ref 0), (1, .int p0)], []) (hG 40 9999 0 40 9999 0 105 8641) = _
      refine st_iload (p' := 1) rfl rfl rfl ?_
      refine st_ifT (p' := 18) rfl (q_lt (by rw [show (0 : Int32).toInt = 0 from by decide]; omega)) rfl ?_
      exact st_throw rfl rfl rfl
    refine st_invC (p' := 13) (q := 3) (l' := [(0, .ref 0), (1, .int p0), (2, .ref 104)]) (av := [.ref 0, .int p0]) rfl rfl c1 rfl rfl (q_recv (hG_x ..)) (by decide +kernel) rfl ?_
    refine st_push (p' := 14) rfl rfl ?_
    exact st_ret_i rfl
  have c4 : ev_call mt pg 3000 12 259 [.ref 82, .int p0] (hG 40 9999 0 40 9999 0 106 8647) = some (.inl (some (.int 0)), (hG 40 9999 1 40 9999 0 106 8647)) := by
    refine ev_mc rfl ?_ (ev_finx (by first | rfl | decide +kernel) rfl rfl)
    show ev_run (pg 259) (ev_call mt pg 3000 11) 3000 (0, [(0, .ref 82), (1, .int p0)], []) (hG 40 9999 0 40 9999 0 106 8647) = _
    refine st_aload (p' := 1) rfl rfl rfl ?_
    refine st_push (p' := 2) rfl rfl ?_
    refine st_putf (p' := 5) (h' := (hG 40 9999 0 40 9999 0 106 8647)) rfl rfl (hG_m ..) rfl (hG_sm ..) ?_
    refine st_aload (p' := 6) rfl rfl rfl ?_
    refine st_getf (p' := 9) (v := .int 0) rfl rfl (hG_m ..) rfl ?_
    refine st_ifT (p' := 41) rfl (by decide +kernel) rfl ?_
    refine st_aload (p' := 42) rfl rfl rfl ?_
    refine st_push (p' := 43) rfl rfl ?_
    have c3 : ev_call mt pg 3000 11 229 [.ref 82, .int 1] (hG 40 9999 0 40 9999 0 106 8647) = some (.inl (some (.int 0)), (hG 40 9999 1 40 9999 0 106 8647)) := by
      refine ev_mc rfl ?_ (ev_finx (by first | rfl | decide +kernel) rfl rfl)
      show ev_run (pg 229) (ev_call mt pg 3000 10) 3000 (0, [(0, .ref 82), (1, .int 1)], []) (hG 40 9999 0 40 9999 0 106 8647) = _
      refine st_aload (p' := 1) rfl rfl rfl ?_
      refine st_iload (p' := 2) rfl rfl rfl ?_
      refine st_putf (p' := 5) (h' := (hG 40 9999 1 40 9999 0 106 8647)) rfl rfl (hG_m ..) rfl (hG_sm ..) ?_
      refine st_push (p' := 6) rfl rfl ?_
      exact st_ret_i rfl
    refine st_inv (p' := 46) (av := [.ref 82, .int 1]) (s' := [.int 0]) rfl rfl c3 rfl rfl (q_recv (hG_m ..)) rfl rfl ?_
    exact st_ret_i rfl
  have c5 : ev_call mt pg 3000 12 228 [.ref 82] (hG 40 9999 1 40 9999 0 106 8647) = some (.inl (some (.int 1)), (hG 40 9999 1 40 9999 0 106 8647)) := by
    refine ev_mc rfl ?_ (ev_finx (by first | rfl | decide +kernel) rfl rfl)
    show ev_run (pg 228) (ev_call mt pg 3000 11) 3000 (0, [(0, .ref 82)], []) (hG 40 9999 1 40 9999 0 106 8647) = _
    refine st_aload (p' := 1) rfl rfl rfl ?_
    refine st_getf (p' := 4) (v := .int 1) rfl rfl (hG_m ..) rfl ?_
    exact st_ret_i rfl
  exact ⟨1, 0, _, _, _, _, c2, hG_m .., c4, hG_m .., c5, (fun h => absurd h (by decide)), Nat.le_of_ble_eq_true rfl, Nat.le_of_ble_eq_true rfl⟩
theorem hG_c53 (a b c d e : Int32) (o : Int64) (k n : Nat) : (hG a b c d e o k n).1[53]? = some (.inr 3, [.ref 11, .ref 41, .ref 43, .ref 50, .ref 54, .int 0, .ref 55, .ref 56, .ref 57, .ref 58, .ref 59, .int 0, .int 0]) := rfl
theorem ag_wordAt_2 (p0 : Int32) (l_p0 : 0 ≤ p0.toInt) : agree 307 259 [.ref 0, .int p0, .ref 104] [.ref 82, .int p0] := by
  have c3 : ev_call mt pg 3000 12 307 [.ref 0, .int p0, .ref 104] (hG 40 9999 0 40 9999 0 105 8641) = some (.inl (some (.int 1)), (hG 40 9999 0 40 9999 0 106 8647)) := by
    refine ev_mc rfl ?_ (ev_finx (by first | rfl | decide +kernel) rfl rfl)
    show ev_run (pg 307) (ev_call mt pg 3000 11) 3000 (0, [(0, .ref 0), (1, .int p0), (2, .ref 104)], []) (hG 40 9999 0 40 9999 0 105 8641) = _
    refine st_aload (p' := 1) rfl rfl rfl ?_
    refine st_push (p' := 2) rfl rfl ?_
    refine st_aload (p' := 3) rfl rfl rfl ?_
    refine st_iload (p' := 4) rfl rfl rfl ?_
    have c2 : ev_call mt pg 3000 11 176 [.ref 0, .int p0] (hG 40 9999 0 40 9999 0 105 8641) = some (.inr "java/lang/IndexOutOfBoundsException", (hG 40 9999 0 40 9999 0 106 8647)) := by
      refine ev_mc rfl ?_ (ev_finX (by decide +kernel) rfl rfl)
      show ev_run (pg 176) (ev_call mt pg 3000 10) 3000 (0, [(0, .ref 0), (1, .int p0)], []) (hG 40 9999 0 40 9999 0 105 8641) = _
      refine st_iload (p' := 1) rfl rfl rfl ?_
      refine st_ifF (p' := 4) rfl (q_lt' (by rw [show (0 : Int32).toInt = 0 from by decide]; omega)) rfl ?_
      refine st_iload (p' := 5) rfl rfl rfl ?_
      refine st_aload (p' := 6) rfl rfl rfl ?_
      refine st_getf (p' := 9) (v := .ref 38) rfl rfl (hG_x ..) rfl ?_
      refine st_getf (p' := 12) (v := .ref 53) rfl rfl (hG_c38 ..) rfl ?_
      have c1 : ev_call mt pg 3000 10 21 [.ref 53] (hG 40 9999 0 40 9999 0 105 8641) = some (.inl (some (.int 0)), (hG 40 9999 0 40 9999 0 105 8641)) := by
        refine ev_mc rfl ?_ (ev_finx (by first | rfl | decide +kernel) rfl rfl)
        show ev_run (pg 21) (ev_call mt pg 3000 9) 3000 (0, [(0, .ref 53)], []) (hG 40 9999 0 40 9999 0 105 8641) = _
        refine st_aload (p' := 1) rfl rfl rfl ?_
        refine st_getf (p' := 4) (v := .int 0) rfl rfl (hG_c53 ..) rfl ?_
        exact st_ret_i rfl
      refine st_inv (p' := 15) (av := [.ref 53]) (s' := [.int 0, .int p0]) rfl rfl c1 rfl rfl (q_recv (hG_c53 ..)) rfl rfl ?_
      refine st_icF (p' := 18) rfl (q_lt' (by rw [show (0 : Int32).toInt = 0 from by decide]; omega)) rfl ?_
      exact st_throw rfl rfl rfl
    refine st_invC (p' := 13) (q := 3) (l' := [(0, .ref 0), (1, .int p0), (2, .ref 104)]) (av := [.ref 0, .int p0]) rfl rfl c2 rfl rfl (q_recv (hG_x ..)) (by decide +kernel) rfl ?_
    refine st_push (p' := 14) rfl rfl ?_
    exact st_ret_i rfl
  have c5 : ev_call mt pg 3000 12 259 [.ref 82, .int p0] (hG 40 9999 0 40 9999 0 106 8647) = some (.inl (some (.int 0)), (hG 40 9999 1 40 9999 0 106 8647)) := by
    refine ev_mc rfl ?_ (ev_finx (by first | rfl | decide +kernel) rfl rfl)
    show ev_run (pg 259) (ev_call mt pg 3000 11) 3000 (0, [(0, .ref 82), (1, .int p0)], []) (hG 40 9999 0 40 9999 0 106 8647) = _
    refine st_aload (p' := 1) rfl rfl rfl ?_
    refine st_push (p' := 2) rfl rfl ?_
    refine st_putf (p' := 5) (h' := (hG 40 9999 0 40 9999 0 106 8647)) rfl rfl (hG_m ..) rfl (hG_sm ..) ?_
    refine st_aload (p' := 6) rfl rfl rfl ?_
    refine st_getf (p' := 9) (v := .int 0) rfl rfl (hG_m ..) rfl ?_
    refine st_ifT (p' := 41) rfl (by decide +kernel) rfl ?_
    refine st_aload (p' := 42) rfl rfl rfl ?_
    refine st_push (p' := 43) rfl rfl ?_
    have c4 : ev_call mt pg 3000 11 229 [.ref 82, .int 1] (hG 40 9999 0 40 9999 0 106 8647) = some (.inl (some (.int 0)), (hG 40 9999 1 40 9999 0 106 8647)) := by
      refine ev_mc rfl ?_ (ev_finx (by first | rfl | decide +kernel) rfl rfl)
      show ev_run (pg 229) (ev_call mt pg 3000 10) 3000 (0, [(0, .ref 82), (1, .int 1)], []) (hG 40 9999 0 40 9999 0 106 8647) = _
      refine st_aload (p' := 1) rfl rfl rfl ?_
      refine st_iload (p' := 2) rfl rfl rfl ?_
      refine st_putf (p' := 5) (h' := (hG 40 9999 1 40 9999 0 106 8647)) rfl rfl (hG_m ..) rfl (hG_sm ..) ?_
      refine st_push (p' := 6) rfl rfl ?_
      exact st_ret_i rfl
    refine st_inv (p' := 46) (av := [.ref 82, .int 1]) (s' := [.int 0]) rfl rfl c4 rfl rfl (q_recv (hG_m ..)) rfl rfl ?_
    exact st_ret_i rfl
  have c6 : ev_call mt pg 3000 12 228 [.ref 82] (hG 40 9999 1 40 9999 0 106 8647) = some (.inl (some (.int 1)), (hG 40 9999 1 40 9999 0 106 8647)) := by
    refine ev_mc rfl ?_ (ev_finx (by first | rfl | decide +kernel) rfl rfl)
    show ev_run (pg 228) (ev_call mt pg 3000 11) 3000 (0, [(0, .ref 82)], []) (hG 40 9999 1 40 9999 0 106 8647) = _
    refine st_aload (p' := 1) rfl rfl rfl ?_
    refine st_getf (p' := 4) (v := .int 1) rfl rfl (hG_m ..) rfl ?_
    exact st_ret_i rfl
  exact ⟨1, 0, _, _, _, _, c3, hG_m .., c5, hG_m .., c6, (fun h => absurd h (by decide)), Nat.le_of_ble_eq_true rfl, Nat.le_of_ble_eq_true rfl⟩
theorem ag_wordAt (p0 : Int32)  : agree 307 259 [.ref 0, .int p0, .ref 104] [.ref 82, .int p0] := by
  rcases Int.lt_or_le p0.toInt 0 with h | h
  · exact ag_wordAt_1 p0 (by omega)
  · exact ag_wordAt_2 p0 (by omega)
theorem ag_publish_1 (p0 : Int32) (u_p0 : p0.toInt ≤ -1) : agree 308 262 [.ref 0, .int p0, .ref 104] [.ref 82, .int p0] := by
  have c2 : ev_call mt pg 3000 12 308 [.ref 0, .int p0, .ref 104] (hG 40 9999 0 40 9999 0 105 8641) = some (.inl (some (.int 1)), (hG 40 9999 0 40 9999 0 106 8647)) := by
    refine ev_mc rfl ?_ (ev_finx (by first | rfl | decide +kernel) rfl rfl)
    show ev_run (pg 308) (ev_call mt pg 3000 11) 3000 (0, [(0, .ref 0), (1, .int p0), (2, .ref 104)], []) (hG 40 9999 0 40 9999 0 105 8641) = _
    refine st_aload (p' := 1) rfl rfl rfl ?_
    refine st_push (p' := 2) rfl rfl ?_
    refine st_aload (p' := 3) rfl rfl rfl ?_
    refine st_iload (p' := 4) rfl rfl rfl ?_
    have c1 : ev_call mt pg 3000 11 177 [.ref 0, .int p0] (hG 40 9999 0 40 9999 0 105 8641) = some (.inr "java/lang/IllegalArgumentException", (hG 40 9999 0 40 9999 0 106 8647)) := by
      refine ev_mc rfl ?_ (ev_finX (by decide +kernel) rfl rfl)
      show ev_run (pg 177) (ev_call mt pg 3000 10) 3000 (0, [(0, .ref 0), (1, .int p0)], []) (hG 40 9999 0 40 9999 0 105 8641) = _
      refine st_iload (p' := 1) rfl rfl rfl ?_
      refine st_ifT (p' := 24) rfl (q_lt (by rw [show (0 : Int32).toInt = 0 from by decide]; omega)) rfl ?_
      exact st_throw rfl rfl rfl
    refine st_invC (p' := 13) (q := 3) (l' := [(0, .ref 0), (1, .int p0), (2, .ref 104)]) (av := [.ref 0, .int p0]) rfl rfl c1 rfl rfl (q_recv (hG_x ..)) (by decide +kernel) rfl ?_
    refine st_push (p' := 14) rfl rfl ?_
    exact st_ret_i rfl
  have c5 : ev_call mt pg 3000 12 262 [.ref 82, .int p0] (hG 40 9999 0 40 9999 0 106 8647) = some (.inl (some (.int 0)), (hG 40 9999 1 40 9999 0 106 8647)) := by
    refine ev_mc rfl ?_ (ev_finx (by first | rfl | decide +kernel) rfl rfl)
    show ev_run (pg 262) (ev_call mt pg 3000 11) 3000 (0, [(0, .ref 82), (1, .int p0)], []) (hG 40 9999 0 40 9999 0 106 8647) = _
    refine st_aload (p' := 1) rfl rfl rfl ?_
    refine st_push (p' := 2) rfl rfl ?_
    refine st_putf (p' := 5) (h' := (hG 40 9999 0 40 9999 0 106 8647)) rfl rfl (hG_m ..) rfl (hG_sm ..) ?_
    refine st_iload (p' := 6) rfl rfl rfl ?_
    refine st_push (p' := 7) rfl rfl ?_
    refine st_push (p' := 9) rfl rfl ?_
    have c3 : ev_call mt pg 3000 11 230 [.int p0, .int 0, .int 63] (hG 40 9999 0 40 9999 0 106 8647) = some (.inl (some (.int 0)), (hG 40 9999 0 40 9999 0 106 8647)) := by
      refine ev_mc rfl ?_ (ev_finx (by first | rfl | decide +kernel) rfl rfl)
      show ev_run (pg 230) (ev_call mt pg 3000 10) 3000 (0, [(0, .int p0), (1, .int 0), (2, .int 63)], []) (hG 40 9999 0 40 9999 0 106 8647) = _
      refine st_iload (p' := 1) rfl rfl rfl ?_
      refine st_iload (p' := 2) rfl rfl rfl ?_
      refine st_icT (p' := 14) rfl (q_lt (by rw [show (0 : Int32).toInt = 0 from by decide]; omega)) rfl ?_
      refine st_push (p' := 15) rfl rfl ?_
      exact st_ret_i rfl
    refine st_inv (p' := 12) (av := [.int p0, .int 0, .int 63]) (s' := [.int 0]) rfl rfl c3 rfl rfl rfl rfl rfl ?_
    refine st_ifT (p' := 35) rfl (by decide +kernel) rfl ?_
    refine st_aload (p' := 36) rfl rfl rfl ?_
    refine st_push (p' := 37) rfl rfl ?_
    have c4 : ev_call mt pg 3000 11 229 [.ref 82, .int 1] (hG 40 9999 0 40 9999 0 106 8647) = some (.inl (some (.int 0)), (hG 40 9999 1 40 9999 0 106 8647)) := by
      refine ev_mc rfl ?_ (ev_finx (by first | rfl | decide +kernel) rfl rfl)
      show ev_run (pg 229) (ev_call mt pg 3000 10) 3000 (0, [(0, .ref 82), (1, .int 1)], []) (hG 40 9999 0 40 9999 0 106 8647) = _
      refine st_aload (p' := 1) rfl rfl rfl ?_
      refine st_iload (p' := 2) rfl rfl rfl ?_
      refine st_putf (p' := 5) (h' := (hG 40 9999 1 40 9999 0 106 8647)) rfl rfl (hG_m ..) rfl (hG_sm ..) ?_
      refine st_push (p' := 6) rfl rfl ?_
      exact st_ret_i rfl
    refine st_inv (p' := 40) (av := [.ref 82, .int 1]) (s' := [.int 0]) rfl rfl c4 rfl rfl (q_recv (hG_m ..)) rfl rfl ?_
    exact st_ret_i rfl
  have c6 : ev_call mt pg 3000 12 228 [.ref 82] (hG 40 9999 1 40 9999 0 106 8647) = some (.inl (some (.int 1)), (hG 40 9999 1 40 9999 0 106 8647)) := by
    refine ev_mc rfl ?_ (ev_finx (by first | rfl | decide +kernel) rfl rfl)
    show ev_run (pg 228) (ev_call mt pg 3000 11) 3000 (0, [(0, .ref 82)], []) (hG 40 9999 1 40 9999 0 106 8647) = _
    refine st_aload (p' := 1) rfl rfl rfl ?_
    refine st_getf (p' := 4) (v := .int 1) rfl rfl (hG_m ..) rfl ?_
    exact st_ret_i rfl
  exact ⟨1, 0, _, _, _, _, c2, hG_m .., c5, hG_m .., c6, (fun h => absurd h (by decide)), Nat.le_of_ble_eq_true rfl, Nat.le_of_ble_eq_true rfl⟩
theorem ag_publish_2 (p0 : Int32) (l_p0 : 0 ≤ p0.toInt) (u_p0 : p0.toInt ≤ 63)  : agree 308 262 [.ref 0, .int p0, .ref 104] [.ref 82, .int p0] := by
  have h := ag_publish_2_c
  obtain ⟨k_p0, q_p0, e_p0⟩ := q_conc (x := p0) (lo := 0) (m := 64) (by omega) (by omega)
  have h := List.all_eq_true.mp h k_p0 (List.mem_range.mpr q_p0)
  subst e_p0
  exact chk_agree h
theorem ag_publish_3 (p0 : Int32) (l_p0 : 64 ≤ p0.toInt) : agree 308 262 [.ref 0, .int p0, .ref 104] [.ref 82, .int p0] := by
  have c2 : ev_call mt pg 3000 12 308 [.ref 0, .int p0, .ref 104] (hG 40 9999 0 40 9999 0 105 8641) = some (.inl (some (.int 1)), (hG 40 9999 0 40 9999 0 106 8647)) := by
    refine ev_mc rfl ?_ (ev_finx (by first | rfl | decide +kernel) rfl rfl)
    show ev_run (pg 308) (ev_call mt pg 3000 11) 3000 (0, [(0, .ref 0), (1, .int p0), (2, .ref 104)], []) (hG 40 9999 0 40 9999 0 105 8641) = _
    refine st_aload (p' := 1) rfl rfl rfl ?_
    refine st_push (p' := 2) rfl rfl ?_
    refine st_aload (p' := 3) rfl rfl rfl ?_
    refine st_iload (p' := 4) rfl rfl rfl ?_
    have c1 : ev_call mt pg 3000 11 177 [.ref 0, .int p0] (hG 40 9999 0 40 9999 0 105 8641) = some (.inr "java/lang/IllegalArgumentException", (hG 40 9999 0 40 9999 0 106 8647)) := by
      refine ev_mc rfl ?_ (ev_finX (by decide +kernel) rfl rfl)
      show ev_run (pg 177) (ev_call mt pg 3000 10) 3000 (0, [(0, .ref 0), (1, .int p0)], []) (hG 40 9999 0 40 9999 0 105 8641) = _
      refine st_iload (p' := 1) rfl rfl rfl ?_
      refine st_ifF (p' := 4) rfl (q_lt' (by rw [show (0 : Int32).toInt = 0 from by decide]; omega)) rfl ?_
      refine st_iload (p' := 5) rfl rfl rfl ?_
      refine st_push (p' := 7) rfl rfl ?_
      refine st_icT (p' := 24) rfl (q_le (by rw [show (64 : Int32).toInt = 64 from by decide]; omega)) rfl ?_
      exact st_throw rfl rfl rfl
    refine st_invC (p' := 13) (q := 3) (l' := [(0, .ref 0), (1, .int p0), (2, .ref 104)]) (av := [.ref 0, .int p0]) rfl rfl c1 rfl rfl (q_recv (hG_x ..)) (by decide +kernel) rfl ?_
    refine st_push (p' := 14) rfl rfl ?_
    exact st_ret_i rfl
  have c5 : ev_call mt pg 3000 12 262 [.ref 82, .int p0] (hG 40 9999 0 40 9999 0 106 8647) = some (.inl (some (.int 0)), (hG 40 9999 1 40 9999 0 106 8647)) := by
    refine ev_mc rfl ?_ (ev_finx (by first | rfl | decide +kernel) rfl rfl)
    show ev_run (pg 262) (ev_call mt pg 3000 11) 3000 (0, [(0, .ref 82), (1, .int p0)], []) (hG 40 9999 0 40 9999 0 106 8647) = _
    refine st_aload (p' := 1) rfl rfl rfl ?_
    refine st_push (p' := 2) rfl rfl ?_
    refine st_putf (p' := 5) (h' := (hG 40 9999 0 40 9999 0 106 8647)) rfl rfl (hG_m ..) rfl (hG_sm ..) ?_
    refine st_iload (p' := 6) rfl rfl rfl ?_
    refine st_push (p' := 7) rfl rfl ?_
    refine st_push (p' := 9) rfl rfl ?_
    have c3 : ev_call mt pg 3000 11 230 [.int p0, .int 0, .int 63] (hG 40 9999 0 40 9999 0 106 8647) = some (.inl (some (.int 0)), (hG 40 9999 0 40 9999 0 106 8647)) := by
      refine ev_mc rfl ?_ (ev_finx (by first | rfl | decide +kernel) rfl rfl)
      show ev_run (pg 230) (ev_call mt pg 3000 10) 3000 (0, [(0, .int p0), (1, .int 0), (2, .int 63)], []) (hG 40 9999 0 40 9999 0 106 8647) = _
      refine st_iload (p' := 1) rfl rfl rfl ?_
      refine st_iload (p' := 2) rfl rfl rfl ?_
      refine st_icF (p' := 5) rfl (q_lt' (by rw [show (0 : Int32).toInt = 0 from by decide]; omega)) rfl ?_
      refine st_iload (p' := 6) rfl rfl rfl ?_
      refine st_iload (p' := 7) rfl rfl rfl ?_
      refine st_icT (p' := 14) rfl (q_lt (by rw [show (63 : Int32).toInt = 63 from by decide]; omega)) rfl ?_
      refine st_push (p' := 15) rfl rfl ?_
      exact st_ret_i rfl
    refine st_inv (p' := 12) (av := [.int p0, .int 0, .int 63]) (s' := [.int 0]) rfl rfl c3 rfl rfl rfl rfl rfl ?_
    refine st_ifT (p' := 35) rfl (by decide +kernel) rfl ?_
    refine st_aload (p' := 36) rfl rfl rfl ?_
    refine st_push (p' := 37) rfl rfl ?_
    have c4 : ev_call mt pg 3000 11 229 [.ref 82, .int 1] (hG 40 9999 0 40 9999 0 106 8647) = some (.inl (some (.int 0)), (hG 40 9999 1 40 9999 0 106 8647)) := by
      refine ev_mc rfl ?_ (ev_finx (by first | rfl | decide +kernel) rfl rfl)
      show ev_run (pg 229) (ev_call mt pg 3000 10) 3000 (0, [(0, .ref 82), (1, .int 1)], []) (hG 40 9999 0 40 9999 0 106 8647) = _
      refine st_aload (p' := 1) rfl rfl rfl ?_
      refine st_iload (p' := 2) rfl rfl rfl ?_
      refine st_putf (p' := 5) (h' := (hG 40 9999 1 40 9999 0 106 8647)) rfl rfl (hG_m ..) rfl (hG_sm ..) ?_
      refine st_push (p' := 6) rfl rfl ?_
      exact st_ret_i rfl
    refine st_inv (p' := 40) (av := [.ref 82, .int 1]) (s' := [.int 0]) rfl rfl c4 rfl rfl (q_recv (hG_m ..)) rfl rfl ?_
    exact st_ret_i rfl
  have c6 : ev_call mt pg 3000 12 228 [.ref 82] (hG 40 9999 1 40 9999 0 106 8647) = some (.inl (some (.int 1)), (hG 40 9999 1 40 9999 0 106 8647)) := by
    refine ev_mc rfl ?_ (ev_finx (by first | rfl | decide +kernel) rfl rfl)
    show ev_run (pg 228) (ev_call mt pg 3000 11) 3000 (0, [(0, .ref 82)], []) (hG 40 9999 1 40 9999 0 106 8647) = _
    refine st_aload (p' := 1) rfl rfl rfl ?_
    refine st_getf (p' := 4) (v := .int 1) rfl rfl (hG_m ..) rfl ?_
    exact st_ret_i rfl
  exact ⟨1, 0, _, _, _, _, c2, hG_m .., c5, hG_m .., c6, (fun h => absurd h (by decide)), Nat.le_of_ble_eq_true rfl, Nat.le_of_ble_eq_true rfl⟩
theorem ag_publish (p0 : Int32)  : agree 308 262 [.ref 0, .int p0, .ref 104] [.ref 82, .int p0] := by
  rcases Int.lt_or_le p0.toInt 0 with h | h
  · exact ag_publish_1 p0 (by omega)
  · rcases Int.lt_or_le p0.toInt 64 with h | h
    · exact ag_publish_2 p0 (by omega) (by omega)
    · exact ag_publish_3 p0 (by omega)
theorem hG_c23 (a b c d e : Int32) (o : Int64) (k n : Nat) : (hG a b c d e o k n).1[23]? = some (.inr 4, [.ref 24, .ref 25, .ref 26, .ref 27, .ref 28, .ref 29, .ref 30, .ref 31, .ref 32, .ref 33, .ref 34, .ref 35, .int 0, .int 0, .int 0, .int 0]) := rfl
theorem ag_open_1 (p0 p1 : Int32) (u_p0 : p0.toInt ≤ -1) : agree 309 269 [.ref 0, .int p0, .int p1, .ref 104] [.ref 82, .int p0, .int p1] := by
  have c3 : ev_call mt pg 3000 12 309 [.ref 0, .int p0, .int p1, .ref 104] (hG 40 9999 0 40 9999 0 105 8641) = some (.inl (some (.int 1)), (hG 40 9999 0 40 9999 0 106 8647)) := by
    refine ev_mc rfl ?_ (ev_finx (by first | rfl | decide +kernel) rfl rfl)
    show ev_run (pg 309) (ev_call mt pg 3000 11) 3000 (0, [(0, .ref 0), (1, .int p0), (2, .int p1), (3, .ref 104)], []) (hG 40 9999 0 40 9999 0 105 8641) = _
    refine st_aload (p' := 1) rfl rfl rfl ?_
    refine st_push (p' := 2) rfl rfl ?_
    refine st_aload (p' := 3) rfl rfl rfl ?_
    refine st_iload (p' := 4) rfl rfl rfl ?_
    refine st_iload (p' := 5) rfl rfl rfl ?_
    have c2 : ev_call mt pg 3000 11 178 [.ref 0, .int p0, .int p1] (hG 40 9999 0 40 9999 0 105 8641) = some (.inr "java/lang/IndexOutOfBoundsException", (hG 40 9999 0 40 9999 0 106 8647)) := by
      refine ev_mc rfl ?_ (ev_finX (by decide +kernel) rfl rfl)
      show ev_run (pg 178) (ev_call mt pg 3000 10) 3000 (0, [(0, .ref 0), (1, .int p0), (2, .int p1)], []) (hG 40 9999 0 40 9999 0 105 8641) = _
      refine st_aload (p' := 1) rfl rfl rfl ?_
      refine st_getf (p' := 4) (v := .ref 23) rfl rfl (hG_x ..) rfl ?_
      refine st_iload (p' := 5) rfl rfl rfl ?_
      have c1 : ev_call mt pg 3000 10 44 [.ref 23, .int p0] (hG 40 9999 0 40 9999 0 105 8641) = some (.inl (some (.int 0)), (hG 40 9999 0 40 9999 0 105 8641)) := by
        refine ev_mc rfl ?_ (ev_finx (by first | rfl | decide +kernel) rfl rfl)
        show ev_run (pg 44) (ev_call mt pg 3000 9) 3000 (0, [(0, .ref 23), (1, .int p0)], []) (hG 40 9999 0 40 9999 0 105 8641) = _
        refine st_iload (p' := 1) rfl rfl rfl ?_
        refine st_ifT (p' := 22) rfl (q_lt (by rw [show (0 : Int32).toInt = 0 from by decide]; omega)) rfl ?_
        refine st_push (p' := 23) rfl rfl ?_
        exact st_ret_i rfl
      refine st_inv (p' := 8) (av := [.ref 23, .int p0]) (s' := [.int 0]) rfl rfl c1 rfl rfl (q_recv (hG_c23 ..)) rfl rfl ?_
      refine st_ifF (p' := 11) rfl (by decide +kernel) rfl ?_
      exact st_throw rfl rfl rfl
    refine st_invC (p' := 15) (q := 4) (l' := [(0, .ref 0), (1, .int p0), (2, .int p1), (3, .ref 104)]) (av := [.ref 0, .int p0, .int p1]) rfl rfl c2 rfl rfl (q_recv (hG_x ..)) (by decide +kernel) rfl ?_
    refine st_push (p' := 16) rfl rfl ?_
    exact st_ret_i rfl
  have c7 : ev_call mt pg 3000 12 269 [.ref 82, .int p0, .int p1] (hG 40 9999 0 40 9999 0 106 8647) = some (.inl (some (.int 0)), (hG 40 9999 1 40 9999 0 106 8647)) := by
    refine ev_mc rfl ?_ (ev_finx (by first | rfl | decide +kernel) rfl rfl)
    show ev_run (pg 269) (ev_call mt pg 3000 11) 3000 (0, [(0, .ref 82), (1, .int p0), (2, .int p1)], []) (hG 40 9999 0 40 9999 0 106 8647) = _
    refine st_aload (p' := 1) rfl rfl rfl ?_
    refine st_push (p' := 2) rfl rfl ?_
    refine st_putf (p' := 5) (h' := (hG 40 9999 0 40 9999 0 106 8647)) rfl rfl (hG_m ..) rfl (hG_sm ..) ?_
    refine st_aload (p' := 6) rfl rfl rfl ?_
    refine st_iload (p' := 7) rfl rfl rfl ?_
    have c5 : ev_call mt pg 3000 11 260 [.ref 82, .int p0] (hG 40 9999 0 40 9999 0 106 8647) = some (.inl (some (.int 0)), (hG 40 9999 0 40 9999 0 106 8647)) := by
      refine ev_mc rfl ?_ (ev_finx (by first | rfl | decide +kernel) rfl rfl)
      show ev_run (pg 260) (ev_call mt pg 3000 10) 3000 (0, [(0, .ref 82), (1, .int p0)], []) (hG 40 9999 0 40 9999 0 106 8647) = _
      refine st_iload (p' := 1) rfl rfl rfl ?_
      refine st_push (p' := 2) rfl rfl ?_
      refine st_aload (p' := 3) rfl rfl rfl ?_
      refine st_getf (p' := 6) (v := .int 0) rfl rfl (hG_m ..) rfl ?_
      refine st_push (p' := 7) rfl rfl ?_
      refine st_ii (p' := 8) (z := (-1)) rfl rfl (by decide +kernel) ?_
      have c4 : ev_call mt pg 3000 10 230 [.int p0, .int 0, .int (-1)] (hG 40 9999 0 40 9999 0 106 8647) = some (.inl (some (.int 0)), (hG 40 9999 0 40 9999 0 106 8647)) := by
        refine ev_mc rfl ?_ (ev_finx (by first | rfl | decide +kernel) rfl rfl)
        show ev_run (pg 230) (ev_call mt pg 3000 9) 3000 (0, [(0, .int p0), (1, .int 0), (2, .int (-1))], []) (hG 40 9999 0 40 9999 0 106 8647) = _
        refine st_iload (p' := 1) rfl rfl rfl ?_
        refine st_iload (p' := 2) rfl rfl rfl ?_
        refine st_icT (p' := 14) rfl (q_lt (by rw [show (0 : Int32).toInt = 0 from by decide]; omega)) rfl ?_
        refine st_push (p' := 15) rfl rfl ?_
        exact st_ret_i rfl
      refine st_inv (p' := 11) (av := [.int p0, .int 0, .int (-1)]) (s' := [.int 0]) rfl rfl c4 rfl rfl rfl rfl rfl ?_
      exact st_ret_i rfl
    refine st_inv (p' := 10) (av := [.ref 82, .int p0]) (s' := [.int 0]) rfl rfl c5 rfl rfl (q_recv (hG_m ..)) rfl rfl ?_
    refine st_ifF (p' := 13) rfl (by decide +kernel) rfl ?_
    refine st_aload (p' := 14) rfl rfl rfl ?_
    refine st_push (p' := 15) rfl rfl ?_
    have c6 : ev_call mt pg 3000 11 229 [.ref 82, .int 1] (hG 40 9999 0 40 9999 0 106 8647) = some (.inl (some (.int 0)), (hG 40 9999 1 40 9999 0 106 8647)) := by
      refine ev_mc rfl ?_ (ev_finx (by first | rfl | decide +kernel) rfl rfl)
      show ev_run (pg 229) (ev_call mt pg 3000 10) 3000 (0, [(0, .ref 82), (1, .int 1)], []) (hG 40 9999 0 40 9999 0 106 8647) = _
      refine st_aload (p' := 1) rfl rfl rfl ?_
      refine st_iload (p' := 2) rfl rfl rfl ?_
      refine st_putf (p' := 5) (h' := (hG 40 9999 1 40 9999 0 106 8647)) rfl rfl (hG_m ..) rfl (hG_sm ..) ?_
      refine st_push (p' := 6) rfl rfl ?_
      exact st_ret_i rfl
    refine st_inv (p' := 18) (av := [.ref 82, .int 1]) (s' := [.int 0]) rfl rfl c6 rfl rfl (q_recv (hG_m ..)) rfl rfl ?_
    exact st_ret_i rfl
  have c8 : ev_call mt pg 3000 12 228 [.ref 82] (hG 40 9999 1 40 9999 0 106 8647) = some (.inl (some (.int 1)), (hG 40 9999 1 40 9999 0 106 8647)) := by
    refine ev_mc rfl ?_ (ev_finx (by first | rfl | decide +kernel) rfl rfl)
    show ev_run (pg 228) (ev_call mt pg 3000 11) 3000 (0, [(0, .ref 82)], []) (hG 40 9999 1 40 9999 0 106 8647) = _
    refine st_aload (p' := 1) rfl rfl rfl ?_
    refine st_getf (p' := 4) (v := .int 1) rfl rfl (hG_m ..) rfl ?_
    exact st_ret_i rfl
  exact ⟨1, 0, _, _, _, _, c3, hG_m .., c7, hG_m .., c8, (fun h => absurd h (by decide)), Nat.le_of_ble_eq_true rfl, Nat.le_of_ble_eq_true rfl⟩
theorem ag_open_2 (p0 p1 : Int32) (l_p0 : 0 ≤ p0.toInt) : agree 309 269 [.ref 0, .int p0, .int p1, .ref 104] [.ref 82, .int p0, .int p1] := by
  have c3 : ev_call mt pg 3000 12 309 [.ref 0, .int p0, .int p1, .ref 104] (hG 40 9999 0 40 9999 0 105 8641) = some (.inl (some (.int 1)), (hG 40 9999 0 40 9999 0 106 8647)) := by
    refine ev_mc rfl ?_ (ev_finx (by first | rfl | decide +kernel) rfl rfl)
    show ev_run (pg 309) (ev_call mt pg 3000 11) 3000 (0, [(0, .ref 0), (1, .int p0), (2, .int p1), (3, .ref 104)], []) (hG 40 9999 0 40 9999 0 105 8641) = _
    refine st_aload (p' := 1) rfl rfl rfl ?_
    refine st_push (p' := 2) rfl rfl ?_
    refine st_aload (p' := 3) rfl rfl rfl ?_
    refine st_iload (p' := 4) rfl rfl rfl ?_
    refine st_iload (p' := 5) rfl rfl rfl ?_
    have c2 : ev_call mt pg 3000 11 178 [.ref 0, .int p0, .int p1] (hG 40 9999 0 40 9999 0 105 8641) = some (.inr "java/lang/IndexOutOfBoundsException", (hG 40 9999 0 40 9999 0 106 8647)) := by
      refine ev_mc rfl ?_ (ev_finX (by decide +kernel) rfl rfl)
      show ev_run (pg 178) (ev_call mt pg 3000 10) 3000 (0, [(0, .ref 0), (1, .int p0), (2, .int p1)], []) (hG 40 9999 0 40 9999 0 105 8641) = _
      refine st_aload (p' := 1) rfl rfl rfl ?_
      refine st_getf (p' := 4) (v := .ref 23) rfl rfl (hG_x ..) rfl ?_
      refine st_iload (p' := 5) rfl rfl rfl ?_
      have c1 : ev_call mt pg 3000 10 44 [.ref 23, .int p0] (hG 40 9999 0 40 9999 0 105 8641) = some (.inl (some (.int 0)), (hG 40 9999 0 40 9999 0 105 8641)) := by
        refine ev_mc rfl ?_ (ev_finx (by first | rfl | decide +kernel) rfl rfl)
        show ev_run (pg 44) (ev_call mt pg 3000 9) 3000 (0, [(0, .ref 23), (1, .int p0)], []) (hG 40 9999 0 40 9999 0 105 8641) = _
        refine st_iload (p' := 1) rfl rfl rfl ?_
        refine st_ifF (p' := 4) rfl (q_lt' (by rw [show (0 : Int32).toInt = 0 from by decide]; omega)) rfl ?_
        refine st_iload (p' := 5) rfl rfl rfl ?_
        refine st_aload (p' := 6) rfl rfl rfl ?_
        refine st_getf (p' := 9) (v := .int 0) rfl rfl (hG_c23 ..) rfl ?_
        refine st_icT (p' := 22) rfl (q_le (by rw [show (0 : Int32).toInt = 0 from by decide]; omega)) rfl ?_
        refine st_push (p' := 23) rfl rfl ?_
        exact st_ret_i rfl
      refine st_inv (p' := 8) (av := [.ref 23, .int p0]) (s' := [.int 0]) rfl rfl c1 rfl rfl (q_recv (hG_c23 ..)) rfl rfl ?_
      refine st_ifF (p' := 11) rfl (by decide +kernel) rfl ?_
      exact st_throw rfl rfl rfl
    refine st_invC (p' := 15) (q := 4) (l' := [(0, .ref 0), (1, .int p0), (2, .int p1), (3, .ref 104)]) (av := [.ref 0, .int p0, .int p1]) rfl rfl c2 rfl rfl (q_recv (hG_x ..)) (by decide +kernel) rfl ?_
    refine st_push (p' := 16) rfl rfl ?_
    exact st_ret_i rfl
  have c7 : ev_call mt pg 3000 12 269 [.ref 82, .int p0, .int p1] (hG 40 9999 0 40 9999 0 106 8647) = some (.inl (some (.int 0)), (hG 40 9999 1 40 9999 0 106 8647)) := by
    refine ev_mc rfl ?_ (ev_finx (by first | rfl | decide +kernel) rfl rfl)
    show ev_run (pg 269) (ev_call mt pg 3000 11) 3000 (0, [(0, .ref 82), (1, .int p0), (2, .int p1)], []) (hG 40 9999 0 40 9999 0 106 8647) = _
    refine st_aload (p' := 1) rfl rfl rfl ?_
    refine st_push (p' := 2) rfl rfl ?_
    refine st_putf (p' := 5) (h' := (hG 40 9999 0 40 9999 0 106 8647)) rfl rfl (hG_m ..) rfl (hG_sm ..) ?_
    refine st_aload (p' := 6) rfl rfl rfl ?_
    refine st_iload (p' := 7) rfl rfl rfl ?_
    have c5 : ev_call mt pg 3000 11 260 [.ref 82, .int p0] (hG 40 9999 0 40 9999 0 106 8647) = some (.inl (some (.int 0)), (hG 40 9999 0 40 9999 0 106 8647)) := by
      refine ev_mc rfl ?_ (ev_finx (by first | rfl | decide +kernel) rfl rfl)
      show ev_run (pg 260) (ev_call mt pg 3000 10) 3000 (0, [(0, .ref 82), (1, .int p0)], []) (hG 40 9999 0 40 9999 0 106 8647) = _
      refine st_iload (p' := 1) rfl rfl rfl ?_
      refine st_push (p' := 2) rfl rfl ?_
      refine st_aload (p' := 3) rfl rfl rfl ?_
      refine st_getf (p' := 6) (v := .int 0) rfl rfl (hG_m ..) rfl ?_
      refine st_push (p' := 7) rfl rfl ?_
      refine st_ii (p' := 8) (z := (-1)) rfl rfl (by decide +kernel) ?_
      have c4 : ev_call mt pg 3000 10 230 [.int p0, .int 0, .int (-1)] (hG 40 9999 0 40 9999 0 106 8647) = some (.inl (some (.int 0)), (hG 40 9999 0 40 9999 0 106 8647)) := by
        refine ev_mc rfl ?_ (ev_finx (by first | rfl | decide +kernel) rfl rfl)
        show ev_run (pg 230) (ev_call mt pg 3000 9) 3000 (0, [(0, .int p0), (1, .int 0), (2, .int (-1))], []) (hG 40 9999 0 40 9999 0 106 8647) = _
        refine st_iload (p' := 1) rfl rfl rfl ?_
        refine st_iload (p' := 2) rfl rfl rfl ?_
        refine st_icF (p' := 5) rfl (q_lt' (by rw [show (0 : Int32).toInt = 0 from by decide]; omega)) rfl ?_
        refine st_iload (p' := 6) rfl rfl rfl ?_
        refine st_iload (p' := 7) rfl rfl rfl ?_
        refine st_icT (p' := 14) rfl (q_lt (by rw [show ((-1) : Int32).toInt = (-1) from by decide]; omega)) rfl ?_
        refine st_push (p' := 15) rfl rfl ?_
        exact st_ret_i rfl
      refine st_inv (p' := 11) (av := [.int p0, .int 0, .int (-1)]) (s' := [.int 0]) rfl rfl c4 rfl rfl rfl rfl rfl ?_
      exact st_ret_i rfl
    refine st_inv (p' := 10) (av := [.ref 82, .int p0]) (s' := [.int 0]) rfl rfl c5 rfl rfl (q_recv (hG_m ..)) rfl rfl ?_
    refine st_ifF (p' := 13) rfl (by decide +kernel) rfl ?_
    refine st_aload (p' := 14) rfl rfl rfl ?_
    refine st_push (p' := 15) rfl rfl ?_
    have c6 : ev_call mt pg 3000 11 229 [.ref 82, .int 1] (hG 40 9999 0 40 9999 0 106 8647) = some (.inl (some (.int 0)), (hG 40 9999 1 40 9999 0 106 8647)) := by
      refine ev_mc rfl ?_ (ev_finx (by first | rfl | decide +kernel) rfl rfl)
      show ev_run (pg 229) (ev_call mt pg 3000 10) 3000 (0, [(0, .ref 82), (1, .int 1)], []) (hG 40 9999 0 40 9999 0 106 8647) = _
      refine st_aload (p' := 1) rfl rfl rfl ?_
      refine st_iload (p' := 2) rfl rfl rfl ?_
      refine st_putf (p' := 5) (h' := (hG 40 9999 1 40 9999 0 106 8647)) rfl rfl (hG_m ..) rfl (hG_sm ..) ?_
      refine st_push (p' := 6) rfl rfl ?_
      exact st_ret_i rfl
    refine st_inv (p' := 18) (av := [.ref 82, .int 1]) (s' := [.int 0]) rfl rfl c6 rfl rfl (q_recv (hG_m ..)) rfl rfl ?_
    exact st_ret_i rfl
  have c8 : ev_call mt pg 3000 12 228 [.ref 82] (hG 40 9999 1 40 9999 0 106 8647) = some (.inl (some (.int 1)), (hG 40 9999 1 40 9999 0 106 8647)) := by
    refine ev_mc rfl ?_ (ev_finx (by first | rfl | decide +kernel) rfl rfl)
    show ev_run (pg 228) (ev_call mt pg 3000 11) 3000 (0, [(0, .ref 82)], []) (hG 40 9999 1 40 9999 0 106 8647) = _
    refine st_aload (p' := 1) rfl rfl rfl ?_
    refine st_getf (p' := 4) (v := .int 1) rfl rfl (hG_m ..) rfl ?_
    exact st_ret_i rfl
  exact ⟨1, 0, _, _, _, _, c3, hG_m .., c7, hG_m .., c8, (fun h => absurd h (by decide)), Nat.le_of_ble_eq_true rfl, Nat.le_of_ble_eq_true rfl⟩
theorem ag_open (p0 p1 : Int32) (h_p1 : p1 = 0 ∨ p1 = 1) : agree 309 269 [.ref 0, .int p0, .int p1, .ref 104] [.ref 82, .int p0, .int p1] := by
  rcases Int.lt_or_le p0.toInt 0 with h | h
  · exact ag_open_1 p0 p1 (by omega)
  · exact ag_open_2 p0 p1 (by omega)
theorem ag_close_1 (p0 : Int32) (u_p0 : p0.toInt ≤ -1) : agree 310 271 [.ref 0, .int p0, .ref 104] [.ref 82, .int p0] := by
  have c3 : ev_call mt pg 3000 12 310 [.ref 0, .int p0, .ref 104] (hG 40 9999 0 40 9999 0 105 8641) = some (.inl (some (.int 1)), (hG 40 9999 0 40 9999 0 106 8647)) := by
    refine ev_mc rfl ?_ (ev_finx (by first | rfl | decide +kernel) rfl rfl)
    show ev_run (pg 310) (ev_call mt pg 3000 11) 3000 (0, [(0, .ref 0), (1, .int p0), (2, .ref 104)], []) (hG 40 9999 0 40 9999 0 105 8641) = _
    refine st_aload (p' := 1) rfl rfl rfl ?_
    refine st_push (p' := 2) rfl rfl ?_
    refine st_aload (p' := 3) rfl rfl rfl ?_
    refine st_iload (p' := 4) rfl rfl rfl ?_
    have c2 : ev_call mt pg 3000 11 179 [.ref 0, .int p0] (hG 40 9999 0 40 9999 0 105 8641) = some (.inr "java/lang/IndexOutOfBoundsException", (hG 40 9999 0 40 9999 0 106 8647)) := by
      refine ev_mc rfl ?_ (ev_finX (by decide +kernel) rfl rfl)
      show ev_run (pg 179) (ev_call mt pg 3000 10) 3000 (0, [(0, .ref 0), (1, .int p0)], []) (hG 40 9999 0 40 9999 0 105 8641) = _
      refine st_aload (p' := 1) rfl rfl rfl ?_
      refine st_getf (p' := 4) (v := .ref 23) rfl rfl (hG_x ..) rfl ?_
      refine st_iload (p' := 5) rfl rfl rfl ?_
      have c1 : ev_call mt pg 3000 10 44 [.ref 23, .int p0] (hG 40 9999 0 40 9999 0 105 8641) = some (.inl (some (.int 0)), (hG 40 9999 0 40 9999 0 105 8641)) := by
        refine ev_mc rfl ?_ (ev_finx (by first | rfl | decide +kernel) rfl rfl)
        show ev_run (pg 44) (ev_call mt pg 3000 9) 3000 (0, [(0, .ref 23), (1, .int p0)], []) (hG 40 9999 0 40 9999 0 105 8641) = _
        refine st_iload (p' := 1) rfl rfl rfl ?_
        refine st_ifT (p' := 22) rfl (q_lt (by rw [show (0 : Int32).toInt = 0 from by decide]; omega)) rfl ?_
        refine st_push (p' := 23) rfl rfl ?_
        exact st_ret_i rfl
      refine st_inv (p' := 8) (av := [.ref 23, .int p0]) (s' := [.int 0]) rfl rfl c1 rfl rfl (q_recv (hG_c23 ..)) rfl rfl ?_
      refine st_ifF (p' := 11) rfl (by decide +kernel) rfl ?_
      exact st_throw rfl rfl rfl
    refine st_invC (p' := 13) (q := 3) (l' := [(0, .ref 0), (1, .int p0), (2, .ref 104)]) (av := [.ref 0, .int p0]) rfl rfl c2 rfl rfl (q_recv (hG_x ..)) (by decide +kernel) rfl ?_
    refine st_push (p' := 14) rfl rfl ?_
    exact st_ret_i rfl
  have c7 : ev_call mt pg 3000 12 271 [.ref 82, .int p0] (hG 40 9999 0 40 9999 0 106 8647) = some (.inl (some (.int 0)), (hG 40 9999 1 40 9999 0 106 8647)) := by
    refine ev_mc rfl ?_ (ev_finx (by first | rfl | decide +kernel) rfl rfl)
    show ev_run (pg 271) (ev_call mt pg 3000 11) 3000 (0, [(0, .ref 82), (1, .int p0)], []) (hG 40 9999 0 40 9999 0 106 8647) = _
    refine st_aload (p' := 1) rfl rfl rfl ?_
    refine st_push (p' := 2) rfl rfl ?_
    refine st_putf (p' := 5) (h' := (hG 40 9999 0 40 9999 0 106 8647)) rfl rfl (hG_m ..) rfl (hG_sm ..) ?_
    refine st_aload (p' := 6) rfl rfl rfl ?_
    refine st_iload (p' := 7) rfl rfl rfl ?_
    have c5 : ev_call mt pg 3000 11 260 [.ref 82, .int p0] (hG 40 9999 0 40 9999 0 106 8647) = some (.inl (some (.int 0)), (hG 40 9999 0 40 9999 0 106 8647)) := by
      refine ev_mc rfl ?_ (ev_finx (by first | rfl | decide +kernel) rfl rfl)
      show ev_run (pg 260) (ev_call mt pg 3000 10) 3000 (0, [(0, .ref 82), (1, .int p0)], []) (hG 40 9999 0 40 9999 0 106 8647) = _
      refine st_iload (p' := 1) rfl rfl rfl ?_
      refine st_push (p' := 2) rfl rfl ?_
      refine st_aload (p' := 3) rfl rfl rfl ?_
      refine st_getf (p' := 6) (v := .int 0) rfl rfl (hG_m ..) rfl ?_
      refine st_push (p' := 7) rfl rfl ?_
      refine st_ii (p' := 8) (z := (-1)) rfl rfl (by decide +kernel) ?_
      have c4 : ev_call mt pg 3000 10 230 [.int p0, .int 0, .int (-1)] (hG 40 9999 0 40 9999 0 106 8647) = some (.inl (some (.int 0)), (hG 40 9999 0 40 9999 0 106 8647)) := by
        refine ev_mc rfl ?_ (ev_finx (by first | rfl | decide +kernel) rfl rfl)
        show ev_run (pg 230) (ev_call mt pg 3000 9) 3000 (0, [(0, .int p0), (1, .int 0), (2, .int (-1))], []) (hG 40 9999 0 40 9999 0 106 8647) = _
        refine st_iload (p' := 1) rfl rfl rfl ?_
        refine st_iload (p' := 2) rfl rfl rfl ?_
        refine st_icT (p' := 14) rfl (q_lt (by rw [show (0 : Int32).toInt = 0 from by decide]; omega)) rfl ?_
        refine st_push (p' := 15) rfl rfl ?_
        exact st_ret_i rfl
      refine st_inv (p' := 11) (av := [.int p0, .int 0, .int (-1)]) (s' := [.int 0]) rfl rfl c4 rfl rfl rfl rfl rfl ?_
      exact st_ret_i rfl
    refine st_inv (p' := 10) (av := [.ref 82, .int p0]) (s' := [.int 0]) rfl rfl c5 rfl rfl (q_recv (hG_m ..)) rfl rfl ?_
    refine st_ifF (p' := 13) rfl (by decide +kernel) rfl ?_
    refine st_aload (p' := 14) rfl rfl rfl ?_
    refine st_push (p' := 15) rfl rfl ?_
    have c6 : ev_call mt pg 3000 11 229 [.ref 82, .int 1] (hG 40 9999 0 40 9999 0 106 8647) = some (.inl (some (.int 0)), (hG 40 9999 1 40 9999 0 106 8647)) := by
      refine ev_mc rfl ?_ (ev_finx (by first | rfl | decide +kernel) rfl rfl)
      show ev_run (pg 229) (ev_call mt pg 3000 10) 3000 (0, [(0, .ref 82), (1, .int 1)], []) (hG 40 9999 0 40 9999 0 106 8647) = _
      refine st_aload (p' := 1) rfl rfl rfl ?_
      refine st_iload (p' := 2) rfl rfl rfl ?_
      refine st_putf (p' := 5) (h' := (hG 40 9999 1 40 9999 0 106 8647)) rfl rfl (hG_m ..) rfl (hG_sm ..) ?_
      refine st_push (p' := 6) rfl rfl ?_
      exact st_ret_i rfl
    refine st_inv (p' := 18) (av := [.ref 82, .int 1]) (s' := [.int 0]) rfl rfl c6 rfl rfl (q_recv (hG_m ..)) rfl rfl ?_
    exact st_ret_i rfl
  have c8 : ev_call mt pg 3000 12 228 [.ref 82] (hG 40 9999 1 40 9999 0 106 8647) = some (.inl (some (.int 1)), (hG 40 9999 1 40 9999 0 106 8647)) := by
    refine ev_mc rfl ?_ (ev_finx (by first | rfl | decide +kernel) rfl rfl)
    show ev_run (pg 228) (ev_call mt pg 3000 11) 3000 (0, [(0, .ref 82)], []) (hG 40 9999 1 40 9999 0 106 8647) = _
    refine st_aload (p' := 1) rfl rfl rfl ?_
    refine st_getf (p' := 4) (v := .int 1) rfl rfl (hG_m ..) rfl ?_
    exact st_ret_i rfl
  exact ⟨1, 0, _, _, _, _, c3, hG_m .., c7, hG_m .., c8, (fun h => absurd h (by decide)), Nat.le_of_ble_eq_true rfl, Nat.le_of_ble_eq_true rfl⟩
