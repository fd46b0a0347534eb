theorem law_open (xs : Nat → Int32) (hk : xs 0 &&& 31 = 17) (ha : ∀ b0 : Int32, (b0 = 0 ∨ b0 = 1) → agree 309 269 [.ref 0, .int (xs 1), .int b0, .ref 104] [.ref 82, .int (xs 1), .int b0]) : LawOk xs := by
  by_cases z_xs2 : (xs 2) = 0
  · obtain ⟨r, b, h1, h2, f1, f2, a1, g1, a2, g2, a3, g3, g4, g5⟩ := ha 0 (.inl rfl)
    refine ⟨h2, ?_, g4, g5⟩
    by_cases z_r : r = 0
    · refine st_iload (p' := 25) rfl rfl rfl ?_
      refine st_aloadF (p' := 26) rfl rfl rfl ?_
      refine st_slen (p' := 27) (q := 5) rfl rfl (by decide) ?_
      refine st_push (p' := 28) rfl rfl ?_
      refine st_ii (p' := 29) (z := 0) rfl rfl (by decide +kernel) ?_
      refine st_icF (p' := 32) rfl (by decide +kernel) rfl ?_
      refine st_aloadF (p' := 33) rfl rfl rfl ?_
      refine st_iload (p' := 35) rfl rfl rfl ?_
      refine st_sld (p' := 36) (x := xs 0) rfl rfl (by decide) (by decide +kernel) (congrArg xs (by decide)) ?_
      refine st_push (p' := 38) rfl rfl ?_
      refine st_ii (p' := 39) (z := 17) rfl rfl hk ?_
      refine st_tsw (p' := 1413) rfl (by decide +kernel) ?_
      refine st_aload (p' := 1414) rfl rfl rfl ?_
      refine st_aloadF (p' := 1415) rfl rfl rfl ?_
      refine st_iload (p' := 1417) rfl rfl rfl ?_
      refine st_push (p' := 1418) rfl rfl ?_
      refine st_ii (p' := 1419) (z := 1) rfl rfl (by decide +kernel) ?_
      refine st_sld (p' := 1420) (x := xs 1) rfl rfl (by decide) (by decide +kernel) (congrArg xs (by decide)) ?_
      refine st_aloadF (p' := 1421) rfl rfl rfl ?_
      refine st_iload (p' := 1423) rfl rfl rfl ?_
      refine st_push (p' := 1424) rfl rfl ?_
      refine st_ii (p' := 1425) (z := 2) rfl rfl (by decide +kernel) ?_
      refine st_sld (p' := 1426) (x := xs 2) rfl rfl (by decide) (by decide +kernel) (congrArg xs (by decide)) ?_
      refine st_ifT (p' := 1433) rfl (q_z z_xs2) rfl ?_
      refine st_push (p' := 1434) rfl rfl ?_
      refine st_aload (p' := 1435) rfl rfl rfl ?_
      refine st_inv (p' := 1438) (av := [.ref 0, .int (xs 1), .int 0, .ref 104]) (s' := [.int r]) rfl rfl a1 rfl rfl rfl rfl rfl ?_
      refine st_istore (p' := 1440) (l' := [(5, .int r), (4, .int 0), (3, .ref 104), (2, .ref 82), (1, .ref 0), (0, .float 0)]) rfl rfl (by decide) rfl ?_
      refine st_aload (p' := 1441) rfl rfl rfl ?_
      refine st_aloadF (p' := 1442) rfl rfl rfl ?_
      refine st_iload (p' := 1444) rfl rfl rfl ?_
      refine st_push (p' := 1445) rfl rfl ?_
      refine st_ii (p' := 1446) (z := 1) rfl rfl (by decide +kernel) ?_
      refine st_sld (p' := 1447) (x := xs 1) rfl rfl (by decide) (by decide +kernel) (congrArg xs (by decide)) ?_
      refine st_aloadF (p' := 1448) rfl rfl rfl ?_
      refine st_iload (p' := 1450) rfl rfl rfl ?_
      refine st_push (p' := 1451) rfl rfl ?_
      refine st_ii (p' := 1452) (z := 2) rfl rfl (by decide +kernel) ?_
      refine st_sld (p' := 1453) (x := xs 2) rfl rfl (by decide) (by decide +kernel) (congrArg xs (by decide)) ?_
      refine st_ifT (p' := 1460) rfl (q_z z_xs2) rfl ?_
      refine st_push (p' := 1461) rfl rfl ?_
      refine st_inv (p' := 1464) (av := [.ref 82, .int (xs 1), .int 0]) (s' := [.int b]) rfl rfl a2 rfl rfl (q_recv (g1 ..)) rfl rfl ?_
      refine st_istore (p' := 1466) (l' := [(6, .int b), (5, .int r), (4, .int 0), (3, .ref 104), (2, .ref 82), (1, .ref 0), (0, .float 0)]) rfl rfl (by decide) rfl ?_
      refine st_aload (p' := 1467) rfl rfl rfl ?_
      refine st_inv (p' := 1470) (av := [.ref 82]) (s' := [.int r]) rfl rfl a3 rfl rfl (q_recv (g2 ..)) rfl rfl ?_
      refine st_iload (p' := 1472) rfl rfl rfl ?_
      refine st_icT (p' := 1477) rfl q_eqr rfl ?_
      refine st_iload (p' := 1479) rfl rfl rfl ?_
      refine st_ifF (p' := 1482) rfl (q_nz' z_r) rfl ?_
      refine st_aload (p' := 1483) rfl rfl rfl ?_
      refine st_push (p' := 1484) rfl rfl ?_
      refine st_lld (p' := 1485) (j := 0) (v := .long b.toInt64) rfl rfl (g3 z_r) (by decide) (by decide) rfl rfl ?_
      refine st_iload (p' := 1487) rfl rfl rfl ?_
      refine st_i (p' := 1488) (v := .long b.toInt64) rfl rfl rfl ?_
      refine st_ll (p' := 1489) (v := .int 0) rfl rfl (q_cmp _) ?_
      refine st_ifT (p' := 1494) rfl (by decide +kernel) rfl ?_
      refine st_goto rfl ?_
      refine st_iinc (p' := 2119) (l' := [(4, .int 5), (6, .int b), (5, .int r), (3, .ref 104), (2, .ref 82), (1, .ref 0), (0, .float 0)]) (z := 5) rfl rfl (by decide) rfl (by decide) rfl ?_
      refine st_goto rfl ?_
      refine st_iload (p' := 25) rfl rfl rfl ?_
      refine st_aloadF (p' := 26) rfl rfl rfl ?_
      refine st_slen (p' := 27) (q := 5) rfl rfl (by decide) ?_
      refine st_push (p' := 28) rfl rfl ?_
      refine st_ii (p' := 29) (z := 0) rfl rfl (by decide +kernel) ?_
      refine st_icT (p' := 2122) rfl (by decide +kernel) rfl ?_
      refine st_push (p' := 2123) rfl rfl ?_
      exact st_ret_i rfl
    · refine st_iload (p' := 25) rfl rfl rfl ?_
      refine st_aloadF (p' := 26) rfl rfl rfl ?_
      refine st_slen (p' := 27) (q := 5) rfl rfl (by decide) ?_
      refine st_push (p' := 28) rfl rfl ?_
      refine st_ii (p' := 29) (z := 0) rfl rfl (by decide +kernel) ?_
      refine st_icF (p' := 32) rfl (by decide +kernel) rfl ?_
      refine st_aloadF (p' := 33) rfl rfl rfl ?_
      refine st_iload (p' := 35) rfl rfl rfl ?_
      refine st_sld (p' := 36) (x := xs 0) rfl rfl (by decide) (by decide +kernel) (congrArg xs (by decide)) ?_
      refine st_push (p' := 38) rfl rfl ?_
      refine st_ii (p' := 39) (z := 17) rfl rfl hk ?_
      refine st_tsw (p' := 1413) rfl (by decide +kernel) ?_
      refine st_aload (p' := 1414) rfl rfl rfl ?_
      refine st_aloadF (p' := 1415) rfl rfl rfl ?_
      refine st_iload (p' := 1417) rfl rfl rfl ?_
      refine st_push (p' := 1418) rfl rfl ?_
      refine st_ii (p' := 1419) (z := 1) rfl rfl (by decide +kernel) ?_
      refine st_sld (p' := 1420) (x := xs 1) rfl rfl (by decide) (by decide +kernel) (congrArg xs (by decide)) ?_
      refine st_aloadF (p' := 1421) rfl rfl rfl ?_
      refine st_iload (p' := 1423) rfl rfl rfl ?_
      refine st_push (p' := 1424) rfl rfl ?_
      refine st_ii (p' := 1425) (z := 2) rfl rfl (by decide +kernel) ?_
      refine st_sld (p' := 1426) (x := xs 2) rfl rfl (by decide) (by decide +kernel) (congrArg xs (by decide)) ?_
      refine st_ifT (p' := 1433) rfl (q_z z_xs2) rfl ?_
      refine st_push (p' := 1434) rfl rfl ?_
      refine st_aload (p' := 1435) rfl rfl rfl ?_
      refine st_inv (p' := 1438) (av := [.ref 0, .int (xs 1), .int 0, .ref 104]) (s' := [.int r]) rfl rfl a1 rfl rfl rfl rfl rfl ?_
      refine st_istore (p' := 1440) (l' := [(5, .int r), (4, .int 0), (3, .ref 104), (2, .ref 82), (1, .ref 0), (0, .float 0)]) rfl rfl (by decide) rfl ?_
      refine st_aload (p' := 1441) rfl rfl rfl ?_
      refine st_aloadF (p' := 1442) rfl rfl rfl ?_
      refine st_iload (p' := 1444) rfl rfl rfl ?_
      refine st_push (p' := 1445) rfl rfl ?_
      refine st_ii (p' := 1446) (z := 1) rfl rfl (by decide +kernel) ?_
      refine st_sld (p' := 1447) (x := xs 1) rfl rfl (by decide) (by decide +kernel) (congrArg xs (by decide)) ?_
      refine st_aloadF (p' := 1448) rfl rfl rfl ?_
      refine st_iload (p' := 1450) rfl rfl rfl ?_
      refine st_push (p' := 1451) rfl rfl ?_
      refine st_ii (p' := 1452) (z := 2) rfl rfl (by decide +kernel) ?_
      refine st_sld (p' := 1453) (x := xs 2) rfl rfl (by decide) (by decide +kernel) (congrArg xs (by decide)) ?_
      refine st_ifT (p' := 1460) rfl (q_z z_xs2) rfl ?_
      refine st_push (p' := 1461) rfl rfl ?_
      refine st_inv (p' := 1464) (av := [.ref 82, .int (xs 1), .int 0]) (s' := [.int b]) rfl rfl a2 rfl rfl (q_recv (g1 ..)) rfl rfl ?_
      refine st_istore (p' := 1466) (l' := [(6, .int b), (5, .int r), (4, .int 0), (3, .ref 104), (2, .ref 82), (1, .ref 0), (0, .float 0)]) rfl rfl (by decide) rfl ?_
      refine st_aload (p' := 1467) rfl rfl rfl ?_
      refine st_inv (p' := 1470) (av := [.ref 82]) (s' := [.int r]) rfl rfl a3 rfl rfl (q_recv (g2 ..)) rfl rfl ?_
      refine st_iload (p' := 1472) rfl rfl rfl ?_
      refine st_icT (p' := 1477) rfl q_eqr rfl ?_
      refine st_iload (p' := 1479) rfl rfl rfl ?_
      refine st_ifT (p' := 1494) rfl (q_nz z_r) rfl ?_
      refine st_goto rfl ?_
      refine st_iinc (p' := 2119) (l' := [(4, .int 5), (6, .int b), (5, .int r), (3, .ref 104), (2, .ref 82), (1, .ref 0), (0, .float 0)]) (z := 5) rfl rfl (by decide) rfl (by decide) rfl ?_
      refine st_goto rfl ?_
      refine st_iload (p' := 25) rfl rfl rfl ?_
      refine st_aloadF (p' := 26) rfl rfl rfl ?_
      refine st_slen (p' := 27) (q := 5) rfl rfl (by decide) ?_
      refine st_push (p' := 28) rfl rfl ?_
      refine st_ii (p' := 29) (z := 0) rfl rfl (by decide +kernel) ?_
      refine st_icT (p' := 2122) rfl (by decide +kernel) rfl ?_
      refine st_push (p' := 2123) rfl rfl ?_
      exact st_ret_i rfl
  · obtain ⟨r, b, h1, h2, f1, f2, a1, g1, a2, g2, a3, g3, g4, g5⟩ := ha 1 (.inr rfl)
    refine ⟨h2, ?_, g4, g5⟩
    by_cases z_r : r = 0
    · refine st_iload (p' := 25) rfl rfl rfl ?_
      refine st_aloadF (p' := 26) rfl rfl rfl ?_
      refine st_slen (p' := 27) (q := 5) rfl rfl (by decide) ?_
      refine st_push (p' := 28) rfl rfl ?_
      refine st_ii (p' := 29) (z := 0) rfl rfl (by decide +kernel) ?_
      refine st_icF (p' := 32) rfl (by decide +kernel) rfl ?_
      refine st_aloadF (p' := 33) rfl rfl rfl ?_
      refine st_iload (p' := 35) rfl rfl rfl ?_
      refine st_sld (p' := 36) (x := xs 0) rfl rfl (by decide) (by decide +kernel) (congrArg xs (by decide)) ?_
      refine st_push (p' := 38) rfl rfl ?_
      refine st_ii (p' := 39) (z := 17) rfl rfl hk ?_
      refine st_tsw (p' := 1413) rfl (by decide +kernel) ?_
      refine st_aload (p' := 1414) rfl rfl rfl ?_
      refine st_aloadF (p' := 1415) rfl rfl rfl ?_
      refine st_iload (p' := 1417) rfl rfl rfl ?_
      refine st_push (p' := 1418) rfl rfl ?_
      refine st_ii (p' := 1419) (z := 1) rfl rfl (by decide +kernel) ?_
      refine st_sld (p' := 1420) (x := xs 1) rfl rfl (by decide) (by decide +kernel) (congrArg xs (by decide)) ?_
      refine st_aloadF (p' := 1421) rfl rfl rfl ?_
      refine st_iload (p' := 1423) rfl rfl rfl ?_
      refine st_push (p' := 1424) rfl rfl ?_
      refine st_ii (p' := 1425) (z := 2) rfl rfl (by decide +kernel) ?_
      refine st_sld (p' := 1426) (x := xs 2) rfl rfl (by decide) (by decide +kernel) (congrArg xs (by decide)) ?_
      refine st_ifF (p' := 1429) rfl (q_z' z_xs2) rfl ?_
      refine st_push (p' := 1430) rfl rfl ?_
      refine st_goto rfl ?_
      refine st_aload (p' := 1435) rfl rfl rfl ?_
      refine st_inv (p' := 1438) (av := [.ref 0, .int (xs 1), .int 1, .ref 104]) (s' := [.int r]) rfl rfl a1 rfl rfl rfl rfl rfl ?_
      refine st_istore (p' := 1440) (l' := [(5, .int r), (4, .int 0), (3, .ref 104), (2, .ref 82), (1, .ref 0), (0, .float 0)]) rfl rfl (by decide) rfl ?_
      refine st_aload (p' := 1441) rfl rfl rfl ?_
      refine st_aloadF (p' := 1442) rfl rfl rfl ?_
      refine st_iload (p' := 1444) rfl rfl rfl ?_
      refine st_push (p' := 1445) rfl rfl ?_
      refine st_ii (p' := 1446) (z := 1) rfl rfl (by decide +kernel) ?_
      refine st_sld (p' := 1447) (x := xs 1) rfl rfl (by decide) (by decide +kernel) (congrArg xs (by decide)) ?_
      refine st_aloadF (p' := 1448) rfl rfl rfl ?_
      refine st_iload (p' := 1450) rfl rfl rfl ?_
      refine st_push (p' := 1451) rfl rfl ?_
      refine st_ii (p' := 1452) (z := 2) rfl rfl (by decide +kernel) ?_
      refine st_sld (p' := 1453) (x := xs 2) rfl rfl (by decide) (by decide +kernel) (congrArg xs (by decide)) ?_
      refine st_ifF (p' := 1456) rfl (q_z' z_xs2) rfl ?_
      refine st_push (p' := 1457) rfl rfl ?_
      refine st_goto rfl ?_
      refine st_inv (p' := 1464) (av := [.ref 82, .int (xs 1), .int 1]) (s' := [.int b]) rfl rfl a2 rfl rfl (q_recv (g1 ..)) rfl rfl ?_
      refine st_istore (p' := 1466) (l' := [(6, .int b), (5, .int r), (4, .int 0), (3, .ref 104), (2, .ref 82), (1, .ref 0), (0, .float 0)]) rfl rfl (by decide) rfl ?_
      refine st_aload (p' := 1467) rfl rfl rfl ?_
      refine st_inv (p' := 1470) (av := [.ref 82]) (s' := [.int r]) rfl rfl a3 rfl rfl (q_recv (g2 ..)) rfl rfl ?_
      refine st_iload (p' := 1472) rfl rfl rfl ?_
      refine st_icT (p' := 1477) rfl q_eqr rfl ?_
      refine st_iload (p' := 1479) rfl rfl rfl ?_
      refine st_ifF (p' := 1482) rfl (q_nz' z_r) rfl ?_
      refine st_aload (p' := 1483) rfl rfl rfl ?_
      refine st_push (p' := 1484) rfl rfl ?_
      refine st_lld (p' := 1485) (j := 0) (v := .long b.toInt64) rfl rfl (g3 z_r) (by decide) (by decide) rfl rfl ?_
      refine st_iload (p' := 1487) rfl rfl rfl ?_
      refine st_i (p' := 1488) (v := .long b.toInt64) rfl rfl rfl ?_
      refine st_ll (p' := 1489) (v := .int 0) rfl rfl (q_cmp _) ?_
      refine st_ifT (p' := 1494) rfl (by decide +kernel) rfl ?_
      refine st_goto rfl ?_
      refine st_iinc (p' := 2119) (l' := [(4, .int 5), (6, .int b), (5, .int r), (3, .ref 104), (2, .ref 82), (1, .ref 0), (0, .float 0)]) (z := 5) rfl rfl (by decide) rfl (by decide) rfl ?_
      refine st_goto rfl ?_
      refine st_iload (p' := 25) rfl rfl rfl ?_
      refine st_aloadF (p' := 26) rfl rfl rfl ?_
      refine st_slen (p' := 27) (q := 5) rfl rfl (by decide) ?_
      refine st_push (p' := 28) rfl rfl ?_
      refine st_ii (p' := 29) (z := 0) rfl rfl (by decide +kernel) ?_
      refine st_icT (p' := 2122) rfl (by decide +kernel) rfl ?_
      refine st_push (p' := 2123) rfl rfl ?_
      exact st_ret_i rfl
    · refine st_iload (p' := 25) rfl rfl rfl ?_
      refine st_aloadF (p' := 26) rfl rfl rfl ?_
      refine st_slen (p' := 27) (q := 5) rfl rfl (by decide) ?_
      refine st_push (p' := 28) rfl rfl ?_
      refine st_ii (p' := 29) (z := 0) rfl rfl (by decide +kernel) ?_
      refine st_icF (p' := 32) rfl (by decide +kernel) rfl ?_
      refine st_aloadF (p' := 33) rfl rfl rfl ?_
      refine st_iload (p' := 35) rfl rfl rfl ?_
      refine st_sld (p' := 36) (x := xs 0) rfl rfl (by decide) (by decide +kernel) (congrArg xs (by decide)) ?_
      refine st_push (p' := 38) rfl rfl ?_
      refine st_ii (p' := 39) (z := 17) rfl rfl hk ?_
      refine st_tsw (p' := 1413) rfl (by decide +kernel) ?_
      refine st_aload (p' := 1414) rfl rfl rfl ?_
      refine st_aloadF (p' := 1415) rfl rfl rfl ?_
      refine st_iload (p' := 1417) rfl rfl rfl ?_
      refine st_push (p' := 1418) rfl rfl ?_
      refine st_ii (p' := 1419) (z := 1) rfl rfl (by decide +kernel) ?_
      refine st_sld (p' := 1420) (x := xs 1) rfl rfl (by decide) (by decide +kernel) (congrArg xs (by decide)) ?_
      refine st_aloadF (p' := 1421) rfl rfl rfl ?_
      refine st_iload (p' := 1423) rfl rfl rfl ?_
      refine st_push (p' := 1424) rfl rfl ?_
      refine st_ii (p' := 1425) (z := 2) rfl rfl (by decide +kernel) ?_
      refine st_sld (p' := 1426) (x := xs 2) rfl rfl (by decide) (by decide +kernel) (congrArg xs (by decide)) ?_
      refine st_ifF (p' := 1429) rfl (q_z' z_xs2) rfl ?_
      refine st_push (p' := 1430) rfl rfl ?_
      refine st_goto rfl ?_
      refine st_aload (p' := 1435) rfl rfl rfl ?_
      refine st_inv (p' := 1438) (av := [.ref 0, .int (xs 1), .int 1, .ref 104]) (s' := [.int r]) rfl rfl a1 rfl rfl rfl rfl rfl ?_
      refine st_istore (p' := 1440) (l' := [(5, .int r), (4, .int 0), (3, .ref 104), (2, .ref 82), (1, .ref 0), (0, .float 0)]) rfl rfl (by decide) rfl ?_
      refine st_aload (p' := 1441) rfl rfl rfl ?_
      refine st_aloadF (p' := 1442) rfl rfl rfl ?_
      refine st_iload (p' := 1444) rfl rfl rfl ?_
      refine st_push (p' := 1445) rfl rfl ?_
      refine st_ii (p' := 1446) (z := 1) rfl rfl (by decide +kernel) ?_
      refine st_sld (p' := 1447) (x := xs 1) rfl rfl (by decide) (by decide +kernel) (congrArg xs (by decide)) ?_
      refine st_aloadF (p' := 1448) rfl rfl rfl ?_
      refine st_iload (p' := 1450) rfl rfl rfl ?_
      refine st_push (p' := 1451) rfl rfl ?_
      refine st_ii (p' := 1452) (z := 2) rfl rfl (by decide +kernel) ?_
      refine st_sld (p' := 1453) (x := xs 2) rfl rfl (by decide) (by decide +kernel) (congrArg xs (by decide)) ?_
      refine st_ifF (p' := 1456) rfl (q_z' z_xs2) rfl ?_
      refine st_push (p' := 1457) rfl rfl ?_
      refine st_goto rfl ?_
      refine st_inv (p' := 1464) (av := [.ref 82, .int (xs 1), .int 1]) (s' := [.int b]) rfl rfl a2 rfl rfl (q_recv (g1 ..)) rfl rfl ?_
      refine st_istore (p' := 1466) (l' := [(6, .int b), (5, .int r), (4, .int 0), (3, .ref 104), (2, .ref 82), (1, .ref 0), (0, .float 0)]) rfl rfl (by decide) rfl ?_
      refine st_aload (p' := 1467) rfl rfl rfl ?_
      refine st_inv (p' := 1470) (av := [.ref 82]) (s' := [.int r]) rfl rfl a3 rfl rfl (q_recv (g2 ..)) rfl rfl ?_
      refine st_iload (p' := 1472) rfl rfl rfl ?_
      refine st_icT (p' := 1477) rfl q_eqr rfl ?_
      refine st_iload (p' := 1479) rfl rfl rfl ?_
      refine st_ifT (p' := 1494) rfl (q_nz z_r) rfl ?_
      refine st_goto rfl ?_
      refine st_iinc (p' := 2119) (l' := [(4, .int 5), (6, .int b), (5, .int r), (3, .ref 104), (2, .ref 82), (1, .ref 0), (0, .float 0)]) (z := 5) rfl rfl (by decide) rfl (by decide) rfl ?_
      refine st_goto rfl ?_
      refine st_iload (p' := 25) rfl rfl rfl ?_
      refine st_aloadF (p' := 26) rfl rfl rfl ?_
      refine st_slen (p' := 27) (q := 5) rfl rfl (by decide) ?_
      refine st_push (p' := 28) rfl rfl ?_
      refine st_ii (p' := 29) (z := 0) rfl rfl (by decide +kernel) ?_
      refine st_icT (p' := 2122) rfl (by decide +kernel) rfl ?_
      refine st_push (p' := 2123) rfl rfl ?_
      exact st_ret_i rfl
theorem law_close (xs : Nat → Int32) (hk : xs 0 &&& 31 = 18) (ha : agree 310 271 [.ref 0, .int (xs 1), .ref 104] [.ref 82, .int (xs 1)]) : LawOk xs := by
  obtain ⟨r, b, h1, h2, f1, f2, a1, g1, a2, g2, a3, g3, g4, g5⟩ := ha
  refine ⟨h2, ?_, g4, g5⟩
  by_cases z_r : r = 0
  · refine st_iload (p' := 25) rfl rfl rfl ?_
    refine st_aloadF (p' := 26) rfl rfl rfl ?_
    refine st_slen (p' := 27) (q := 5) rfl rfl (by decide) ?_
    refine st_push (p' := 28) rfl rfl ?_
    refine st_ii (p' := 29) (z := 0) rfl rfl (by decide +kernel) ?_
    refine st_icF (p' := 32) rfl (by decide +kernel) rfl ?_
    refine st_aloadF (p' := 33) rfl rfl rfl ?_
    refine st_iload (p' := 35) rfl rfl rfl ?_
    refine st_sld (p' := 36) (x := xs 0) rfl rfl (by decide) (by decide +kernel) (congrArg xs (by decide)) ?_
    refine st_push (p' := 38) rfl rfl ?_
    refine st_ii (p' := 39) (z := 18) rfl rfl hk ?_
    refine st_tsw (p' := 1497) rfl (by decide +kernel) ?_
    refine st_aload (p' := 1498) rfl rfl rfl ?_
    refine st_aloadF (p' := 1499) rfl rfl rfl ?_
    refine st_iload (p' := 1501) rfl rfl rfl ?_
    refine st_push (p' := 1502) rfl rfl ?_
    refine st_ii (p' := 1503) (z := 1) rfl rfl (by decide +kernel) ?_
    refine st_sld (p' := 1504) (x := xs 1) rfl rfl (by decide) (by decide +kernel) (congrArg xs (by decide)) ?_
    refine st_aload (p' := 1505) rfl rfl rfl ?_
    refine st_inv (p' := 1508) (av := [.ref 0, .int (xs 1), .ref 104]) (s' := [.int r]) rfl rfl a1 rfl rfl rfl rfl rfl ?_
    refine st_istore (p' := 1510) (l' := [(5, .int r), (4, .int 0), (3, .ref 104), (2, .ref 82), (1, .ref 0), (0, .float 0)]) rfl rfl (by decide) rfl ?_
    refine st_aload (p' := 1511) rfl rfl rfl ?_
    refine st_aloadF (p' := 1512) rfl rfl rfl ?_
    refine st_iload (p' := 1514) rfl rfl rfl ?_
    refine st_push (p' := 1515) rfl rfl ?_
    refine st_ii (p' := 1516) (z := 1) rfl rfl (by decide +kernel) ?_
    refine st_sld (p' := 1517) (x := xs 1) rfl rfl (by decide) (by decide +kernel) (congrArg xs (by decide)) ?_
    refine st_inv (p' := 1520) (av := [.ref 82, .int (xs 1)]) (s' := [.int b]) rfl rfl a2 rfl rfl (q_recv (g1 ..)) rfl rfl ?_
    refine st_istore (p' := 1522) (l' := [(6, .int b), (5, .int r), (4, .int 0), (3, .ref 104), (2, .ref 82), (1, .ref 0), (0, .float 0)]) rfl rfl (by decide) rfl ?_
    refine st_aload (p' := 1523) rfl rfl rfl ?_
    refine st_inv (p' := 1526) (av := [.ref 82]) (s' := [.int r]) rfl rfl a3 rfl rfl (q_recv (g2 ..)) rfl rfl ?_
    refine st_iload (p' := 1528) rfl rfl rfl ?_
    refine st_icT (p' := 1533) rfl q_eqr rfl ?_
    refine st_iload (p' := 1535) rfl rfl rfl ?_
    refine st_ifF (p' := 1538) rfl (q_nz' z_r) rfl ?_
    refine st_aload (p' := 1539) rfl rfl rfl ?_
    refine st_push (p' := 1540) rfl rfl ?_
    refine st_lld (p' := 1541) (j := 0) (v := .long b.toInt64) rfl rfl (g3 z_r) (by decide) (by decide) rfl rfl ?_
    refine st_iload (p' := 1543) rfl rfl rfl ?_
    refine st_i (p' := 1544) (v := .long b.toInt64) rfl rfl rfl ?_
    refine st_ll (p' := 1545) (v := .int 0) rfl rfl (q_cmp _) ?_
    refine st_ifT (p' := 1550) rfl (by decide +kernel) rfl ?_
    refine st_goto rfl ?_
    refine st_iinc (p' := 2119) (l' := [(4, .int 5), (6, .int b), (5, .int r), (3, .ref 104), (2, .ref 82), (1, .ref 0), (0, .float 0)]) (z := 5) rfl rfl (by decide) rfl (by decide) rfl ?_
    refine st_goto rfl ?_
    refine st_iload (p' := 25) rfl rfl rfl ?_
    refine st_aloadF (p' := 26) rfl rfl rfl ?_
    refine st_slen (p' := 27) (q := 5) rfl rfl (by decide) ?_
    refine st_push (p' := 28) rfl rfl ?_
    refine st_ii (p' := 29) (z := 0) rfl rfl (by decide +kernel) ?_
    refine st_icT (p' := 2122) rfl (by decide +kernel) rfl ?_
    refine st_push (p' := 2123) rfl rfl ?_
    exact st_ret_i rfl
  · refine st_iload (p' := 25) rfl rfl rfl ?_
    refine st_aloadF (p' := 26) rfl rfl rfl ?_
    refine st_slen (p' := 27) (q := 5) rfl rfl (by decide) ?_
    refine st_push (p' := 28) rfl rfl ?_
    refine st_ii (p' := 29) (z := 0) rfl rfl (by decide +kernel) ?_
    refine st_icF (p' := 32) rfl (by decide +kernel) rfl ?_
    refine st_aloadF (p' := 33) rfl rfl rfl ?_
    refine st_iload (p' := 35) rfl rfl rfl ?_
    refine st_sld (p' := 36) (x := xs 0) rfl rfl (by decide) (by decide +kernel) (congrArg xs (by decide)) ?_
    refine st_push (p' := 38) rfl rfl ?_
    refine st_ii (p' := 39) (z := 18) rfl rfl hk ?_
    refine st_tsw (p' := 1497) rfl (by decide +kernel) ?_
    refine st_aload (p' := 1498) rfl rfl rfl ?_
    refine st_aloadF (p' := 1499) rfl rfl rfl ?_
    refine st_iload (p' := 1501) rfl rfl rfl ?_
    refine st_push (p' := 1502) rfl rfl ?_
    refine st_ii (p' := 1503) (z := 1) rfl rfl (by decide +kernel) ?_
    refine st_sld (p' := 1504) (x := xs 1) rfl rfl (by decide) (by decide +kernel) (congrArg xs (by decide)) ?_
    refine st_aload (p' := 1505) rfl rfl rfl ?_
    refine st_inv (p' := 1508) (av := [.ref 0, .int (xs 1), .ref 104]) (s' := [.int r]) rfl rfl a1 rfl rfl rfl rfl rfl ?_
    refine st_istore (p' := 1510) (l' := [(5, .int r), (4, .int 0), (3, .ref 104), (2, .ref 82), (1, .ref 0), (0, .float 0)]) rfl rfl (by decide) rfl ?_
    refine st_aload (p' := 1511) rfl rfl rfl ?_
    refine st_aloadF (p' := 1512) rfl rfl rfl ?_
    refine st_iload (p' := 1514) rfl rfl rfl ?_
    refine st_push (p' := 1515) rfl rfl ?_
    refine st_ii (p' := 1516) (z := 1) rfl rfl (by decide +kernel) ?_
    refine st_sld (p' := 1517) (x := xs 1) rfl rfl (by decide) (by decide +kernel) (congrArg xs (by decide)) ?_
    refine st_inv (p' := 1520) (av := [.ref 82, .int (xs 1)]) (s' := [.int b]) rfl rfl a2 rfl rfl (q_recv (g1 ..)) rfl rfl ?_
    refine st_istore (p' := 1522) (l' := [(6, .int b), (5, .int r), (4, .int 0), (3, .ref 104), (2, .ref 82), (1, .ref 0), (0, .float 0)]) rfl rfl (by decide) rfl ?_
    refine st_aload (p' := 1523) rfl rfl rfl ?_
    refine st_inv (p' := 1526) (av := [.ref 82]) (s' := [.int r]) rfl rfl a3 rfl rfl (q_recv (g2 ..)) rfl rfl ?_
    refine st_iload (p' := 1528) rfl rfl rfl ?_
    refine st_icT (p' := 1533) rfl q_eqr rfl ?_
    refine st_iload (p' := 1535) rfl rfl rfl ?_
    refine st_ifT (p' := 1550) rfl (q_nz z_r) rfl ?_
    refine st_goto rfl ?_
    refine st_iinc (p' := 2119) (l' := [(4, .int 5), (6, .int b), (5, .int r), (3, .ref 104), (2, .ref 82), (1, .ref 0), (0, .float 0)]) (z := 5) rfl rfl (by decide) rfl (by decide) rfl ?_
    refine st_goto rfl ?_
    refine st_iload (p' := 25) rfl rfl rfl ?_
    refine st_aloadF (p' := 26) rfl rfl rfl ?_
    refine st_slen (p' := 27) (q := 5) rfl rfl (by decide) ?_
    refine st_push (p' := 28) rfl rfl ?_
    refine st_ii (p' := 29) (z := 0) rfl rfl (by decide +kernel) ?_
    refine st_icT (p' := 2122) rfl (by decide +kernel) rfl ?_
    refine st_push (p' := 2123) rfl rfl ?_
    exact st_ret_i rfl
theorem law_call (xs : Nat → Int32) (hk : xs 0 &&& 31 = 19) (ha : agree 311 274 [.ref 0, .int (xs 1), .int (xs 2), .ref 104] [.ref 82, .int (xs 1), .int (xs 2)]) : LawOk xs := by
  obtain ⟨r, b, h1, h2, f1, f2, a1, g1, a2, g2, a3, g3, g4, g5⟩ := ha
  refine ⟨h2, ?_, g4, g5⟩
  by_cases z_r : r = 0
  · refine st_iload (p' := 25) rfl rfl rfl ?_
    refine st_aloadF (p' := 26) rfl rfl rfl ?_
    refine st_slen (p' := 27) (q := 5) rfl rfl (by decide) ?_
    refine st_push (p' := 28) rfl rfl ?_
    refine st_ii (p' := 29) (z := 0) rfl rfl (by decide +kernel) ?_
    refine st_icF (p' := 32) rfl (by decide +kernel) rfl ?_
    refine st_aloadF (p' := 33) rfl rfl rfl ?_
    refine st_iload (p' := 35) rfl rfl rfl ?_
    refine st_sld (p' := 36) (x := xs 0) rfl rfl (by decide) (by decide +kernel) (congrArg xs (by decide)) ?_
    refine st_push (p' := 38) rfl rfl ?_
    refine st_ii (p' := 39) (z := 19) rfl rfl hk ?_
    refine st_tsw (p' := 1553) rfl (by decide +kernel) ?_
    refine st_aload (p' := 1554) rfl rfl rfl ?_
    refine st_aloadF (p' := 1555) rfl rfl rfl ?_
    refine st_iload (p' := 1557) rfl rfl rfl ?_
    refine st_push (p' := 1558) rfl rfl ?_
    refine st_ii (p' := 1559) (z := 1) rfl rfl (by decide +kernel) ?_
    refine st_sld (p' := 1560) (x := xs 1) rfl rfl (by decide) (by decide +kernel) (congrArg xs (by decide)) ?_
    refine st_aloadF (p' := 1561) rfl rfl rfl ?_
    refine st_iload (p' := 1563) rfl rfl rfl ?_
    refine st_push (p' := 1564) rfl rfl ?_
    refine st_ii (p' := 1565) (z := 2) rfl rfl (by decide +kernel) ?_
    refine st_sld (p' := 1566) (x := xs 2) rfl rfl (by decide) (by decide +kernel) (congrArg xs (by decide)) ?_
    refine st_aload (p' := 1567) rfl rfl rfl ?_
    refine st_inv (p' := 1570) (av := [.ref 0, .int (xs 1), .int (xs 2), .ref 104]) (s' := [.int r]) rfl rfl a1 rfl rfl rfl rfl rfl ?_
    refine st_istore (p' := 1572) (l' := [(5, .int r), (4, .int 0), (3, .ref 104), (2, .ref 82), (1, .ref 0), (0, .float 0)]) rfl rfl (by decide) rfl ?_
    refine st_aload (p' := 1573) rfl rfl rfl ?_
    refine st_aloadF (p' := 1574) rfl rfl rfl ?_
    refine st_iload (p' := 1576) rfl rfl rfl ?_
    refine st_push (p' := 1577) rfl rfl ?_
    refine st_ii (p' := 1578) (z := 1) rfl rfl (by decide +kernel) ?_
    refine st_sld (p' := 1579) (x := xs 1) rfl rfl (by decide) (by decide +kernel) (congrArg xs (by decide)) ?_
    refine st_aloadF (p' := 1580) rfl rfl rfl ?_
    refine st_iload (p' := 1582) rfl rfl rfl ?_
    refine st_push (p' := 1583) rfl rfl ?_
    refine st_ii (p' := 1584) (z := 2) rfl rfl (by decide +kernel) ?_
    refine st_sld (p' := 1585) (x := xs 2) rfl rfl (by decide) (by decide +kernel) (congrArg xs (by decide)) ?_
    refine st_inv (p' := 1588) (av := [.ref 82, .int (xs 1), .int (xs 2)]) (s' := [.int b]) rfl rfl a2 rfl rfl (q_recv (g1 ..)) rfl rfl ?_
    refine st_istore (p' := 1590) (l' := [(6, .int b), (5, .int r), (4, .int 0), (3, .ref 104), (2, .ref 82), (1, .ref 0), (0, .float 0)]) rfl rfl (by decide) rfl ?_
    refine st_aload (p' := 1591) rfl rfl rfl ?_
    refine st_inv (p' := 1594) (av := [.ref 82]) (s' := [.int r]) rfl rfl a3 rfl rfl (q_recv (g2 ..)) rfl rfl ?_
    refine st_iload (p' := 1596) rfl rfl rfl ?_
    refine st_icT (p' := 1601) rfl q_eqr rfl ?_
    refine st_iload (p' := 1603) rfl rfl rfl ?_
    refine st_ifF (p' := 1606) rfl (q_nz' z_r) rfl ?_
    refine st_aload (p' := 1607) rfl rfl rfl ?_
    refine st_push (p' := 1608) rfl rfl ?_
    refine st_lld (p' := 1609) (j := 0) (v := .long b.toInt64) rfl rfl (g3 z_r) (by decide) (by decide) rfl rfl ?_
    refine st_iload (p' := 1611) rfl rfl rfl ?_
    refine st_i (p' := 1612) (v := .long b.toInt64) rfl rfl rfl ?_
    refine st_ll (p' := 1613) (v := .int 0) rfl rfl (q_cmp _) ?_
    refine st_ifT (p' := 1618) rfl (by decide +kernel) rfl ?_
    refine st_goto rfl ?_
    refine st_iinc (p' := 2119) (l' := [(4, .int 5), (6, .int b), (5, .int r), (3, .ref 104), (2, .ref 82), (1, .ref 0), (0, .float 0)]) (z := 5) rfl rfl (by decide) rfl (by decide) rfl ?_
    refine st_goto rfl ?_
    refine st_iload (p' := 25) rfl rfl rfl ?_
    refine st_aloadF (p' := 26) rfl rfl rfl ?_
    refine st_slen (p' := 27) (q := 5) rfl rfl (by decide) ?_
    refine st_push (p' := 28) rfl rfl ?_
    refine st_ii (p' := 29) (z := 0) rfl rfl (by decide +kernel) ?_
    refine st_icT (p' := 2122) rfl (by decide +kernel) rfl ?_
    refine st_push (p' := 2123) rfl rfl ?_
    exact st_ret_i rfl
  · refine st_iload (p' := 25) rfl rfl rfl ?_
    refine st_aloadF (p' := 26) rfl rfl rfl ?_
    refine st_slen (p' := 27) (q := 5) rfl rfl (by decide) ?_
    refine st_push (p' := 28) rfl rfl ?_
    refine st_ii (p' := 29) (z := 0) rfl rfl (by decide +kernel) ?_
    refine st_icF (p' := 32) rfl (by decide +kernel) rfl ?_
    refine st_aloadF (p' := 33) rfl rfl rfl ?_
    refine st_iload (p' := 35) rfl rfl rfl ?_
    refine st_sld (p' := 36) (x := xs 0) rfl rfl (by decide) (by decide +kernel) (congrArg xs (by decide)) ?_
    refine st_push (p' := 38) rfl rfl ?_
    refine st_ii (p' := 39) (z := 19) rfl rfl hk ?_
    refine st_tsw (p' := 1553) rfl (by decide +kernel) ?_
    refine st_aload (p' := 1554) rfl rfl rfl ?_
    refine st_aloadF (p' := 1555) rfl rfl rfl ?_
    refine st_iload (p' := 1557) rfl rfl rfl ?_
    refine st_push (p' := 1558) rfl rfl ?_
    refine st_ii (p' := 1559) (z := 1) rfl rfl (by decide +kernel) ?_
    refine st_sld (p' := 1560) (x := xs 1) rfl rfl (by decide) (by decide +kernel) (congrArg xs (by decide)) ?_
    refine st_aloadF (p' := 1561) rfl rfl rfl ?_
    refine st_iload (p' := 1563) rfl rfl rfl ?_
    refine st_push (p' := 1564) rfl rfl ?_
    refine st_ii (p' := 1565) (z := 2) rfl rfl (by decide +kernel) ?_
    refine st_sld (p' := 1566) (x := xs 2) rfl rfl (by decide) (by decide +kernel) (congrArg xs (by decide)) ?_
    refine st_aload (p' := 1567) rfl rfl rfl ?_
    refine st_inv (p' := 1570) (av := [.ref 0, .int (xs 1), .int (xs 2), .ref 104]) (s' := [.int r]) rfl rfl a1 rfl rfl rfl rfl rfl ?_
    refine st_istore (p' := 1572) (l' := [(5, .int r), (4, .int 0), (3, .ref 104), (2, .ref 82), (1, .ref 0), (0, .float 0)]) rfl rfl (by decide) rfl ?_
    refine st_aload (p' := 1573) rfl rfl rfl ?_
    refine st_aloadF (p' := 1574) rfl rfl rfl ?_
    refine st_iload (p' := 1576) rfl rfl rfl ?_
    refine st_push (p' := 1577) rfl rfl ?_
    refine st_ii (p' := 1578) (z := 1) rfl rfl (by decide +kernel) ?_
    refine st_sld (p' := 1579) (x := xs 1) rfl rfl (by decide) (by decide +kernel) (congrArg xs (by decide)) ?_
    refine st_aloadF (p' := 1580) rfl rfl rfl ?_
    refine st_iload (p' := 1582) rfl rfl rfl ?_
    refine st_push (p' := 1583) rfl rfl ?_
    refine st_ii (p' := 1584) (z := 2) rfl rfl (by decide +kernel) ?_
    refine st_sld (p' := 1585) (x := xs 2) rfl rfl (by decide) (by decide +kernel) (congrArg xs (by decide)) ?_
    refine st_inv (p' := 1588) (av := [.ref 82, .int (xs 1), .int (xs 2)]) (s' := [.int b]) rfl rfl a2 rfl rfl (q_recv (g1 ..)) rfl rfl ?_
    refine st_istore (p' := 1590) (l' := [(6, .int b), (5, .int r), (4, .int 0), (3, .ref 104), (2, .ref 82), (1, .ref 0), (0, .float 0)]) rfl rfl (by decide) rfl ?_
    refine st_aload (p' := 1591) rfl rfl rfl ?_
    refine st_inv (p' := 1594) (av := [.ref 82]) (s' := [.int r]) rfl rfl a3 rfl rfl (q_recv (g2 ..)) rfl rfl ?_
    refine st_iload (p' := 1596) rfl rfl rfl ?_
    refine st_icT (p' := 1601) rfl q_eqr rfl ?_
    refine st_iload (p' := 1603) rfl rfl rfl ?_
    refine st_ifT (p' := 1618) rfl (q_nz z_r) rfl ?_
    refine st_goto rfl ?_
    refine st_iinc (p' := 2119) (l' := [(4, .int 5), (6, .int b), (5, .int r), (3, .ref 104), (2, .ref 82), (1, .ref 0), (0, .float 0)]) (z := 5) rfl rfl (by decide) rfl (by decide) rfl ?_
    refine st_goto rfl ?_
    refine st_iload (p' := 25) rfl rfl rfl ?_
    refine st_aloadF (p' := 26) rfl rfl rfl ?_
    refine st_slen (p' := 27) (q := 5) rfl rfl (by decide) ?_
    refine st_push (p' := 28) rfl rfl ?_
    refine st_ii (p' := 29) (z := 0) rfl rfl (by decide +kernel) ?_
    refine st_icT (p' := 2122) rfl (by decide +kernel) rfl ?_
    refine st_push (p' := 2123) rfl rfl ?_
    exact st_ret_i rfl
theorem law_ofBinding (xs : Nat → Int32) (hk : xs 0 &&& 31 = 20) (ha : agree 312 276 [.ref 0, .int (xs 1), .int (xs 2), .int (xs 3), .ref 104] [.ref 82, .int (xs 1), .int (xs 2), .int (xs 3)]) : LawOk xs := by
  obtain ⟨r, b, h1, h2, f1, f2, a1, g1, a2, g2, a3, g3, g4, g5⟩ := ha
  refine ⟨h2, ?_, g4, g5⟩
  by_cases z_r : r = 0
  · refine st_iload (p' := 25) rfl rfl rfl ?_
    refine st_aloadF (p' := 26) rfl rfl rfl ?_
    refine st_slen (p' := 27) (q := 5) rfl rfl (by decide) ?_
    refine st_push (p' := 28) rfl rfl ?_
    refine st_ii (p' := 29) (z := 0) rfl rfl (by decide +kernel) ?_
    refine st_icF (p' := 32) rfl (by decide +kernel) rfl ?_
    refine st_aloadF (p' := 33) rfl rfl rfl ?_
    refine st_iload (p' := 35) rfl rfl rfl ?_
    refine st_sld (p' := 36) (x := xs 0) rfl rfl (by decide) (by decide +kernel) (congrArg xs (by decide)) ?_
    refine st_push (p' := 38) rfl rfl ?_
    refine st_ii (p' := 39) (z := 20) rfl rfl hk ?_
    refine st_tsw (p' := 1621) rfl (by decide +kernel) ?_
    refine st_aload (p' := 1622) rfl rfl rfl ?_
    refine st_aloadF (p' := 1623) rfl rfl rfl ?_
    refine st_iload (p' := 1625) rfl rfl rfl ?_
    refine st_push (p' := 1626) rfl rfl ?_
    refine st_ii (p' := 1627) (z := 1) rfl rfl (by decide +kernel) ?_
    refine st_sld (p' := 1628) (x := xs 1) rfl rfl (by decide) (by decide +kernel) (congrArg xs (by decide)) ?_
    refine st_aloadF (p' := 1629) rfl rfl rfl ?_
    refine st_iload (p' := 1631) rfl rfl rfl ?_
    refine st_push (p' := 1632) rfl rfl ?_
    refine st_ii (p' := 1633) (z := 2) rfl rfl (by decide +kernel) ?_
    refine st_sld (p' := 1634) (x := xs 2) rfl rfl (by decide) (by decide +kernel) (congrArg xs (by decide)) ?_
    refine st_aloadF (p' := 1635) rfl rfl rfl ?_
    refine st_iload (p' := 1637) rfl rfl rfl ?_
    refine st_push (p' := 1638) rfl rfl ?_
    refine st_ii (p' := 1639) (z := 3) rfl rfl (by decide +kernel) ?_
    refine st_sld (p' := 1640) (x := xs 3) rfl rfl (by decide) (by decide +kernel) (congrArg xs (by decide)) ?_
    refine st_aload (p' := 1641) rfl rfl rfl ?_
    refine st_inv (p' := 1644) (av := [.ref 0, .int (xs 1), .int (xs 2), .int (xs 3), .ref 104]) (s' := [.int r]) rfl rfl a1 rfl rfl rfl rfl rfl ?_
    refine st_istore (p' := 1646) (l' := [(5, .int r), (4, .int 0), (3, .ref 104), (2, .ref 82), (1, .ref 0), (0, .float 0)]) rfl rfl (by decide) rfl ?_
    refine st_aload (p' := 1647) rfl rfl rfl ?_
    refine st_aloadF (p' := 1648) rfl rfl rfl ?_
    refine st_iload (p' := 1650) rfl rfl rfl ?_
    refine st_push (p' := 1651) rfl rfl ?_
    refine st_ii (p' := 1652) (z := 1) rfl rfl (by decide +kernel) ?_
    refine st_sld (p' := 1653) (x := xs 1) rfl rfl (by decide) (by decide +kernel) (congrArg xs (by decide)) ?_
    refine st_aloadF (p' := 1654) rfl rfl rfl ?_
    refine st_iload (p' := 1656) rfl rfl rfl ?_
    refine st_push (p' := 1657) rfl rfl ?_
    refine st_ii (p' := 1658) (z := 2) rfl rfl (by decide +kernel) ?_
    refine st_sld (p' := 1659) (x := xs 2) rfl rfl (by decide) (by decide +kernel) (congrArg xs (by decide)) ?_
    refine st_aloadF (p' := 1660) rfl rfl rfl ?_
    refine st_iload (p' := 1662) rfl rfl rfl ?_
    refine st_push (p' := 1663) rfl rfl ?_
    refine st_ii (p' := 1664) (z := 3) rfl rfl (by decide +kernel) ?_
    refine st_sld (p' := 1665) (x := xs 3) rfl rfl (by decide) (by decide +kernel) (congrArg xs (by decide)) ?_
    refine st_inv (p' := 1668) (av := [.ref 82, .int (xs 1), .int (xs 2), .int (xs 3)]) (s' := [.int b]) rfl rfl a2 rfl rfl (q_recv (g1 ..)) rfl rfl ?_
    refine st_istore (p' := 1670) (l' := [(6, .int b), (5, .int r), (4, .int 0), (3, .ref 104), (2, .ref 82), (1, .ref 0), (0, .float 0)]) rfl rfl (by decide) rfl ?_
    refine st_aload (p' := 1671) rfl rfl rfl ?_
    refine st_inv (p' := 1674) (av := [.ref 82]) (s' := [.int r]) rfl rfl a3 rfl rfl (q_recv (g2 ..)) rfl rfl ?_
    refine st_iload (p' := 1676) rfl rfl rfl ?_
    refine st_icT (p' := 1681) rfl q_eqr rfl ?_
    refine st_iload (p' := 1683) rfl rfl rfl ?_
    refine st_ifF (p' := 1686) rfl (q_nz' z_r) rfl ?_
    refine st_aload (p' := 1687) rfl rfl rfl ?_
    refine st_push (p' := 1688) rfl rfl ?_
    refine st_lld (p' := 1689) (j := 0) (v := .long b.toInt64) rfl rfl (g3 z_r) (by decide) (by decide) rfl rfl ?_
    refine st_iload (p' := 1691) rfl rfl rfl ?_
    refine st_i (p' := 1692) (v := .long b.toInt64) rfl rfl rfl ?_
    refine st_ll (p' := 1693) (v := .int 0) rfl rfl (q_cmp _) ?_
    refine st_ifT (p' := 1698) rfl (by decide +kernel) rfl ?_
    refine st_goto rfl ?_
    refine st_iinc (p' := 2119) (l' := [(4, .int 5), (6, .int b), (5, .int r), (3, .ref 104), (2, .ref 82), (1, .ref 0), (0, .float 0)]) (z := 5) rfl rfl (by decide) rfl (by decide) rfl ?_
    refine st_goto rfl ?_
    refine st_iload (p' := 25) rfl rfl rfl ?_
    refine st_aloadF (p' := 26) rfl rfl rfl ?_
    refine st_slen (p' := 27) (q := 5) rfl rfl (by decide) ?_
    refine st_push (p' := 28) rfl rfl ?_
    refine st_ii (p' := 29) (z := 0) rfl rfl (by decide +kernel) ?_
    refine st_icT (p' := 2122) rfl (by decide +kernel) rfl ?_
    refine st_push (p' := 2123) rfl rfl ?_
    exact st_ret_i rfl
  · refine st_iload (p' := 25) rfl rfl rfl ?_
    refine st_aloadF (p' := 26) rfl rfl rfl ?_
    refine st_slen (p' := 27) (q := 5) rfl rfl (by decide) ?_
    refine st_push (p' := 28) rfl rfl ?_
    refine st_ii (p' := 29) (z := 0) rfl rfl (by decide +kernel) ?_
    refine st_icF (p' := 32) rfl (by decide +kernel) rfl ?_
    refine st_aloadF (p' := 33) rfl rfl rfl ?_
    refine st_iload (p' := 35) rfl rfl rfl ?_
    refine st_sld (p' := 36) (x := xs 0) rfl rfl (by decide) (by decide +kernel) (congrArg xs (by decide)) ?_
    refine st_push (p' := 38) rfl rfl ?_
    refine st_ii (p' := 39) (z := 20) rfl rfl hk ?_
    refine st_tsw (p' := 1621) rfl (by decide +kernel) ?_
    refine st_aload (p' := 1622) rfl rfl rfl ?_
    refine st_aloadF (p' := 1623) rfl rfl rfl ?_
    refine st_iload (p' := 1625) rfl rfl rfl ?_
    refine st_push (p' := 1626) rfl rfl ?_
    refine st_ii (p' := 1627) (z := 1) rfl rfl (by decide +kernel) ?_
    refine st_sld (p' := 1628) (x := xs 1) rfl rfl (by decide) (by decide +kernel) (congrArg xs (by decide)) ?_
    refine st_aloadF (p' := 1629) rfl rfl rfl ?_
    refine st_iload (p' := 1631) rfl rfl rfl ?_
    refine st_push (p' := 1632) rfl rfl ?_
    refine st_ii (p' := 1633) (z := 2) rfl rfl (by decide +kernel) ?_
    refine st_sld (p' := 1634) (x := xs 2) rfl rfl (by decide) (by decide +kernel) (congrArg xs (by decide)) ?_
    refine st_aloadF (p' := 1635) rfl rfl rfl ?_
    refine st_iload (p' := 1637) rfl rfl rfl ?_
    refine st_push (p' := 1638) rfl rfl ?_
    refine st_ii (p' := 1639) (z := 3) rfl rfl (by decide +kernel) ?_
    refine st_sld (p' := 1640) (x := xs 3) rfl rfl (by decide) (by decide +kernel) (congrArg xs (by decide)) ?_
    refine st_aload (p' := 1641) rfl rfl rfl ?_
    refine st_inv (p' := 1644) (av := [.ref 0, .int (xs 1), .int (xs 2), .int (xs 3), .ref 104]) (s' := [.int r]) rfl rfl a1 rfl rfl rfl rfl rfl ?_
    refine st_istore (p' := 1646) (l' := [(5, .int r), (4, .int 0), (3, .ref 104), (2, .ref 82), (1, .ref 0), (0, .float 0)]) rfl rfl (by decide) rfl ?_
    refine st_aload (p' := 1647) rfl rfl rfl ?_
    refine st_aloadF (p' := 1648) rfl rfl rfl ?_
    refine st_iload (p' := 1650) rfl rfl rfl ?_
    refine st_push (p' := 1651) rfl rfl ?_
    refine st_ii (p' := 1652) (z := 1) rfl rfl (by decide +kernel) ?_
    refine st_sld (p' := 1653) (x := xs 1) rfl rfl (by decide) (by decide +kernel) (congrArg xs (by decide)) ?_
    refine st_aloadF (p' := 1654) rfl rfl rfl ?_
    refine st_iload (p' := 1656) rfl rfl rfl ?_
    refine st_push (p' := 1657) rfl rfl ?_
    refine st_ii (p' := 1658) (z := 2) rfl rfl (by decide +kernel) ?_
    refine st_sld (p' := 1659) (x := xs 2) rfl rfl (by decide) (by decide +kernel) (congrArg xs (by decide)) ?_
    refine st_aloadF (p' := 1660) rfl rfl rfl ?_
    refine st_iload (p' := 1662) rfl rfl rfl ?_
    refine st_push (p' := 1663) rfl rfl ?_
    refine st_ii (p' := 1664) (z := 3) rfl rfl (by decide +kernel) ?_
    refine st_sld (p' := 1665) (x := xs 3) rfl rfl (by decide) (by decide +kernel) (congrArg xs (by decide)) ?_
    refine st_inv (p' := 1668) (av := [.ref 82, .int (xs 1), .int (xs 2), .int (xs 3)]) (s' := [.int b]) rfl rfl a2 rfl rfl (q_recv (g1 ..)) rfl rfl ?_
    refine st_istore (p' := 1670) (l' := [(6, .int b), (5, .int r), (4, .int 0), (3, .ref 104), (2, .ref 82), (1, .ref 0), (0, .float 0)]) rfl rfl (by decide) rfl ?_
    refine st_aload (p' := 1671) rfl rfl rfl ?_
    refine st_inv (p' := 1674) (av := [.ref 82]) (s' := [.int r]) rfl rfl a3 rfl rfl (q_recv (g2 ..)) rfl rfl ?_
    refine st_iload (p' := 1676) rfl rfl rfl ?_
    refine st_icT (p' := 1681) rfl q_eqr rfl ?_
    refine st_iload (p' := 1683) rfl rfl rfl ?_
    refine st_ifT (p' := 1698) rfl (q_nz z_r) rfl ?_
    refine st_goto rfl ?_
    refine st_iinc (p' := 2119) (l' := [(4, .int 5), (6, .int b), (5, .int r), (3, .ref 104), (2, .ref 82), (1, .ref 0), (0, .float 0)]) (z := 5) rfl rfl (by decide) rfl (by decide) rfl ?_
    refine st_goto rfl ?_
    refine st_iload (p' := 25) rfl rfl rfl ?_
    refine st_aloadF (p' := 26) rfl rfl rfl ?_
    refine st_slen (p' := 27) (q := 5) rfl rfl (by decide) ?_
    refine st_push (p' := 28) rfl rfl ?_
    refine st_ii (p' := 29) (z := 0) rfl rfl (by decide +kernel) ?_
    refine st_icT (p' := 2122) rfl (by decide +kernel) rfl ?_
    refine st_push (p' := 2123) rfl rfl ?_
    exact st_ret_i rfl
theorem law_ofLibrary (xs : Nat → Int32) (hk : xs 0 &&& 31 = 21) (ha : agree 313 280 [.ref 0, .int (xs 1), .int (xs 2), .ref 104] [.ref 82, .int (xs 1), .int (xs 2)]) : LawOk xs := by
  obtain ⟨r, b, h1, h2, f1, f2, a1, g1, a2, g2, a3, g3, g4, g5⟩ := ha
  refine ⟨h2, ?_, g4, g5⟩
  by_cases z_r : r = 0
  · refine st_iload (p' := 25) rfl rfl rfl ?_
    refine st_aloadF (p' := 26) rfl rfl rfl ?_
    refine st_slen (p' := 27) (q := 5) rfl rfl (by decide) ?_
    refine st_push (p' := 28) rfl rfl ?_
    refine st_ii (p' := 29) (z := 0) rfl rfl (by decide +kernel) ?_
    refine st_icF (p' := 32) rfl (by decide +kernel) rfl ?_
    refine st_aloadF (p' := 33) rfl rfl rfl ?_
    refine st_iload (p' := 35) rfl rfl rfl ?_
    refine st_sld (p' := 36) (x := xs 0) rfl rfl (by decide) (by decide +kernel) (congrArg xs (by decide)) ?_
    refine st_push (p' := 38) rfl rfl ?_
    refine st_ii (p' := 39) (z := 21) rfl rfl hk ?_
    refine st_tsw (p' := 1701) rfl (by decide +kernel) ?_
    refine st_aload (p' := 1702) rfl rfl rfl ?_
    refine st_aloadF (p' := 1703) rfl rfl rfl ?_
    refine st_iload (p' := 1705) rfl rfl rfl ?_
    refine st_push (p' := 1706) rfl rfl ?_
    refine st_ii (p' := 1707) (z := 1) rfl rfl (by decide +kernel) ?_
    refine st_sld (p' := 1708) (x := xs 1) rfl rfl (by decide) (by decide +kernel) (congrArg xs (by decide)) ?_
    refine st_aloadF (p' := 1709) rfl rfl rfl ?_
    refine st_iload (p' := 1711) rfl rfl rfl ?_
    refine st_push (p' := 1712) rfl rfl ?_
    refine st_ii (p' := 1713) (z := 2) rfl rfl (by decide +kernel) ?_
    refine st_sld (p' := 1714) (x := xs 2) rfl rfl (by decide) (by decide +kernel) (congrArg xs (by decide)) ?_
    refine st_aload (p' := 1715) rfl rfl rfl ?_
    refine st_inv (p' := 1718) (av := [.ref 0, .int (xs 1), .int (xs 2), .ref 104]) (s' := [.int r]) rfl rfl a1 rfl rfl rfl rfl rfl ?_
    refine st_istore (p' := 1720) (l' := [(5, .int r), (4, .int 0), (3, .ref 104), (2, .ref 82), (1, .ref 0), (0, .float 0)]) rfl rfl (by decide) rfl ?_
    refine st_aload (p' := 1721) rfl rfl rfl ?_
    refine st_aloadF (p' := 1722) rfl rfl rfl ?_
    refine st_iload (p' := 1724) rfl rfl rfl ?_
    refine st_push (p' := 1725) rfl rfl ?_
    refine st_ii (p' := 1726) (z := 1) rfl rfl (by decide +kernel) ?_
    refine st_sld (p' := 1727) (x := xs 1) rfl rfl (by decide) (by decide +kernel) (congrArg xs (by decide)) ?_
    refine st_aloadF (p' := 1728) rfl rfl rfl ?_
    refine st_iload (p' := 1730) rfl rfl rfl ?_
    refine st_push (p' := 1731) rfl rfl ?_
    refine st_ii (p' := 1732) (z := 2) rfl rfl (by decide +kernel) ?_
    refine st_sld (p' := 1733) (x := xs 2) rfl rfl (by decide) (by decide +kernel) (congrArg xs (by decide)) ?_
    refine st_inv (p' := 1736) (av := [.ref 82, .int (xs 1), .int (xs 2)]) (s' := [.int b]) rfl rfl a2 rfl rfl (q_recv (g1 ..)) rfl rfl ?_
    refine st_istore (p' := 1738) (l' := [(6, .int b), (5, .int r), (4, .int 0), (3, .ref 104), (2, .ref 82), (1, .ref 0), (0, .float 0)]) rfl rfl (by decide) rfl ?_
    refine st_aload (p' := 1739) rfl rfl rfl ?_
    refine st_inv (p' := 1742) (av := [.ref 82]) (s' := [.int r]) rfl rfl a3 rfl rfl (q_recv (g2 ..)) rfl rfl ?_
    refine st_iload (p' := 1744) rfl rfl rfl ?_
    refine st_icT (p' := 1749) rfl q_eqr rfl ?_
    refine st_iload (p' := 1751) rfl rfl rfl ?_
    refine st_ifF (p' := 1754) rfl (q_nz' z_r) rfl ?_
    refine st_aload (p' := 1755) rfl rfl rfl ?_
    refine st_push (p' := 1756) rfl rfl ?_
    refine st_lld (p' := 1757) (j := 0) (v := .long b.toInt64) rfl rfl (g3 z_r) (by decide) (by decide) rfl rfl ?_
    refine st_iload (p' := 1759) rfl rfl rfl ?_
    refine st_i (p' := 1760) (v := .long b.toInt64) rfl rfl rfl ?_
    refine st_ll (p' := 1761) (v := .int 0) rfl rfl (q_cmp _) ?_
    refine st_ifT (p' := 1766) rfl (by decide +kernel) rfl ?_
    refine st_goto rfl ?_
    refine st_iinc (p' := 2119) (l' := [(4, .int 5), (6, .int b), (5, .int r), (3, .ref 104), (2, .ref 82), (1, .ref 0), (0, .float 0)]) (z := 5) rfl rfl (by decide) rfl (by decide) rfl ?_
    refine st_goto rfl ?_
    refine st_iload (p' := 25) rfl rfl rfl ?_
    refine st_aloadF (p' := 26) rfl rfl rfl ?_
    refine st_slen (p' := 27) (q := 5) rfl rfl (by decide) ?_
    refine st_push (p' := 28) rfl rfl ?_
    refine st_ii (p' := 29) (z := 0) rfl rfl (by decide +kernel) ?_
    refine st_icT (p' := 2122) rfl (by decide +kernel) rfl ?_
    refine st_push (p' := 2123) rfl rfl ?_
    exact st_ret_i rfl
  · refine st_iload (p' := 25) rfl rfl rfl ?_
    refine st_aloadF (p' := 26) rfl rfl rfl ?_
    refine st_slen (p' := 27) (q := 5) rfl rfl (by decide) ?_
    refine st_push (p' := 28) rfl rfl ?_
    refine st_ii (p' := 29) (z := 0) rfl rfl (by decide +kernel) ?_
    refine st_icF (p' := 32) rfl (by decide +kernel) rfl ?_
    refine st_aloadF (p' := 33) rfl rfl rfl ?_
    refine st_iload (p' := 35) rfl rfl rfl ?_
    refine st_sld (p' := 36) (x := xs 0) rfl rfl (by decide) (by decide +kernel) (congrArg xs (by decide)) ?_
    refine st_push (p' := 38) rfl rfl ?_
    refine st_ii (p' := 39) (z := 21) rfl rfl hk ?_
    refine st_tsw (p' := 1701) rfl (by decide +kernel) ?_
    refine st_aload (p' := 1702) rfl rfl rfl ?_
    refine st_aloadF (p' := 1703) rfl rfl rfl ?_
    refine st_iload (p' := 1705) rfl rfl rfl ?_
    refine st_push (p' := 1706) rfl rfl ?_
    refine st_ii (p' := 1707) (z := 1) rfl rfl (by decide +kernel) ?_
    refine st_sld (p' := 1708) (x := xs 1) rfl rfl (by decide) (by decide +kernel) (congrArg xs (by decide)) ?_
    refine st_aloadF (p' := 1709) rfl rfl rfl ?_
    refine st_iload (p' := 1711) rfl rfl rfl ?_
    refine st_push (p' := 1712) rfl rfl ?_
    refine st_ii (p' := 1713) (z := 2) rfl rfl (by decide +kernel) ?_
    refine st_sld (p' := 1714) (x := xs 2) rfl rfl (by decide) (by decide +kernel) (congrArg xs (by decide)) ?_
    refine st_aload (p' := 1715) rfl rfl rfl ?_
    refine st_inv (p' := 1718) (av := [.ref 0, .int (xs 1), .int (xs 2), .ref 104]) (s' := [.int r]) rfl rfl a1 rfl rfl rfl rfl rfl ?_
    refine st_istore (p' := 1720) (l' := [(5, .int r), (4, .int 0), (3, .ref 104), (2, .ref 82), (1, .ref 0), (0, .float 0)]) rfl rfl (by decide) rfl ?_
    refine st_aload (p' := 1721) rfl rfl rfl ?_
    refine st_aloadF (p' := 1722) rfl rfl rfl ?_
    refine st_iload (p' := 1724) rfl rfl rfl ?_
    refine st_push (p' := 1725) rfl rfl ?_
    refine st_ii (p' := 1726) (z := 1) rfl rfl (by decide +kernel) ?_
    refine st_sld (p' := 1727) (x := xs 1) rfl rfl (by decide) (by decide +kernel) (congrArg xs (by decide)) ?_
    refine st_aloadF (p' := 1728) rfl rfl rfl ?_
    refine st_iload (p' := 1730) rfl rfl rfl ?_
    refine st_push (p' := 1731) rfl rfl ?_
    refine st_ii (p' := 1732) (z := 2) rfl rfl (by decide +kernel) ?_
    refine st_sld (p' := 1733) (x := xs 2) rfl rfl (by decide) (by decide +kernel) (congrArg xs (by decide)) ?_
    refine st_inv (p' := 1736) (av := [.ref 82, .int (xs 1), .int (xs 2)]) (s' := [.int b]) rfl rfl a2 rfl rfl (q_recv (g1 ..)) rfl rfl ?_
    refine st_istore (p' := 1738) (l' := [(6, .int b), (5, .int r), (4, .int 0), (3, .ref 104), (2, .ref 82), (1, .ref 0), (0, .float 0)]) rfl rfl (by decide) rfl ?_
    refine st_aload (p' := 1739) rfl rfl rfl ?_
    refine st_inv (p' := 1742) (av := [.ref 82]) (s' := [.int r]) rfl rfl a3 rfl rfl (q_recv (g2 ..)) rfl rfl ?_
    refine st_iload (p' := 1744) rfl rfl rfl ?_
    refine st_icT (p' := 1749) rfl q_eqr rfl ?_
    refine st_iload (p' := 1751) rfl rfl rfl ?_
    refine st_ifT (p' := 1766) rfl (q_nz z_r) rfl ?_
    refine st_goto rfl ?_
    refine st_iinc (p' := 2119) (l' := [(4, .int 5), (6, .int b), (5, .int r), (3, .ref 104), (2, .ref 82), (1, .ref 0), (0, .float 0)]) (z := 5) rfl rfl (by decide) rfl (by decide) rfl ?_
    refine st_goto rfl ?_
    refine st_iload (p' := 25) rfl rfl rfl ?_
    refine st_aloadF (p' := 26) rfl rfl rfl ?_
    refine st_slen (p' := 27) (q := 5) rfl rfl (by decide) ?_
    refine st_push (p' := 28) rfl rfl ?_
    refine st_ii (p' := 29) (z := 0) rfl rfl (by decide +kernel) ?_
    refine st_icT (p' := 2122) rfl (by decide +kernel) rfl ?_
    refine st_push (p' := 2123) rfl rfl ?_
    exact st_ret_i rfl
theorem law_many (xs : Nat → Int32) (hk : xs 0 &&& 31 = 22) (ha : agree 314 282 [.ref 0, .int (xs 1), .ref 104] [.ref 82, .int (xs 1)]) : LawOk xs := by
  obtain ⟨r, b, h1, h2, f1, f2, a1, g1, a2, g2, a3, g3, g4, g5⟩ := ha
  refine ⟨h2, ?_, g4, g5⟩
  by_cases z_r : r = 0
  · refine st_iload (p' := 25) rfl rfl rfl ?_
    refine st_aloadF (p' := 26) rfl rfl rfl ?_
    refine st_slen (p' := 27) (q := 5) rfl rfl (by decide) ?_
    refine st_push (p' := 28) rfl rfl ?_
    refine st_ii (p' := 29) (z := 0) rfl rfl (by decide +kernel) ?_
    refine st_icF (p' := 32) rfl (by decide +kernel) rfl ?_
    refine st_aloadF (p' := 33) rfl rfl rfl ?_
    refine st_iload (p' := 35) rfl rfl rfl ?_
    refine st_sld (p' := 36) (x := xs 0) rfl rfl (by decide) (by decide +kernel) (congrArg xs (by decide)) ?_
    refine st_push (p' := 38) rfl rfl ?_
    refine st_ii (p' := 39) (z := 22) rfl rfl hk ?_
    refine st_tsw (p' := 1769) rfl (by decide +kernel) ?_
    refine st_aload (p' := 1770) rfl rfl rfl ?_
    refine st_aloadF (p' := 1771) rfl rfl rfl ?_
    refine st_iload (p' := 1773) rfl rfl rfl ?_
    refine st_push (p' := 1774) rfl rfl ?_
    refine st_ii (p' := 1775) (z := 1) rfl rfl (by decide +kernel) ?_
    refine st_sld (p' := 1776) (x := xs 1) rfl rfl (by decide) (by decide +kernel) (congrArg xs (by decide)) ?_
    refine st_aload (p' := 1777) rfl rfl rfl ?_
    refine st_inv (p' := 1780) (av := [.ref 0, .int (xs 1), .ref 104]) (s' := [.int r]) rfl rfl a1 rfl rfl rfl rfl rfl ?_
    refine st_istore (p' := 1782) (l' := [(5, .int r), (4, .int 0), (3, .ref 104), (2, .ref 82), (1, .ref 0), (0, .float 0)]) rfl rfl (by decide) rfl ?_
    refine st_aload (p' := 1783) rfl rfl rfl ?_
    refine st_aloadF (p' := 1784) rfl rfl rfl ?_
    refine st_iload (p' := 1786) rfl rfl rfl ?_
    refine st_push (p' := 1787) rfl rfl ?_
    refine st_ii (p' := 1788) (z := 1) rfl rfl (by decide +kernel) ?_
    refine st_sld (p' := 1789) (x := xs 1) rfl rfl (by decide) (by decide +kernel) (congrArg xs (by decide)) ?_
    refine st_inv (p' := 1792) (av := [.ref 82, .int (xs 1)]) (s' := [.int b]) rfl rfl a2 rfl rfl (q_recv (g1 ..)) rfl rfl ?_
    refine st_istore (p' := 1794) (l' := [(6, .int b), (5, .int r), (4, .int 0), (3, .ref 104), (2, .ref 82), (1, .ref 0), (0, .float 0)]) rfl rfl (by decide) rfl ?_
    refine st_aload (p' := 1795) rfl rfl rfl ?_
    refine st_inv (p' := 1798) (av := [.ref 82]) (s' := [.int r]) rfl rfl a3 rfl rfl (q_recv (g2 ..)) rfl rfl ?_
    refine st_iload (p' := 1800) rfl rfl rfl ?_
    refine st_icT (p' := 1805) rfl q_eqr rfl ?_
    refine st_iload (p' := 1807) rfl rfl rfl ?_
    refine st_ifF (p' := 1810) rfl (q_nz' z_r) rfl ?_
    refine st_aload (p' := 1811) rfl rfl rfl ?_
    refine st_push (p' := 1812) rfl rfl ?_
    refine st_lld (p' := 1813) (j := 0) (v := .long b.toInt64) rfl rfl (g3 z_r) (by decide) (by decide) rfl rfl ?_
    refine st_iload (p' := 1815) rfl rfl rfl ?_
    refine st_i (p' := 1816) (v := .long b.toInt64) rfl rfl rfl ?_
    refine st_ll (p' := 1817) (v := .int 0) rfl rfl (q_cmp _) ?_
    refine st_ifT (p' := 1822) rfl (by decide +kernel) rfl ?_
    refine st_goto rfl ?_
    refine st_iinc (p' := 2119) (l' := [(4, .int 5), (6, .int b), (5, .int r), (3, .ref 104), (2, .ref 82), (1, .ref 0), (0, .float 0)]) (z := 5) rfl rfl (by decide) rfl (by decide) rfl ?_
    refine st_goto rfl ?_
    refine st_iload (p' := 25) rfl rfl rfl ?_
    refine st_aloadF (p' := 26) rfl rfl rfl ?_
    refine st_slen (p' := 27) (q := 5) rfl rfl (by decide) ?_
    refine st_push (p' := 28) rfl rfl ?_
    refine st_ii (p' := 29) (z := 0) rfl rfl (by decide +kernel) ?_
    refine st_icT (p' := 2122) rfl (by decide +kernel) rfl ?_
    refine st_push (p' := 2123) rfl rfl ?_
    exact st_ret_i rfl
  · refine st_iload (p' := 25) rfl rfl rfl ?_
    refine st_aloadF (p' := 26) rfl rfl rfl ?_
    refine st_slen (p' := 27) (q := 5) rfl rfl (by decide) ?_
    refine st_push (p' := 28) rfl rfl ?_
    refine st_ii (p' := 29) (z := 0) rfl rfl (by decide +kernel) ?_
    refine st_icF (p' := 32) rfl (by decide +kernel) rfl ?_
    refine st_aloadF (p' := 33) rfl rfl rfl ?_
    refine st_iload (p' := 35) rfl rfl rfl ?_
    refine st_sld (p' := 36) (x := xs 0) rfl rfl (by decide) (by decide +kernel) (congrArg xs (by decide)) ?_
    refine st_push (p' := 38) rfl rfl ?_
    refine st_ii (p' := 39) (z := 22) rfl rfl hk ?_
    refine st_tsw (p' := 1769) rfl (by decide +kernel) ?_
    refine st_aload (p' := 1770) rfl rfl rfl ?_
    refine st_aloadF (p' := 1771) rfl rfl rfl ?_
    refine st_iload (p' := 1773) rfl rfl rfl ?_
    refine st_push (p' := 1774) rfl rfl ?_
    refine st_ii (p' := 1775) (z := 1) rfl rfl (by decide +kernel) ?_
    refine st_sld (p' := 1776) (x := xs 1) rfl rfl (by decide) (by decide +kernel) (congrArg xs (by decide)) ?_
    refine st_aload (p' := 1777) rfl rfl rfl ?_
    refine st_inv (p' := 1780) (av := [.ref 0, .int (xs 1), .ref 104]) (s' := [.int r]) rfl rfl a1 rfl rfl rfl rfl rfl ?_
    refine st_istore (p' := 1782) (l' := [(5, .int r), (4, .int 0), (3, .ref 104), (2, .ref 82), (1, .ref 0), (0, .float 0)]) rfl rfl (by decide) rfl ?_
    refine st_aload (p' := 1783) rfl rfl rfl ?_
    refine st_aloadF (p' := 1784) rfl rfl rfl ?_
    refine st_iload (p' := 1786) rfl rfl rfl ?_
    refine st_push (p' := 1787) rfl rfl ?_
    refine st_ii (p' := 1788) (z := 1) rfl rfl (by decide +kernel) ?_
    refine st_sld (p' := 1789) (x := xs 1) rfl rfl (by decide) (by decide +kernel) (congrArg xs (by decide)) ?_
    refine st_inv (p' := 1792) (av := [.ref 82, .int (xs 1)]) (s' := [.int b]) rfl rfl a2 rfl rfl (q_recv (g1 ..)) rfl rfl ?_
    refine st_istore (p' := 1794) (l' := [(6, .int b), (5, .int r), (4, .int 0), (3, .ref 104), (2, .ref 82), (1, .ref 0), (0, .float 0)]) rfl rfl (by decide) rfl ?_
    refine st_aload (p' := 1795) rfl rfl rfl ?_
    refine st_inv (p' := 1798) (av := [.ref 82]) (s' := [.int r]) rfl rfl a3 rfl rfl (q_recv (g2 ..)) rfl rfl ?_
    refine st_iload (p' := 1800) rfl rfl rfl ?_
    refine st_icT (p' := 1805) rfl q_eqr rfl ?_
    refine st_iload (p' := 1807) rfl rfl rfl ?_
    refine st_ifT (p' := 1822) rfl (q_nz z_r) rfl ?_
    refine st_goto rfl ?_
    refine st_iinc (p' := 2119) (l' := [(4, .int 5), (6, .int b), (5, .int r), (3, .ref 104), (2, .ref 82), (1, .ref 0), (0, .float 0)]) (z := 5) rfl rfl (by decide) rfl (by decide) rfl ?_
    refine st_goto rfl ?_
    refine st_iload (p' := 25) rfl rfl rfl ?_
    refine st_aloadF (p' := 26) rfl rfl rfl ?_
    refine st_slen (p' := 27) (q := 5) rfl rfl (by decide) ?_
    refine st_push (p' := 28) rfl rfl ?_
    refine st_ii (p' := 29) (z := 0) rfl rfl (by decide +kernel) ?_
    refine st_icT (p' := 2122) rfl (by decide +kernel) rfl ?_
    refine st_push (p' := 2123) rfl rfl ?_
    exact st_ret_i rfl
noncomputable def cl_usedPart : Bool := match ev_call mt pg 3000 12 184 [.ref 0] (hG 40 9999 0 40 9999 0 105 8641) with
  | some (.inl (some v1), h1) => decide (v1 = .double 0) && (match (h1.1[82]? : Option EC) with
    | some (.inr c1, _) => Nat.beq c1 13 && (match ev_call mt pg 3000 12 283 [.ref 82] h1 with
      | some (.inl (some v2), h2) => decide (v2 = .double 0) && (Nat.ble h2.2.1 600002 && Nat.ble h2.2.2 7302231)
      | _ => false)
    | _ => false)
  | _ => false
theorem cl_usedPart_t : cl_usedPart = true := by decide +kernel
theorem cl_usedPart_x : ∃ (h1 h2 : EH) (f1 : List Value), ev_call mt pg 3000 12 184 [.ref 0] (hG 40 9999 0 40 9999 0 105 8641) = some (.inl (some (.double 0)), h1) ∧ h1.1[82]? = some (.inr 13, f1) ∧ ev_call mt pg 3000 12 283 [.ref 82] h1 = some (.inl (some (.double 0)), h2) ∧ h2.2.1 ≤ 600002 ∧ h2.2.2 ≤ 7302231 := by
  have h := cl_usedPart_t
  unfold cl_usedPart at h
  split at h
  · rename_i v1 h1 e1
    obtain ⟨a1, h⟩ := Bool.and_eq_true_iff.mp h
    split at h
    · rename_i c1 f1 e2
      obtain ⟨a2, h⟩ := Bool.and_eq_true_iff.mp h
      split at h
      · rename_i v2 h2 e3
        obtain ⟨a3, h⟩ := Bool.and_eq_true_iff.mp h
        obtain ⟨a4, a5⟩ := Bool.and_eq_true_iff.mp h
        rw [Nat.eq_of_beq_eq_true a2] at e2
        rw [of_decide_eq_true a1] at e1
        rw [of_decide_eq_true a3] at e3
        exact ⟨h1, h2, f1, e1, e2, e3, Nat.le_of_ble_eq_true a4, Nat.le_of_ble_eq_true a5⟩
      · cases h
    · cases h
  · cases h
theorem law_usedPart (xs : Nat → Int32) (hk : xs 0 &&& 31 = 23) : LawOk xs := by
  obtain ⟨h1, h2, f1, a1, g1, a2, g4, g5⟩ := cl_usedPart_x
  refine ⟨h2, ?_, g4, g5⟩
  refine st_iload (p' := 25) rfl rfl rfl ?_
  refine st_aloadF (p' := 26) rfl rfl rfl ?_
  refine st_slen (p' := 27) (q := 5) rfl rfl (by decide) ?_
  refine st_push (p' := 28) rfl rfl ?_
  refine st_ii (p' := 29) (z := 0) rfl rfl (by decide +kernel) ?_
  refine st_icF (p' := 32) rfl (by decide +kernel) rfl ?_
  refine st_aloadF (p' := 33) rfl rfl rfl ?_
  refine st_iload (p' := 35) rfl rfl rfl ?_
  refine st_sld (p' := 36) (x := xs 0) rfl rfl (by decide) (by decide +kernel) (congrArg xs (by decide)) ?_
  refine st_push (p' := 38) rfl rfl ?_
  refine st_ii (p' := 39) (z := 23) rfl rfl hk ?_
  refine st_tsw (p' := 1825) rfl (by decide +kernel) ?_
  refine st_aload (p' := 1826) rfl rfl rfl ?_
  refine st_inv (p' := 1829) (av := [.ref 0]) (s' := [.double 0]) rfl rfl a1 rfl rfl (q_recv (hG_x ..)) rfl rfl ?_
  refine st_dstore (p' := 1831) (l' := [(5, .double 0), (4, .int 0), (3, .ref 104), (2, .ref 82), (1, .ref 0), (0, .float 0)]) rfl rfl (by decide) rfl ?_
  refine st_aload (p' := 1832) rfl rfl rfl ?_
  refine st_inv (p' := 1835) (av := [.ref 82]) (s' := [.double 0]) rfl rfl a2 rfl rfl (q_recv (g1 ..)) rfl rfl ?_
  refine st_dstore (p' := 1837) (l' := [(7, .double 0), (5, .double 0), (4, .int 0), (3, .ref 104), (2, .ref 82), (1, .ref 0), (0, .float 0)]) rfl rfl (by decide) rfl ?_
  refine st_dload (p' := 1839) rfl rfl rfl ?_
  refine st_dload (p' := 1841) rfl rfl rfl ?_
  refine st_dcmp (p' := 1842) (z := 0) rfl rfl (by decide +kernel) ?_
  refine st_ifT (p' := 1863) rfl (by decide +kernel) rfl ?_
  refine st_goto rfl ?_
  refine st_iinc (p' := 2119) (l' := [(4, .int 5), (7, .double 0), (5, .double 0), (3, .ref 104), (2, .ref 82), (1, .ref 0), (0, .float 0)]) (z := 5) rfl rfl (by decide) rfl (by decide) rfl ?_
  refine st_goto rfl ?_
  refine st_iload (p' := 25) rfl rfl rfl ?_
  refine st_aloadF (p' := 26) rfl rfl rfl ?_
  refine st_slen (p' := 27) (q := 5) rfl rfl (by decide) ?_
  refine st_push (p' := 28) rfl rfl ?_
  refine st_ii (p' := 29) (z := 0) rfl rfl (by decide +kernel) ?_
  refine st_icT (p' := 2122) rfl (by decide +kernel) rfl ?_
  refine st_push (p' := 2123) rfl rfl ?_
  exact st_ret_i rfl
theorem law_sizeWith (xs : Nat → Int32) (hk : xs 0 &&& 31 = 24) (ha : agree 315 284 [.ref 0, .int (xs 1), .ref 104] [.ref 82, .int (xs 1)]) : LawOk xs := by
  obtain ⟨r, b, h1, h2, f1, f2, a1, g1, a2, g2, a3, g3, g4, g5⟩ := ha
  refine ⟨h2, ?_, g4, g5⟩
  by_cases z_r : r = 0
  · refine st_iload (p' := 25) rfl rfl rfl ?_
    refine st_aloadF (p' := 26) rfl rfl rfl ?_
    refine st_slen (p' := 27) (q := 5) rfl rfl (by decide) ?_
    refine st_push (p' := 28) rfl rfl ?_
    refine st_ii (p' := 29) (z := 0) rfl rfl (by decide +kernel) ?_
    refine st_icF (p' := 32) rfl (by decide +kernel) rfl ?_
    refine st_aloadF (p' := 33) rfl rfl rfl ?_
    refine st_iload (p' := 35) rfl rfl rfl ?_
    refine st_sld (p' := 36) (x := xs 0) rfl rfl (by decide) (by decide +kernel) (congrArg xs (by decide)) ?_
    refine st_push (p' := 38) rfl rfl ?_
    refine st_ii (p' := 39) (z := 24) rfl rfl hk ?_
    refine st_tsw (p' := 1866) rfl (by decide +kernel) ?_
    refine st_aload (p' := 1867) rfl rfl rfl ?_
    refine st_aloadF (p' := 1868) rfl rfl rfl ?_
    refine st_iload (p' := 1870) rfl rfl rfl ?_
    refine st_push (p' := 1871) rfl rfl ?_
    refine st_ii (p' := 1872) (z := 1) rfl rfl (by decide +kernel) ?_
    refine st_sld (p' := 1873) (x := xs 1) rfl rfl (by decide) (by decide +kernel) (congrArg xs (by decide)) ?_
    refine st_aload (p' := 1874) rfl rfl rfl ?_
    refine st_inv (p' := 1877) (av := [.ref 0, .int (xs 1), .ref 104]) (s' := [.int r]) rfl rfl a1 rfl rfl rfl rfl rfl ?_
    refine st_istore (p' := 1879) (l' := [(5, .int r), (4, .int 0), (3, .ref 104), (2, .ref 82), (1, .ref 0), (0, .float 0)]) rfl rfl (by decide) rfl ?_
    refine st_aload (p' := 1880) rfl rfl rfl ?_
    refine st_aloadF (p' := 1881) rfl rfl rfl ?_
    refine st_iload (p' := 1883) rfl rfl rfl ?_
    refine st_push (p' := 1884) rfl rfl ?_
    refine st_ii (p' := 1885) (z := 1) rfl rfl (by decide +kernel) ?_
    refine st_sld (p' := 1886) (x := xs 1) rfl rfl (by decide) (by decide +kernel) (congrArg xs (by decide)) ?_
    refine st_inv (p' := 1889) (av := [.ref 82, .int (xs 1)]) (s' := [.int b]) rfl rfl a2 rfl rfl (q_recv (g1 ..)) rfl rfl ?_
    refine st_istore (p' := 1891) (l' := [(6, .int b), (5, .int r), (4, .int 0), (3, .ref 104), (2, .ref 82), (1, .ref 0), (0, .float 0)]) rfl rfl (by decide) rfl ?_
    refine st_aload (p' := 1892) rfl rfl rfl ?_
    refine st_inv (p' := 1895) (av := [.ref 82]) (s' := [.int r]) rfl rfl a3 rfl rfl (q_recv (g2 ..)) rfl rfl ?_
    refine st_iload (p' := 1897) rfl rfl rfl ?_
    refine st_icT (p' := 1902) rfl q_eqr rfl ?_
    refine st_iload (p' := 1904) rfl rfl rfl ?_
    refine st_ifF (p' := 1907) rfl (q_nz' z_r) rfl ?_
    refine st_aload (p' := 1908) rfl rfl rfl ?_
    refine st_push (p' := 1909) rfl rfl ?_
    refine st_lld (p' := 1910) (j := 0) (v := .long b.toInt64) rfl rfl (g3 z_r) (by decide) (by decide) rfl rfl ?_
    refine st_iload (p' := 1912) rfl rfl rfl ?_
    refine st_i (p' := 1913) (v := .long b.toInt64) rfl rfl rfl ?_
    refine st_ll (p' := 1914) (v := .int 0) rfl rfl (q_cmp _) ?_
    refine st_ifT (p' := 1919) rfl (by decide +kernel) rfl ?_
    refine st_goto rfl ?_
    refine st_iinc (p' := 2119) (l' := [(4, .int 5), (6, .int b), (5, .int r), (3, .ref 104), (2, .ref 82), (1, .ref 0), (0, .float 0)]) (z := 5) rfl rfl (by decide) rfl (by decide) rfl ?_
    refine st_goto rfl ?_
    refine st_iload (p' := 25) rfl rfl rfl ?_
    refine st_aloadF (p' := 26) rfl rfl rfl ?_
    refine st_slen (p' := 27) (q := 5) rfl rfl (by decide) ?_
    refine st_push (p' := 28) rfl rfl ?_
    refine st_ii (p' := 29) (z := 0) rfl rfl (by decide +kernel) ?_
    refine st_icT (p' := 2122) rfl (by decide +kernel) rfl ?_
    refine st_push (p' := 2123) rfl rfl ?_
    exact st_ret_i rfl
  · refine st_iload (p' := 25) rfl rfl rfl ?_
    refine st_aloadF (p' := 26) rfl rfl rfl ?_
    refine st_slen (p' := 27) (q := 5) rfl rfl (by decide) ?_
    refine st_push (p' := 28) rfl rfl ?_
    refine st_ii (p' := 29) (z := 0) rfl rfl (by decide +kernel) ?_
    refine st_icF (p' := 32) rfl (by decide +kernel) rfl ?_
    refine st_aloadF (p' := 33) rfl rfl rfl ?_
    refine st_iload (p' := 35) rfl rfl rfl ?_
    refine st_sld (p' := 36) (x := xs 0) rfl rfl (by decide) (by decide +kernel) (congrArg xs (by decide)) ?_
    refine st_push (p' := 38) rfl rfl ?_
    refine st_ii (p' := 39) (z := 24) rfl rfl hk ?_
    refine st_tsw (p' := 1866) rfl (by decide +kernel) ?_
    refine st_aload (p' := 1867) rfl rfl rfl ?_
    refine st_aloadF (p' := 1868) rfl rfl rfl ?_
    refine st_iload (p' := 1870) rfl rfl rfl ?_
    refine st_push (p' := 1871) rfl rfl ?_
    refine st_ii (p' := 1872) (z := 1) rfl rfl (by decide +kernel) ?_
    refine st_sld (p' := 1873) (x := xs 1) rfl rfl (by decide) (by decide +kernel) (congrArg xs (by decide)) ?_
    refine st_aload (p' := 1874) rfl rfl rfl ?_
    refine st_inv (p' := 1877) (av := [.ref 0, .int (xs 1), .ref 104]) (s' := [.int r]) rfl rfl a1 rfl rfl rfl rfl rfl ?_
    refine st_istore (p' := 1879) (l' := [(5, .int r), (4, .int 0), (3, .ref 104), (2, .ref 82), (1, .ref 0), (0, .float 0)]) rfl rfl (by decide) rfl ?_
    refine st_aload (p' := 1880) rfl rfl rfl ?_
    refine st_aloadF (p' := 1881) rfl rfl rfl ?_
    refine st_iload (p' := 1883) rfl rfl rfl ?_
    refine st_push (p' := 1884) rfl rfl ?_
    refine st_ii (p' := 1885) (z := 1) rfl rfl (by decide +kernel) ?_
    refine st_sld (p' := 1886) (x := xs 1) rfl rfl (by decide) (by decide +kernel) (congrArg xs (by decide)) ?_
    refine st_inv (p' := 1889) (av := [.ref 82, .int (xs 1)]) (s' := [.int b]) rfl rfl a2 rfl rfl (q_recv (g1 ..)) rfl rfl ?_
    refine st_istore (p' := 1891) (l' := [(6, .int b), (5, .int r), (4, .int 0), (3, .ref 104), (2, .ref 82), (1, .ref 0), (0, .float 0)]) rfl rfl (by decide) rfl ?_
    refine st_aload (p' := 1892) rfl rfl rfl ?_
    refine st_inv (p' := 1895) (av := [.ref 82]) (s' := [.int r]) rfl rfl a3 rfl rfl (q_recv (g2 ..)) rfl rfl ?_
    refine st_iload (p' := 1897) rfl rfl rfl ?_
    refine st_icT (p' := 1902) rfl q_eqr rfl ?_
    refine st_iload (p' := 1904) rfl rfl rfl ?_
    refine st_ifT (p' := 1919) rfl (q_nz z_r) rfl ?_
    refine st_goto rfl ?_
    refine st_iinc (p' := 2119) (l' := [(4, .int 5), (6, .int b), (5, .int r), (3, .ref 104), (2, .ref 82), (1, .ref 0), (0, .float 0)]) (z := 5) rfl rfl (by decide) rfl (by decide) rfl ?_
    refine st_goto rfl ?_
    refine st_iload (p' := 25) rfl rfl rfl ?_
    refine st_aloadF (p' := 26) rfl rfl rfl ?_
    refine st_slen (p' := 27) (q := 5) rfl rfl (by decide) ?_
    refine st_push (p' := 28) rfl rfl ?_
    refine st_ii (p' := 29) (z := 0) rfl rfl (by decide +kernel) ?_
    refine st_icT (p' := 2122) rfl (by decide +kernel) rfl ?_
    refine st_push (p' := 2123) rfl rfl ?_
    exact st_ret_i rfl
theorem law_faultsWithout (xs : Nat → Int32) (hk : xs 0 &&& 31 = 25) (ha : agree 316 285 [.ref 0, .int (xs 1), .ref 104] [.ref 82, .int (xs 1)]) : LawOk xs := by
  obtain ⟨r, b, h1, h2, f1, f2, a1, g1, a2, g2, a3, g3, g4, g5⟩ := ha
  refine ⟨h2, ?_, g4, g5⟩
  by_cases z_r : r = 0
  · refine st_iload (p' := 25) rfl rfl rfl ?_
    refine st_aloadF (p' := 26) rfl rfl rfl ?_
    refine st_slen (p' := 27) (q := 5) rfl rfl (by decide) ?_
    refine st_push (p' := 28) rfl rfl ?_
    refine st_ii (p' := 29) (z := 0) rfl rfl (by decide +kernel) ?_
    refine st_icF (p' := 32) rfl (by decide +kernel) rfl ?_
    refine st_aloadF (p' := 33) rfl rfl rfl ?_
    refine st_iload (p' := 35) rfl rfl rfl ?_
    refine st_sld (p' := 36) (x := xs 0) rfl rfl (by decide) (by decide +kernel) (congrArg xs (by decide)) ?_
    refine st_push (p' := 38) rfl rfl ?_
    refine st_ii (p' := 39) (z := 25) rfl rfl hk ?_
    refine st_tsw (p' := 1922) rfl (by decide +kernel) ?_
    refine st_aload (p' := 1923) rfl rfl rfl ?_
    refine st_aloadF (p' := 1924) rfl rfl rfl ?_
    refine st_iload (p' := 1926) rfl rfl rfl ?_
    refine st_push (p' := 1927) rfl rfl ?_
    refine st_ii (p' := 1928) (z := 1) rfl rfl (by decide +kernel) ?_
    refine st_sld (p' := 1929) (x := xs 1) rfl rfl (by decide) (by decide +kernel) (congrArg xs (by decide)) ?_
    refine st_aload (p' := 1930) rfl rfl rfl ?_
    refine st_inv (p' := 1933) (av := [.ref 0, .int (xs 1), .ref 104]) (s' := [.int r]) rfl rfl a1 rfl rfl rfl rfl rfl ?_
    refine st_istore (p' := 1935) (l' := [(5, .int r), (4, .int 0), (3, .ref 104), (2, .ref 82), (1, .ref 0), (0, .float 0)]) rfl rfl (by decide) rfl ?_
    refine st_aload (p' := 1936) rfl rfl rfl ?_
    refine st_aloadF (p' := 1937) rfl rfl rfl ?_
    refine st_iload (p' := 1939) rfl rfl rfl ?_
    refine st_push (p' := 1940) rfl rfl ?_
    refine st_ii (p' := 1941) (z := 1) rfl rfl (by decide +kernel) ?_
    refine st_sld (p' := 1942) (x := xs 1) rfl rfl (by decide) (by decide +kernel) (congrArg xs (by decide)) ?_
    refine st_inv (p' := 1945) (av := [.ref 82, .int (xs 1)]) (s' := [.int b]) rfl rfl a2 rfl rfl (q_recv (g1 ..)) rfl rfl ?_
    refine st_istore (p' := 1947) (l' := [(6, .int b), (5, .int r), (4, .int 0), (3, .ref 104), (2, .ref 82), (1, .ref 0), (0, .float 0)]) rfl rfl (by decide) rfl ?_
    refine st_aload (p' := 1948) rfl rfl rfl ?_
    refine st_inv (p' := 1951) (av := [.ref 82]) (s' := [.int r]) rfl rfl a3 rfl rfl (q_recv (g2 ..)) rfl rfl ?_
    refine st_iload (p' := 1953) rfl rfl rfl ?_
    refine st_icT (p' := 1958) rfl q_eqr rfl ?_
    refine st_iload (p' := 1960) rfl rfl rfl ?_
    refine st_ifF (p' := 1963) rfl (q_nz' z_r) rfl ?_
    refine st_aload (p' := 1964) rfl rfl rfl ?_
    refine st_push (p' := 1965) rfl rfl ?_
    refine st_lld (p' := 1966) (j := 0) (v := .long b.toInt64) rfl rfl (g3 z_r) (by decide) (by decide) rfl rfl ?_
    refine st_iload (p' := 1968) rfl rfl rfl ?_
    refine st_i (p' := 1969) (v := .long b.toInt64) rfl rfl rfl ?_
    refine st_ll (p' := 1970) (v := .int 0) rfl rfl (q_cmp _) ?_
    refine st_ifT (p' := 1975) rfl (by decide +kernel) rfl ?_
    refine st_goto rfl ?_
    refine st_iinc (p' := 2119) (l' := [(4, .int 5), (6, .int b), (5, .int r), (3, .ref 104), (2, .ref 82), (1, .ref 0), (0, .float 0)]) (z := 5) rfl rfl (by decide) rfl (by decide) rfl ?_
    refine st_goto rfl ?_
    refine st_iload (p' := 25) rfl rfl rfl ?_
    refine st_aloadF (p' := 26) rfl rfl rfl ?_
    refine st_slen (p' := 27) (q := 5) rfl rfl (by decide) ?_
    refine st_push (p' := 28) rfl rfl ?_
    refine st_ii (p' := 29) (z := 0) rfl rfl (by decide +kernel) ?_
    refine st_icT (p' := 2122) rfl (by decide +kernel) rfl ?_
    refine st_push (p' := 2123) rfl rfl ?_
    exact st_ret_i rfl
  · refine st_iload (p' := 25) rfl rfl rfl ?_
    refine st_aloadF (p' := 26) rfl rfl rfl ?_
    refine st_slen (p' := 27) (q := 5) rfl rfl (by decide) ?_
    refine st_push (p' := 28) rfl rfl ?_
    refine st_ii (p' := 29) (z := 0) rfl rfl (by decide +kernel) ?_
    refine st_icF (p' := 32) rfl (by decide +kernel) rfl ?_
    refine st_aloadF (p' := 33) rfl rfl rfl ?_
    refine st_iload (p' := 35) rfl rfl rfl ?_
    refine st_sld (p' := 36) (x := xs 0) rfl rfl (by decide) (by decide +kernel) (congrArg xs (by decide)) ?_
    refine st_push (p' := 38) rfl rfl ?_
    refine st_ii (p' := 39) (z := 25) rfl rfl hk ?_
    refine st_tsw (p' := 1922) rfl (by decide +kernel) ?_
    refine st_aload (p' := 1923) rfl rfl rfl ?_
    refine st_aloadF (p' := 1924) rfl rfl rfl ?_
    refine st_iload (p' := 1926) rfl rfl rfl ?_
    refine st_push (p' := 1927) rfl rfl ?_
    refine st_ii (p' := 1928) (z := 1) rfl rfl (by decide +kernel) ?_
    refine st_sld (p' := 1929) (x := xs 1) rfl rfl (by decide) (by decide +kernel) (congrArg xs (by decide)) ?_
    refine st_aload (p' := 1930) rfl rfl rfl ?_
    refine st_inv (p' := 1933) (av := [.ref 0, .int (xs 1), .ref 104]) (s' := [.int r]) rfl rfl a1 rfl rfl rfl rfl rfl ?_
    refine st_istore (p' := 1935) (l' := [(5, .int r), (4, .int 0), (3, .ref 104), (2, .ref 82), (1, .ref 0), (0, .float 0)]) rfl rfl (by decide) rfl ?_
    refine st_aload (p' := 1936) rfl rfl rfl ?_
    refine st_aloadF (p' := 1937) rfl rfl rfl ?_
    refine st_iload (p' := 1939) rfl rfl rfl ?_
    refine st_push (p' := 1940) rfl rfl ?_
    refine st_ii (p' := 1941) (z := 1) rfl rfl (by decide +kernel) ?_
    refine st_sld (p' := 1942) (x := xs 1) rfl rfl (by decide) (by decide +kernel) (congrArg xs (by decide)) ?_
    refine st_inv (p' := 1945) (av := [.ref 82, .int (xs 1)]) (s' := [.int b]) rfl rfl a2 rfl rfl (q_recv (g1 ..)) rfl rfl ?_
    refine st_istore (p' := 1947) (l' := [(6, .int b), (5, .int r), (4, .int 0), (3, .ref 104), (2, .ref 82), (1, .ref 0), (0, .float 0)]) rfl rfl (by decide) rfl ?_
    refine st_aload (p' := 1948) rfl rfl rfl ?_
    refine st_inv (p' := 1951) (av := [.ref 82]) (s' := [.int r]) rfl rfl a3 rfl rfl (q_recv (g2 ..)) rfl rfl ?_
    refine st_iload (p' := 1953) rfl rfl rfl ?_
    refine st_icT (p' := 1958) rfl q_eqr rfl ?_
    refine st_iload (p' := 1960) rfl rfl rfl ?_
    refine st_ifT (p' := 1975) rfl (q_nz z_r) rfl ?_
    refine st_goto rfl ?_
    refine st_iinc (p' := 2119) (l' := [(4, .int 5), (6, .int b), (5, .int r), (3, .ref 104), (2, .ref 82), (1, .ref 0), (0, .float 0)]) (z := 5) rfl rfl (by decide) rfl (by decide) rfl ?_
    refine st_goto rfl ?_
    refine st_iload (p' := 25) rfl rfl rfl ?_
    refine st_aloadF (p' := 26) rfl rfl rfl ?_
    refine st_slen (p' := 27) (q := 5) rfl rfl (by decide) ?_
    refine st_push (p' := 28) rfl rfl ?_
    refine st_ii (p' := 29) (z := 0) rfl rfl (by decide +kernel) ?_
    refine st_icT (p' := 2122) rfl (by decide +kernel) rfl ?_
    refine st_push (p' := 2123) rfl rfl ?_
    exact st_ret_i rfl
theorem law_goes (xs : Nat → Int32) (hk : xs 0 &&& 31 = 26) (ha : agree 317 286 [.ref 0, .int (xs 1), .ref 104] [.ref 82, .int (xs 1)]) : LawOk xs := by
  obtain ⟨r, b, h1, h2, f1, f2, a1, g1, a2, g2, a3, g3, g4, g5⟩ := ha
  refine ⟨h2, ?_, g4, g5⟩
  by_cases z_r : r = 0
  · refine st_iload (p' := 25) rfl rfl rfl ?_
    refine st_aloadF (p' := 26) rfl rfl rfl ?_
    refine st_slen (p' := 27) (q := 5) rfl rfl (by decide) ?_
    refine st_push (p' := 28) rfl rfl ?_
    refine st_ii (p' := 29) (z := 0) rfl rfl (by decide +kernel) ?_
    refine st_icF (p' := 32) rfl (by decide +kernel) rfl ?_
    refine st_aloadF (p' := 33) rfl rfl rfl ?_
    refine st_iload (p' := 35) rfl rfl rfl ?_
    refine st_sld (p' := 36) (x := xs 0) rfl rfl (by decide) (by decide +kernel) (congrArg xs (by decide)) ?_
    refine st_push (p' := 38) rfl rfl ?_
    refine st_ii (p' := 39) (z := 26) rfl rfl hk ?_
    refine st_tsw (p' := 1978) rfl (by decide +kernel) ?_
    refine st_aload (p' := 1979) rfl rfl rfl ?_
    refine st_aloadF (p' := 1980) rfl rfl rfl ?_
    refine st_iload (p' := 1982) rfl rfl rfl ?_
    refine st_push (p' := 1983) rfl rfl ?_
    refine st_ii (p' := 1984) (z := 1) rfl rfl (by decide +kernel) ?_
    refine st_sld (p' := 1985) (x := xs 1) rfl rfl (by decide) (by decide +kernel) (congrArg xs (by decide)) ?_
    refine st_aload (p' := 1986) rfl rfl rfl ?_
    refine st_inv (p' := 1989) (av := [.ref 0, .int (xs 1), .ref 104]) (s' := [.int r]) rfl rfl a1 rfl rfl rfl rfl rfl ?_
    refine st_istore (p' := 1991) (l' := [(5, .int r), (4, .int 0), (3, .ref 104), (2, .ref 82), (1, .ref 0), (0, .float 0)]) rfl rfl (by decide) rfl ?_
    refine st_aload (p' := 1992) rfl rfl rfl ?_
    refine st_aloadF (p' := 1993) rfl rfl rfl ?_
    refine st_iload (p' := 1995) rfl rfl rfl ?_
    refine st_push (p' := 1996) rfl rfl ?_
    refine st_ii (p' := 1997) (z := 1) rfl rfl (by decide +kernel) ?_
    refine st_sld (p' := 1998) (x := xs 1) rfl rfl (by decide) (by decide +kernel) (congrArg xs (by decide)) ?_
    refine st_inv (p' := 2001) (av := [.ref 82, .int (xs 1)]) (s' := [.int b]) rfl rfl a2 rfl rfl (q_recv (g1 ..)) rfl rfl ?_
    refine st_istore (p' := 2003) (l' := [(6, .int b), (5, .int r), (4, .int 0), (3, .ref 104), (2, .ref 82), (1, .ref 0), (0, .float 0)]) rfl rfl (by decide) rfl ?_
    refine st_aload (p' := 2004) rfl rfl rfl ?_
    refine st_inv (p' := 2007) (av := [.ref 82]) (s' := [.int r]) rfl rfl a3 rfl rfl (q_recv (g2 ..)) rfl rfl ?_
    refine st_iload (p' := 2009) rfl rfl rfl ?_
    refine st_icT (p' := 2014) rfl q_eqr rfl ?_
    refine st_iload (p' := 2016) rfl rfl rfl ?_
    refine st_ifF (p' := 2019) rfl (q_nz' z_r) rfl ?_
    refine st_aload (p' := 2020) rfl rfl rfl ?_
    refine st_push (p' := 2021) rfl rfl ?_
    refine st_lld (p' := 2022) (j := 0) (v := .long b.toInt64) rfl rfl (g3 z_r) (by decide) (by decide) rfl rfl ?_
    refine st_iload (p' := 2024) rfl rfl rfl ?_
    refine st_i (p' := 2025) (v := .long b.toInt64) rfl rfl rfl ?_
    refine st_ll (p' := 2026) (v := .int 0) rfl rfl (q_cmp _) ?_
    refine st_ifT (p' := 2031) rfl (by decide +kernel) rfl ?_
    refine st_goto rfl ?_
    refine st_iinc (p' := 2119) (l' := [(4, .int 5), (6, .int b), (5, .int r), (3, .ref 104), (2, .ref 82), (1, .ref 0), (0, .float 0)]) (z := 5) rfl rfl (by decide) rfl (by decide) rfl ?_
    refine st_goto rfl ?_
    refine st_iload (p' := 25) rfl rfl rfl ?_
    refine st_aloadF (p' := 26) rfl rfl rfl ?_
    refine st_slen (p' := 27) (q := 5) rfl rfl (by decide) ?_
    refine st_push (p' := 28) rfl rfl ?_
    refine st_ii (p' := 29) (z := 0) rfl rfl (by decide +kernel) ?_
    refine st_icT (p' := 2122) rfl (by decide +kernel) rfl ?_
    refine st_push (p' := 2123) rfl rfl ?_
    exact st_ret_i rfl
  · refine st_iload (p' := 25) rfl rfl rfl ?_
    refine st_aloadF (p' := 26) rfl rfl rfl ?_
    refine st_slen (p' := 27) (q := 5) rfl rfl (by decide) ?_
    refine st_push (p' := 28) rfl rfl ?_
    refine st_ii (p' := 29) (z := 0) rfl rfl (by decide +kernel) ?_
    refine st_icF (p' := 32) rfl (by decide +kernel) rfl ?_
    refine st_aloadF (p' := 33) rfl rfl rfl ?_
    refine st_iload (p' := 35) rfl rfl rfl ?_
    refine st_sld (p' := 36) (x := xs 0) rfl rfl (by decide) (by decide +kernel) (congrArg xs (by decide)) ?_
    refine st_push (p' := 38) rfl rfl ?_
    refine st_ii (p' := 39) (z := 26) rfl rfl hk ?_
    refine st_tsw (p' := 1978) rfl (by decide +kernel) ?_
    refine st_aload (p' := 1979) rfl rfl rfl ?_
    refine st_aloadF (p' := 1980) rfl rfl rfl ?_
    refine st_iload (p' := 1982) rfl rfl rfl ?_
    refine st_push (p' := 1983) rfl rfl ?_
    refine st_ii (p' := 1984) (z := 1) rfl rfl (by decide +kernel) ?_
    refine st_sld (p' := 1985) (x := xs 1) rfl rfl (by decide) (by decide +kernel) (congrArg xs (by decide)) ?_
    refine st_aload (p' := 1986) rfl rfl rfl ?_
    refine st_inv (p' := 1989) (av := [.ref 0, .int (xs 1), .ref 104]) (s' := [.int r]) rfl rfl a1 rfl rfl rfl rfl rfl ?_
    refine st_istore (p' := 1991) (l' := [(5, .int r), (4, .int 0), (3, .ref 104), (2, .ref 82), (1, .ref 0), (0, .float 0)]) rfl rfl (by decide) rfl ?_
    refine st_aload (p' := 1992) rfl rfl rfl ?_
    refine st_aloadF (p' := 1993) rfl rfl rfl ?_
    refine st_iload (p' := 1995) rfl rfl rfl ?_
    refine st_push (p' := 1996) rfl rfl ?_
    refine st_ii (p' := 1997) (z := 1) rfl rfl (by decide +kernel) ?_
    refine st_sld (p' := 1998) (x := xs 1) rfl rfl (by decide) (by decide +kernel) (congrArg xs (by decide)) ?_
    refine st_inv (p' := 2001) (av := [.ref 82, .int (xs 1)]) (s' := [.int b]) rfl rfl a2 rfl rfl (q_recv (g1 ..)) rfl rfl ?_
    refine st_istore (p' := 2003) (l' := [(6, .int b), (5, .int r), (4, .int 0), (3, .ref 104), (2, .ref 82), (1, .ref 0), (0, .float 0)]) rfl rfl (by decide) rfl ?_
    refine st_aload (p' := 2004) rfl rfl rfl ?_
    refine st_inv (p' := 2007) (av := [.ref 82]) (s' := [.int r]) rfl rfl a3 rfl rfl (q_recv (g2 ..)) rfl rfl ?_
    refine st_iload (p' := 2009) rfl rfl rfl ?_
    refine st_icT (p' := 2014) rfl q_eqr rfl ?_
    refine st_iload (p' := 2016) rfl rfl rfl ?_
    refine st_ifT (p' := 2031) rfl (q_nz z_r) rfl ?_
    refine st_goto rfl ?_
    refine st_iinc (p' := 2119) (l' := [(4, .int 5), (6, .int b), (5, .int r), (3, .ref 104), (2, .ref 82), (1, .ref 0), (0, .float 0)]) (z := 5) rfl rfl (by decide) rfl (by decide) rfl ?_
    refine st_goto rfl ?_
    refine st_iload (p' := 25) rfl rfl rfl ?_
    refine st_aloadF (p' := 26) rfl rfl rfl ?_
    refine st_slen (p' := 27) (q := 5) rfl rfl (by decide) ?_
    refine st_push (p' := 28) rfl rfl ?_
    refine st_ii (p' := 29) (z := 0) rfl rfl (by decide +kernel) ?_
    refine st_icT (p' := 2122) rfl (by decide +kernel) rfl ?_
    refine st_push (p' := 2123) rfl rfl ?_
    exact st_ret_i rfl
theorem law_wouldBind (xs : Nat → Int32) (hk : xs 0 &&& 31 = 27) (ha : agree 318 288 [.ref 0, .int (xs 1), .int (xs 2), .ref 104] [.ref 82, .int (xs 1), .int (xs 2)]) : LawOk xs := by
  obtain ⟨r, b, h1, h2, f1, f2, a1, g1, a2, g2, a3, g3, g4, g5⟩ := ha
  refine ⟨h2, ?_, g4, g5⟩
  by_cases z_r : r = 0
  · refine st_iload (p' := 25) rfl rfl rfl ?_
    refine st_aloadF (p' := 26) rfl rfl rfl ?_
    refine st_slen (p' := 27) (q := 5) rfl rfl (by decide) ?_
    refine st_push (p' := 28) rfl rfl ?_
    refine st_ii (p' := 29) (z := 0) rfl rfl (by decide +kernel) ?_
    refine st_icF (p' := 32) rfl (by decide +kernel) rfl ?_
    refine st_aloadF (p' := 33) rfl rfl rfl ?_
    refine st_iload (p' := 35) rfl rfl rfl ?_
    refine st_sld (p' := 36) (x := xs 0) rfl rfl (by decide) (by decide +kernel) (congrArg xs (by decide)) ?_
    refine st_push (p' := 38) rfl rfl ?_
    refine st_ii (p' := 39) (z := 27) rfl rfl hk ?_
    refine st_tsw (p' := 2034) rfl (by decide +kernel) ?_
    refine st_aload (p' := 2035) rfl rfl rfl ?_
    refine st_aloadF (p' := 2036) rfl rfl rfl ?_
    refine st_iload (p' := 2038) rfl rfl rfl ?_
    refine st_push (p' := 2039) rfl rfl ?_
    refine st_ii (p' := 2040) (z := 1) rfl rfl (by decide +kernel) ?_
    refine st_sld (p' := 2041) (x := xs 1) rfl rfl (by decide) (by decide +kernel) (congrArg xs (by decide)) ?_
    refine st_aloadF (p' := 2042) rfl rfl rfl ?_
    refine st_iload (p' := 2044) rfl rfl rfl ?_
    refine st_push (p' := 2045) rfl rfl ?_
    refine st_ii (p' := 2046) (z := 2) rfl rfl (by decide +kernel) ?_
    refine st_sld (p' := 2047) (x := xs 2) rfl rfl (by decide) (by decide +kernel) (congrArg xs (by decide)) ?_
    refine st_aload (p' := 2048) rfl rfl rfl ?_
    refine st_inv (p' := 2051) (av := [.ref 0, .int (xs 1), .int (xs 2), .ref 104]) (s' := [.int r]) rfl rfl a1 rfl rfl rfl rfl rfl ?_
    refine st_istore (p' := 2053) (l' := [(5, .int r), (4, .int 0), (3, .ref 104), (2, .ref 82), (1, .ref 0), (0, .float 0)]) rfl rfl (by decide) rfl ?_
    refine st_aload (p' := 2054) rfl rfl rfl ?_
    refine st_aloadF (p' := 2055) rfl rfl rfl ?_
    refine st_iload (p' := 2057) rfl rfl rfl ?_
    refine st_push (p' := 2058) rfl rfl ?_
    refine st_ii (p' := 2059) (z := 1) rfl rfl (by decide +kernel) ?_
    refine st_sld (p' := 2060) (x := xs 1) rfl rfl (by decide) (by decide +kernel) (congrArg xs (by decide)) ?_
    refine st_aloadF (p' := 2061) rfl rfl rfl ?_
    refine st_iload (p' := 2063) rfl rfl rfl ?_
    refine st_push (p' := 2064) rfl rfl ?_
    refine st_ii (p' := 2065) (z := 2) rfl rfl (by decide +kernel) ?_
    refine st_sld (p' := 2066) (x := xs 2) rfl rfl (by decide) (by decide +kernel) (congrArg xs (by decide)) ?_
    refine st_inv (p' := 2069) (av := [.ref 82, .int (xs 1), .int (xs 2)]) (s' := [.int b]) rfl rfl a2 rfl rfl (q_recv (g1 ..)) rfl rfl ?_
    refine st_istore (p' := 2071) (l' := [(6, .int b), (5, .int r), (4, .int 0), (3, .ref 104), (2, .ref 82), (1, .ref 0), (0, .float 0)]) rfl rfl (by decide) rfl ?_
    refine st_aload (p' := 2072) rfl rfl rfl ?_
    refine st_inv (p' := 2075) (av := [.ref 82]) (s' := [.int r]) rfl rfl a3 rfl rfl (q_recv (g2 ..)) rfl rfl ?_
    refine st_iload (p' := 2077) rfl rfl rfl ?_
    refine st_icT (p' := 2082) rfl q_eqr rfl ?_
    refine st_iload (p' := 2084) rfl rfl rfl ?_
    refine st_ifF (p' := 2087) rfl (q_nz' z_r) rfl ?_
    refine st_aload (p' := 2088) rfl rfl rfl ?_
    refine st_push (p' := 2089) rfl rfl ?_
    refine st_lld (p' := 2090) (j := 0) (v := .long b.toInt64) rfl rfl (g3 z_r) (by decide) (by decide) rfl rfl ?_
    refine st_iload (p' := 2092) rfl rfl rfl ?_
    refine st_i (p' := 2093) (v := .long b.toInt64) rfl rfl rfl ?_
    refine st_ll (p' := 2094) (v := .int 0) rfl rfl (q_cmp _) ?_
    refine st_ifT (p' := 2099) rfl (by decide +kernel) rfl ?_
    refine st_goto rfl ?_
    refine st_iinc (p' := 2119) (l' := [(4, .int 5), (6, .int b), (5, .int r), (3, .ref 104), (2, .ref 82), (1, .ref 0), (0, .float 0)]) (z := 5) rfl rfl (by decide) rfl (by decide) rfl ?_
    refine st_goto rfl ?_
    refine st_iload (p' := 25) rfl rfl rfl ?_
    refine st_aloadF (p' := 26) rfl rfl rfl ?_
    refine st_slen (p' := 27) (q := 5) rfl rfl (by decide) ?_
    refine st_push (p' := 28) rfl rfl ?_
    refine st_ii (p' := 29) (z := 0) rfl rfl (by decide +kernel) ?_
    refine st_icT (p' := 2122) rfl (by decide +kernel) rfl ?_
    refine st_push (p' := 2123) rfl rfl ?_
    exact st_ret_i rfl
  · refine st_iload (p' := 25) rfl rfl rfl ?_
    refine st_aloadF (p' := 26) rfl rfl rfl ?_
    refine st_slen (p' := 27) (q := 5) rfl rfl (by decide) ?_
    refine st_push (p' := 28) rfl rfl ?_
    refine st_ii (p' := 29) (z := 0) rfl rfl (by decide +kernel) ?_
    refine st_icF (p' := 32) rfl (by decide +kernel) rfl ?_
    refine st_aloadF (p' := 33) rfl rfl rfl ?_
    refine st_iload (p' := 35) rfl rfl rfl ?_
    refine st_sld (p' := 36) (x := xs 0) rfl rfl (by decide) (by decide +kernel) (congrArg xs (by decide)) ?_
    refine st_push (p' := 38) rfl rfl ?_
    refine st_ii (p' := 39) (z := 27) rfl rfl hk ?_
    refine st_tsw (p' := 2034) rfl (by decide +kernel) ?_
    refine st_aload (p' := 2035) rfl rfl rfl ?_
    refine st_aloadF (p' := 2036) rfl rfl rfl ?_
    refine st_iload (p' := 2038) rfl rfl rfl ?_
    refine st_push (p' := 2039) rfl rfl ?_
    refine st_ii (p' := 2040) (z := 1) rfl rfl (by decide +kernel) ?_
    refine st_sld (p' := 2041) (x := xs 1) rfl rfl (by decide) (by decide +kernel) (congrArg xs (by decide)) ?_
    refine st_aloadF (p' := 2042) rfl rfl rfl ?_
    refine st_iload (p' := 2044) rfl rfl rfl ?_
    refine st_push (p' := 2045) rfl rfl ?_
    refine st_ii (p' := 2046) (z := 2) rfl rfl (by decide +kernel) ?_
    refine st_sld (p' := 2047) (x := xs 2) rfl rfl (by decide) (by decide +kernel) (congrArg xs (by decide)) ?_
    refine st_aload (p' := 2048) rfl rfl rfl ?_
    refine st_inv (p' := 2051) (av := [.ref 0, .int (xs 1), .int (xs 2), .ref 104]) (s' := [.int r]) rfl rfl a1 rfl rfl rfl rfl rfl ?_
    refine st_istore (p' := 2053) (l' := [(5, .int r), (4, .int 0), (3, .ref 104), (2, .ref 82), (1, .ref 0), (0, .float 0)]) rfl rfl (by decide) rfl ?_
    refine st_aload (p' := 2054) rfl rfl rfl ?_
    refine st_aloadF (p' := 2055) rfl rfl rfl ?_
    refine st_iload (p' := 2057) rfl rfl rfl ?_
    refine st_push (p' := 2058) rfl rfl ?_
    refine st_ii (p' := 2059) (z := 1) rfl rfl (by decide +kernel) ?_
    refine st_sld (p' := 2060) (x := xs 1) rfl rfl (by decide) (by decide +kernel) (congrArg xs (by decide)) ?_
    refine st_aloadF (p' := 2061) rfl rfl rfl ?_
    refine st_iload (p' := 2063) rfl rfl rfl ?_
    refine st_push (p' := 2064) rfl rfl ?_
    refine st_ii (p' := 2065) (z := 2) rfl rfl (by decide +kernel) ?_
    refine st_sld (p' := 2066) (x := xs 2) rfl rfl (by decide) (by decide +kernel) (congrArg xs (by decide)) ?_
    refine st_inv (p' := 2069) (av := [.ref 82, .int (xs 1), .int (xs 2)]) (s' := [.int b]) rfl rfl a2 rfl rfl (q_recv (g1 ..)) rfl rfl ?_
    refine st_istore (p' := 2071) (l' := [(6, .int b), (5, .int r), (4, .int 0), (3, .ref 104), (2, .ref 82), (1, .ref 0), (0, .float 0)]) rfl rfl (by decide) rfl ?_
    refine st_aload (p' := 2072) rfl rfl rfl ?_
    refine st_inv (p' := 2075) (av := [.ref 82]) (s' := [.int r]) rfl rfl a3 rfl rfl (q_recv (g2 ..)) rfl rfl ?_
    refine st_iload (p' := 2077) rfl rfl rfl ?_
    refine st_icT (p' := 2082) rfl q_eqr rfl ?_
    refine st_iload (p' := 2084) rfl rfl rfl ?_
    refine st_ifT (p' := 2099) rfl (q_nz z_r) rfl ?_
    refine st_goto rfl ?_
    refine st_iinc (p' := 2119) (l' := [(4, .int 5), (6, .int b), (5, .int r), (3, .ref 104), (2, .ref 82), (1, .ref 0), (0, .float 0)]) (z := 5) rfl rfl (by decide) rfl (by decide) rfl ?_
    refine st_goto rfl ?_
    refine st_iload (p' := 25) rfl rfl rfl ?_
    refine st_aloadF (p' := 26) rfl rfl rfl ?_
    refine st_slen (p' := 27) (q := 5) rfl rfl (by decide) ?_
    refine st_push (p' := 28) rfl rfl ?_
    refine st_ii (p' := 29) (z := 0) rfl rfl (by decide +kernel) ?_
    refine st_icT (p' := 2122) rfl (by decide +kernel) rfl ?_
    refine st_push (p' := 2123) rfl rfl ?_
    exact st_ret_i rfl
noncomputable def cl_digest : Bool := match ev_call mt pg 3000 12 189 [.ref 0] (hG 40 9999 0 40 9999 0 105 8641) with
  | some (.inl (some v1), h1) => decide (v1 = .long (-4890020467116486837)) && (match (h1.1[82]? : Option EC) with
    | some (.inr c1, _) => Nat.beq c1 13 && (match ev_call mt pg 3000 12 289 [.ref 82] h1 with
      | some (.inl (some v2), h2) => decide (v2 = .long (-4890020467116486837)) && (Nat.ble h2.2.1 600002 && Nat.ble h2.2.2 7302231)
      | _ => false)
    | _ => false)
  | _ => false
theorem cl_digest_t : cl_digest = true := by decide +kernel
theorem cl_digest_x : ∃ (h1 h2 : EH) (f1 : List Value), ev_call mt pg 3000 12 189 [.ref 0] (hG 40 9999 0 40 9999 0 105 8641) = some (.inl (some (.long (-4890020467116486837))), h1) ∧ h1.1[82]? = some (.inr 13, f1) ∧ ev_call mt pg 3000 12 289 [.ref 82] h1 = some (.inl (some (.long (-4890020467116486837))), h2) ∧ h2.2.1 ≤ 600002 ∧ h2.2.2 ≤ 7302231 := by
  have h := cl_digest_t
  unfold cl_digest at h
  split at h
  · rename_i v1 h1 e1
    obtain ⟨a1, h⟩ := Bool.and_eq_true_iff.mp h
    split at h
    · rename_i c1 f1 e2
      obtain ⟨a2, h⟩ := Bool.and_eq_true_iff.mp h
      split at h
      · rename_i v2 h2 e3
        obtain ⟨a3, h⟩ := Bool.and_eq_true_iff.mp h
        obtain ⟨a4, a5⟩ := Bool.and_eq_true_iff.mp h
        rw [Nat.eq_of_beq_eq_true a2] at e2
        rw [of_decide_eq_true a1] at e1
        rw [of_decide_eq_true a3] at e3
        exact ⟨h1, h2, f1, e1, e2, e3, Nat.le_of_ble_eq_true a4, Nat.le_of_ble_eq_true a5⟩
      · cases h
    · cases h
  · cases h
theorem law_digest (xs : Nat → Int32) (hk : xs 0 &&& 31 = 28) : LawOk xs := by
  obtain ⟨h1, h2, f1, a1, g1, a2, g4, g5⟩ := cl_digest_x
  refine ⟨h2, ?_, g4, g5⟩
  refine st_iload (p' := 25) rfl rfl rfl ?_
  refine st_aloadF (p' := 26) rfl rfl rfl ?_
  refine st_slen (p' := 27) (q := 5) rfl rfl (by decide) ?_
  refine st_push (p' := 28) rfl rfl ?_
  refine st_ii (p' := 29) (z := 0) rfl rfl (by decide +kernel) ?_
  refine st_icF (p' := 32) rfl (by decide +kernel) rfl ?_
  refine st_aloadF (p' := 33) rfl rfl rfl ?_
  refine st_iload (p' := 35) rfl rfl rfl ?_
  refine st_sld (p' := 36) (x := xs 0) rfl rfl (by decide) (by decide +kernel) (congrArg xs (by decide)) ?_
  refine st_push (p' := 38) rfl rfl ?_
  refine st_ii (p' := 39) (z := 28) rfl rfl hk ?_
  refine st_tsw (p' := 2102) rfl (by decide +kernel) ?_
  refine st_aload (p' := 2103) rfl rfl rfl ?_
  refine st_inv (p' := 2106) (av := [.ref 0]) (s' := [.long (-4890020467116486837)]) rfl rfl a1 rfl rfl (q_recv (hG_x ..)) rfl rfl ?_
  refine st_aload (p' := 2107) rfl rfl rfl ?_
  refine st_inv (p' := 2110) (av := [.ref 82]) (s' := [.long (-4890020467116486837), .long (-4890020467116486837)]) rfl rfl a2 rfl rfl (q_recv (g1 ..)) rfl rfl ?_
  refine st_ll (p' := 2111) (v := .int 0) rfl rfl (q_cmp _) ?_
  refine st_ifT (p' := 2116) rfl (by decide +kernel) rfl ?_
  refine st_iinc (p' := 2119) (l' := [(4, .int 5), (3, .ref 104), (2, .ref 82), (1, .ref 0), (0, .float 0)]) (z := 5) rfl rfl (by decide) rfl (by decide) rfl ?_
  refine st_goto rfl ?_
  refine st_iload (p' := 25) rfl rfl rfl ?_
  refine st_aloadF (p' := 26) rfl rfl rfl ?_
  refine st_slen (p' := 27) (q := 5) rfl rfl (by decide) ?_
  refine st_push (p' := 28) rfl rfl ?_
  refine st_ii (p' := 29) (z := 0) rfl rfl (by decide +kernel) ?_
  refine st_icT (p' := 2122) rfl (by decide +kernel) rfl ?_
  refine st_push (p' := 2123) rfl rfl ?_
  exact st_ret_i rfl
theorem law_no29 (xs : Nat → Int32) (hk : xs 0 &&& 31 = 29) : LawOk xs := by
  refine ⟨(hG 40 9999 0 40 9999 0 105 8641), ?_, by decide, by decide⟩
  refine st_iload (p' := 25) rfl rfl rfl ?_
  refine st_aloadF (p' := 26) rfl rfl rfl ?_
  refine st_slen (p' := 27) (q := 5) rfl rfl (by decide) ?_
  refine st_push (p' := 28) rfl rfl ?_
  refine st_ii (p' := 29) (z := 0) rfl rfl (by decide +kernel) ?_
  refine st_icF (p' := 32) rfl (by decide +kernel) rfl ?_
  refine st_aloadF (p' := 33) rfl rfl rfl ?_
  refine st_iload (p' := 35) rfl rfl rfl ?_
  refine st_sld (p' := 36) (x := xs 0) rfl rfl (by decide) (by decide +kernel) (congrArg xs (by decide)) ?_
  refine st_push (p' := 38) rfl rfl ?_
  refine st_ii (p' := 39) (z := 29) rfl rfl hk ?_
  refine st_tsw (p' := 2116) rfl (by decide +kernel) ?_
  refine st_iinc (p' := 2119) (l' := [(4, .int 5), (3, .ref 104), (2, .ref 82), (1, .ref 0), (0, .float 0)]) (z := 5) rfl rfl (by decide) rfl (by decide) rfl ?_
  refine st_goto rfl ?_
  refine st_iload (p' := 25) rfl rfl rfl ?_
  refine st_aloadF (p' := 26) rfl rfl rfl ?_
  refine st_slen (p' := 27) (q := 5) rfl rfl (by decide) ?_
  refine st_push (p' := 28) rfl rfl ?_
  refine st_ii (p' := 29) (z := 0) rfl rfl (by decide +kernel) ?_
  refine st_icT (p' := 2122) rfl (by decide +kernel) rfl ?_
  refine st_push (p' := 2123) rfl rfl ?_
  exact st_ret_i rfl
theorem law_no30 (xs : Nat → Int32) (hk : xs 0 &&& 31 = 30) : LawOk xs := by
  refine ⟨(hG 40 9999 0 40 9999 0 105 8641), ?_, by decide, by decide⟩
  refine st_iload (p' := 25) rfl rfl rfl ?_
  refine st_aloadF (p' := 26) rfl rfl rfl ?_
  refine st_slen (p' := 27) (q := 5) rfl rfl (by decide) ?_
  refine st_push (p' := 28) rfl rfl ?_
  refine st_ii (p' := 29) (z := 0) rfl rfl (by decide +kernel) ?_
  refine st_icF (p' := 32) rfl (by decide +kernel) rfl ?_
  refine st_aloadF (p' := 33) rfl rfl rfl ?_
  refine st_iload (p' := 35) rfl rfl rfl ?_
  refine st_sld (p' := 36) (x := xs 0) rfl rfl (by decide) (by decide +kernel) (congrArg xs (by decide)) ?_
  refine st_push (p' := 38) rfl rfl ?_
  refine st_ii (p' := 39) (z := 30) rfl rfl hk ?_
  refine st_tsw (p' := 2116) rfl (by decide +kernel) ?_
  refine st_iinc (p' := 2119) (l' := [(4, .int 5), (3, .ref 104), (2, .ref 82), (1, .ref 0), (0, .float 0)]) (z := 5) rfl rfl (by decide) rfl (by decide) rfl ?_
  refine st_goto rfl ?_
  refine st_iload (p' := 25) rfl rfl rfl ?_
  refine st_aloadF (p' := 26) rfl rfl rfl ?_
  refine st_slen (p' := 27) (q := 5) rfl rfl (by decide) ?_
  refine st_push (p' := 28) rfl rfl ?_
  refine st_ii (p' := 29) (z := 0) rfl rfl (by decide +kernel) ?_
  refine st_icT (p' := 2122) rfl (by decide +kernel) rfl ?_
  refine st_push (p' := 2123) rfl rfl ?_
  exact st_ret_i rfl
theorem law_no31 (xs : Nat → Int32) (hk : xs 0 &&& 31 = 31) : LawOk xs := by
  refine ⟨(hG 40 9999 0 40 9999 0 105 8641), ?_, by decide, by decide⟩
  refine st_iload (p' := 25) rfl rfl rfl ?_
  refine st_aloadF (p' := 26) rfl rfl rfl ?_
  refine st_slen (p' := 27) (q := 5) rfl rfl (by decide) ?_
  refine st_push (p' := 28) rfl rfl ?_
  refine st_ii (p' := 29) (z := 0) rfl rfl (by decide +kernel) ?_
  refine st_icF (p' := 32) rfl (by decide +kernel) rfl ?_
  refine st_aloadF (p' := 33) rfl rfl rfl ?_
  refine st_iload (p' := 35) rfl rfl rfl ?_
  refine st_sld (p' := 36) (x := xs 0) rfl rfl (by decide) (by decide +kernel) (congrArg xs (by decide)) ?_
  refine st_push (p' := 38) rfl rfl ?_
  refine st_ii (p' := 39) (z := 31) rfl rfl hk ?_
  refine st_tsw (p' := 2116) rfl (by decide +kernel) ?_
  refine st_iinc (p' := 2119) (l' := [(4, .int 5), (3, .ref 104), (2, .ref 82), (1, .ref 0), (0, .float 0)]) (z := 5) rfl rfl (by decide) rfl (by decide) rfl ?_
  refine st_goto rfl ?_
  refine st_iload (p' := 25) rfl rfl rfl ?_
  refine st_aloadF (p' := 26) rfl rfl rfl ?_
  refine st_slen (p' := 27) (q := 5) rfl rfl (by decide) ?_
  refine st_push (p' := 28) rfl rfl ?_
  refine st_ii (p' := 29) (z := 0) rfl rfl (by decide +kernel) ?_
  refine st_icT (p' := 2122) rfl (by decide +kernel) rfl ?_
  refine st_push (p' := 2123) rfl rfl ?_
  exact st_ret_i rfl
theorem q_and31 (x : Int32) : ∃ k, k < 32 ∧ x &&& 31 = Int32.ofInt (0 + (k : Nat)) := by
  have h : (x &&& 31).toBitVec = x.toBitVec &&& 31#32 := rfl
  have h1 : (x &&& 31).toBitVec.toNat < 32 := by
    rw [h, BitVec.toNat_and]
    exact Nat.lt_of_le_of_lt Nat.and_le_right (by decide)
  have h2 : (x &&& 31).toInt = ((x &&& 31).toBitVec.toNat : Int) := by
    show (x &&& 31).toBitVec.toInt = _
    rw [BitVec.toInt_eq_toNat_cond, if_pos (by omega)]
  exact q_conc (lo := 0) (m := 32) (by omega) (by omega)
theorem law_all (xs : Nat → Int32) : LawOk xs := by
  obtain ⟨k, hk1, hk⟩ := q_and31 (xs 0)
  match k, hk1, hk with
  | 0, _, hk => exact law_object xs (hk.trans (by decide)) (ag_object )
  | 1, _, hk => exact law_section xs (hk.trans (by decide)) (fun b0 qb0 => ag_section (xs 1) (xs 2) b0 qb0)
  | 2, _, hk => exact law_fill xs (hk.trans (by decide)) (ag_fill (xs 1) (xs 2))
  | 3, _, hk => exact law_word xs (hk.trans (by decide)) (fun b0 qb0 => ag_word (xs 1) (xs 2) (xs 3) b0 qb0)
  | 4, _, hk => exact law_jump xs (hk.trans (by decide)) (fun b0 qb0 => ag_jump (xs 1) (xs 2) b0 qb0)
  | 5, _, hk => exact law_define xs (hk.trans (by decide)) (fun b0 b1 qb0 qb1 => ag_define (xs 1) (xs 2) b0 b1 qb0 qb1)
  | 6, _, hk => exact law_common xs (hk.trans (by decide)) (ag_common (xs 1) (xs 2) (xs 3) (xs 4))
  | 7, _, hk => exact law_item xs (hk.trans (by decide)) (ag_item (xs 1) (xs 2))
  | 8, _, hk => exact law_clear xs (hk.trans (by decide))
  | 9, _, hk => exact law_ofObject xs (hk.trans (by decide)) (ag_ofObject (xs 1) (xs 2))
  | 10, _, hk => exact law_bounds xs (hk.trans (by decide)) (ag_bounds (xs 1) (xs 2))
  | 11, _, hk => exact law_link xs (hk.trans (by decide)) (fun b0 qb0 => ag_link (xs 1) b0 qb0)
  | 12, _, hk => exact law_ofSection xs (hk.trans (by decide)) (ag_ofSection (xs 1) (xs 2))
  | 13, _, hk => exact law_ofName xs (hk.trans (by decide)) (ag_ofName (xs 1) (xs 2))
  | 14, _, hk => exact law_fault xs (hk.trans (by decide)) (ag_fault (xs 1) (xs 2))
  | 15, _, hk => exact law_wordAt xs (hk.trans (by decide)) (ag_wordAt (xs 1))
  | 16, _, hk => exact law_publish xs (hk.trans (by decide)) (ag_publish (xs 1))
  | 17, _, hk => exact law_open xs (hk.trans (by decide)) (fun b0 qb0 => ag_open (xs 1) b0 qb0)
  | 18, _, hk => exact law_close xs (hk.trans (by decide)) (ag_close (xs 1))
  | 19, _, hk => exact law_call xs (hk.trans (by decide)) (ag_call (xs 1) (xs 2))
  | 20, _, hk => exact law_ofBinding xs (hk.trans (by decide)) (ag_ofBinding (xs 1) (xs 2) (xs 3))
  | 21, _, hk => exact law_ofLibrary xs (hk.trans (by decide)) (ag_ofLibrary (xs 1) (xs 2))
  | 22, _, hk => exact law_many xs (hk.trans (by decide)) (ag_many (xs 1))
  | 23, _, hk => exact law_usedPart xs (hk.trans (by decide))
  | 24, _, hk => exact law_sizeWith xs (hk.trans (by decide)) (ag_sizeWith (xs 1))
  | 25, _, hk => exact law_faultsWithout xs (hk.trans (by decide)) (ag_faultsWithout (xs 1))
  | 26, _, hk => exact law_goes xs (hk.trans (by decide)) (ag_goes (xs 1))
  | 27, _, hk => exact law_wouldBind xs (hk.trans (by decide)) (ag_wouldBind (xs 1) (xs 2))
  | 28, _, hk => exact law_digest xs (hk.trans (by decide))
  | 29, _, hk => exact law_no29 xs (hk.trans (by decide))
  | 30, _, hk => exact law_no30 xs (hk.trans (by decide))
  | 31, _, hk => exact law_no31 xs (hk.trans (by decide))
  | k + 32, h, _ => omega
/-- a script too short for a call: the loop isn't entered -/
theorem law_short (xs : Nat → Int32) (L n : Nat) (hL : L < 5) : ev_run (g_law xs L) (ev_call mt pg 3000 12) (n + 8) (23, [(4, .int 0), (3, .ref 104), (2, .ref 82), (1, .ref 0), (0, .float 0)], []) (hG 40 9999 0 40 9999 0 105 8641) = some (.inl (some (.int 1)), (hG 40 9999 0 40 9999 0 105 8641)) := by
  refine st_iload (p' := 25) rfl rfl rfl ?_
  refine st_aloadF (p' := 26) rfl rfl rfl ?_
  refine st_slen (p' := 27) (q := Int32.ofNat L) rfl rfl rfl ?_
  refine st_push (p' := 28) rfl rfl ?_
  refine st_ii (p' := 29) (z := Int32.ofNat L - 5) rfl rfl rfl ?_
  refine st_icT (p' := 2122) rfl (by
    match L, hL with
    | 0, _ => decide +kernel
    | 1, _ => decide +kernel
    | 2, _ => decide +kernel
    | 3, _ => decide +kernel
    | 4, _ => decide +kernel) rfl ?_
  refine st_push (p' := 2123) rfl rfl ?_
  exact st_ret_i rfl
/-- every script of at most 5 ints -/
theorem law_run (xs : Nat → Int32) (L : Nat) (hL : L ≤ 5) : ∃ hs' : EH, ev_run (g_law xs L) (ev_call mt pg 3000 12) (200 + 13) (0, [(0, .float 0)], []) ([], 0, 0) = some (.inl (some (.int 1)), hs') ∧ hs'.2.1 ≤ 600002 ∧ hs'.2.2 ≤ 7302231 := by
  rcases Nat.lt_or_ge L 5 with h | h
  · exact ⟨_, law_head xs L 200 _ (law_short xs L 192 h), by decide, by decide⟩
  · obtain rfl : L = 5 := by omega
    obtain ⟨hs', a, b, c⟩ := law_all xs
    exact ⟨hs', law_head xs 5 200 _ a, b, c⟩
