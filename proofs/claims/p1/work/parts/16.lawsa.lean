def LawOk (xs : Nat → Int32) : Prop := ∃ hs' : EH, ev_run (g_law xs 5) (ev_call mt pg 3000 12) 200 (23, [(4, .int 0), (3, .ref 104), (2, .ref 82), (1, .ref 0), (0, .float 0)], []) (hG 40 9999 0 40 9999 0 105 8641) = some (.inl (some (.int 1)), hs') ∧ hs'.2.1 ≤ 600002 ∧ hs'.2.2 ≤ 7302231
theorem law_object (xs : Nat → Int32) (hk : xs 0 &&& 31 = 0) (ha : agree 293 236 [.ref 0, .ref 104] [.ref 82]) : LawOk xs := by
  obtain ⟨r, b, h1, h2, f1, f2, a1, g1, a2, g2, a3, g3, g4, g5⟩ := ha
  refine ⟨h2, ?_, g4, g5⟩
  by_cases z_r : r = 0
  · refine st_iload (p' := 25) rfl rfl rfl ?_
    refine st_aloadF (p' := 26) rfl rfl rfl ?_
    refine st_slen (p' := 27) (q := 5) rfl rfl (by decide) ?_
    refine st_push (p' := 28) rfl rfl ?_
    refine st_ii (p' := 29) (z := 0) rfl rfl (by decide +kernel) ?_
    refine st_icF (p' := 32) rfl (by decide +kernel) rfl ?_
    refine st_aloadF (p' := 33) rfl rfl rfl ?_
    refine st_iload (p' := 35) rfl rfl rfl ?_
    refine st_sld (p' := 36) (x := xs 0) rfl rfl (by decide) (by decide +kernel) (congrArg xs (by decide)) ?_
    refine st_push (p' := 38) rfl rfl ?_
    refine st_ii (p' := 39) (z := 0) rfl rfl hk ?_
    refine st_tsw (p' := 168) rfl (by decide +kernel) ?_
    refine st_aload (p' := 169) rfl rfl rfl ?_
    refine st_aload (p' := 170) rfl rfl rfl ?_
    refine st_inv (p' := 173) (av := [.ref 0, .ref 104]) (s' := [.int r]) rfl rfl a1 rfl rfl rfl rfl rfl ?_
    refine st_istore (p' := 175) (l' := [(5, .int r), (4, .int 0), (3, .ref 104), (2, .ref 82), (1, .ref 0), (0, .float 0)]) rfl rfl (by decide) rfl ?_
    refine st_aload (p' := 176) rfl rfl rfl ?_
    refine st_inv (p' := 179) (av := [.ref 82]) (s' := [.int b]) rfl rfl a2 rfl rfl (q_recv (g1 ..)) rfl rfl ?_
    refine st_istore (p' := 181) (l' := [(6, .int b), (5, .int r), (4, .int 0), (3, .ref 104), (2, .ref 82), (1, .ref 0), (0, .float 0)]) rfl rfl (by decide) rfl ?_
    refine st_aload (p' := 182) rfl rfl rfl ?_
    refine st_inv (p' := 185) (av := [.ref 82]) (s' := [.int r]) rfl rfl a3 rfl rfl (q_recv (g2 ..)) rfl rfl ?_
    refine st_iload (p' := 187) rfl rfl rfl ?_
    refine st_icT (p' := 192) rfl q_eqr rfl ?_
    refine st_iload (p' := 194) rfl rfl rfl ?_
    refine st_ifF (p' := 197) rfl (q_nz' z_r) rfl ?_
    refine st_aload (p' := 198) rfl rfl rfl ?_
    refine st_push (p' := 199) rfl rfl ?_
    refine st_lld (p' := 200) (j := 0) (v := .long b.toInt64) rfl rfl (g3 z_r) (by decide) (by decide) rfl rfl ?_
    refine st_iload (p' := 202) rfl rfl rfl ?_
    refine st_i (p' := 203) (v := .long b.toInt64) rfl rfl rfl ?_
    refine st_ll (p' := 204) (v := .int 0) rfl rfl (q_cmp _) ?_
    refine st_ifT (p' := 209) rfl (by decide +kernel) rfl ?_
    refine st_goto rfl ?_
    refine st_iinc (p' := 2119) (l' := [(4, .int 5), (6, .int b), (5, .int r), (3, .ref 104), (2, .ref 82), (1, .ref 0), (0, .float 0)]) (z := 5) rfl rfl (by decide) rfl (by decide) rfl ?_
    refine st_goto rfl ?_
    refine st_iload (p' := 25) rfl rfl rfl ?_
    refine st_aloadF (p' := 26) rfl rfl rfl ?_
    refine st_slen (p' := 27) (q := 5) rfl rfl (by decide) ?_
    refine st_push (p' := 28) rfl rfl ?_
    refine st_ii (p' := 29) (z := 0) rfl rfl (by decide +kernel) ?_
    refine st_icT (p' := 2122) rfl (by decide +kernel) rfl ?_
    refine st_push (p' := 2123) rfl rfl ?_
    exact st_ret_i rfl
  · refine st_iload (p' := 25) rfl rfl rfl ?_
    refine st_aloadF (p' := 26) rfl rfl rfl ?_
    refine st_slen (p' := 27) (q := 5) rfl rfl (by decide) ?_
    refine st_push (p' := 28) rfl rfl ?_
    refine st_ii (p' := 29) (z := 0) rfl rfl (by decide +kernel) ?_
    refine st_icF (p' := 32) rfl (by decide +kernel) rfl ?_
    refine st_aloadF (p' := 33) rfl rfl rfl ?_
    refine st_iload (p' := 35) rfl rfl rfl ?_
    refine st_sld (p' := 36) (x := xs 0) rfl rfl (by decide) (by decide +kernel) (congrArg xs (by decide)) ?_
    refine st_push (p' := 38) rfl rfl ?_
    refine st_ii (p' := 39) (z := 0) rfl rfl hk ?_
    refine st_tsw (p' := 168) rfl (by decide +kernel) ?_
    refine st_aload (p' := 169) rfl rfl rfl ?_
    refine st_aload (p' := 170) rfl rfl rfl ?_
    refine st_inv (p' := 173) (av := [.ref 0, .ref 104]) (s' := [.int r]) rfl rfl a1 rfl rfl rfl rfl rfl ?_
    refine st_istore (p' := 175) (l' := [(5, .int r), (4, .int 0), (3, .ref 104), (2, .ref 82), (1, .ref 0), (0, .float 0)]) rfl rfl (by decide) rfl ?_
    refine st_aload (p' := 176) rfl rfl rfl ?_
    refine st_inv (p' := 179) (av := [.ref 82]) (s' := [.int b]) rfl rfl a2 rfl rfl (q_recv (g1 ..)) rfl rfl ?_
    refine st_istore (p' := 181) (l' := [(6, .int b), (5, .int r), (4, .int 0), (3, .ref 104), (2, .ref 82), (1, .ref 0), (0, .float 0)]) rfl rfl (by decide) rfl ?_
    refine st_aload (p' := 182) rfl rfl rfl ?_
    refine st_inv (p' := 185) (av := [.ref 82]) (s' := [.int r]) rfl rfl a3 rfl rfl (q_recv (g2 ..)) rfl rfl ?_
    refine st_iload (p' := 187) rfl rfl rfl ?_
    refine st_icT (p' := 192) rfl q_eqr rfl ?_
    refine st_iload (p' := 194) rfl rfl rfl ?_
    refine st_ifT (p' := 209) rfl (q_nz z_r) rfl ?_
    refine st_goto rfl ?_
    refine st_iinc (p' := 2119) (l' := [(4, .int 5), (6, .int b), (5, .int r), (3, .ref 104), (2, .ref 82), (1, .ref 0), (0, .float 0)]) (z := 5) rfl rfl (by decide) rfl (by decide) rfl ?_
    refine st_goto rfl ?_
    refine st_iload (p' := 25) rfl rfl rfl ?_
    refine st_aloadF (p' := 26) rfl rfl rfl ?_
    refine st_slen (p' := 27) (q := 5) rfl rfl (by decide) ?_
    refine st_push (p' := 28) rfl rfl ?_
    refine st_ii (p' := 29) (z := 0) rfl rfl (by decide +kernel) ?_
    refine st_icT (p' := 2122) rfl (by decide +kernel) rfl ?_
    refine st_push (p' := 2123) rfl rfl ?_
    exact st_ret_i rfl
theorem law_section (xs : Nat → Int32) (hk : xs 0 &&& 31 = 1) (ha : ∀ b0 : Int32, (b0 = 0 ∨ b0 = 1) → agree 294 237 [.ref 0, .int (xs 1), .int (xs 2), .int b0, .ref 104] [.ref 82, .int (xs 1), .int (xs 2), .int b0]) : LawOk xs := by
  by_cases z_xs3 : (xs 3) = 0
  · obtain ⟨r, b, h1, h2, f1, f2, a1, g1, a2, g2, a3, g3, g4, g5⟩ := ha 0 (.inl rfl)
    refine ⟨h2, ?_, g4, g5⟩
    by_cases z_r : r = 0
    · refine st_iload (p' := 25) rfl rfl rfl ?_
      refine st_aloadF (p' := 26) rfl rfl rfl ?_
      refine st_slen (p' := 27) (q := 5) rfl rfl (by decide) ?_
      refine st_push (p' := 28) rfl rfl ?_
      refine st_ii (p' := 29) (z := 0) rfl rfl (by decide +kernel) ?_
      refine st_icF (p' := 32) rfl (by decide +kernel) rfl ?_
      refine st_aloadF (p' := 33) rfl rfl rfl ?_
      refine st_iload (p' := 35) rfl rfl rfl ?_
      refine st_sld (p' := 36) (x := xs 0) rfl rfl (by decide) (by decide +kernel) (congrArg xs (by decide)) ?_
      refine st_push (p' := 38) rfl rfl ?_
      refine st_ii (p' := 39) (z := 1) rfl rfl hk ?_
      refine st_tsw (p' := 212) rfl (by decide +kernel) ?_
      refine st_aload (p' := 213) rfl rfl rfl ?_
      refine st_aloadF (p' := 214) rfl rfl rfl ?_
      refine st_iload (p' := 216) rfl rfl rfl ?_
      refine st_push (p' := 217) rfl rfl ?_
      refine st_ii (p' := 218) (z := 1) rfl rfl (by decide +kernel) ?_
      refine st_sld (p' := 219) (x := xs 1) rfl rfl (by decide) (by decide +kernel) (congrArg xs (by decide)) ?_
      refine st_aloadF (p' := 220) rfl rfl rfl ?_
      refine st_iload (p' := 222) rfl rfl rfl ?_
      refine st_push (p' := 223) rfl rfl ?_
      refine st_ii (p' := 224) (z := 2) rfl rfl (by decide +kernel) ?_
      refine st_sld (p' := 225) (x := xs 2) rfl rfl (by decide) (by decide +kernel) (congrArg xs (by decide)) ?_
      refine st_aloadF (p' := 226) rfl rfl rfl ?_
      refine st_iload (p' := 228) rfl rfl rfl ?_
      refine st_push (p' := 229) rfl rfl ?_
      refine st_ii (p' := 230) (z := 3) rfl rfl (by decide +kernel) ?_
      refine st_sld (p' := 231) (x := xs 3) rfl rfl (by decide) (by decide +kernel) (congrArg xs (by decide)) ?_
      refine st_ifT (p' := 238) rfl (q_z z_xs3) rfl ?_
      refine st_push (p' := 239) rfl rfl ?_
      refine st_aload (p' := 240) rfl rfl rfl ?_
      refine st_inv (p' := 243) (av := [.ref 0, .int (xs 1), .int (xs 2), .int 0, .ref 104]) (s' := [.int r]) rfl rfl a1 rfl rfl rfl rfl rfl ?_
      refine st_istore (p' := 245) (l' := [(5, .int r), (4, .int 0), (3, .ref 104), (2, .ref 82), (1, .ref 0), (0, .float 0)]) rfl rfl (by decide) rfl ?_
      refine st_aload (p' := 246) rfl rfl rfl ?_
      refine st_aloadF (p' := 247) rfl rfl rfl ?_
      refine st_iload (p' := 249) rfl rfl rfl ?_
      refine st_push (p' := 250) rfl rfl ?_
      refine st_ii (p' := 251) (z := 1) rfl rfl (by decide +kernel) ?_
      refine st_sld (p' := 252) (x := xs 1) rfl rfl (by decide) (by decide +kernel) (congrArg xs (by decide)) ?_
      refine st_aloadF (p' := 253) rfl rfl rfl ?_
      refine st_iload (p' := 255) rfl rfl rfl ?_
      refine st_push (p' := 256) rfl rfl ?_
      refine st_ii (p' := 257) (z := 2) rfl rfl (by decide +kernel) ?_
      refine st_sld (p' := 258) (x := xs 2) rfl rfl (by decide) (by decide +kernel) (congrArg xs (by decide)) ?_
      refine st_aloadF (p' := 259) rfl rfl rfl ?_
      refine st_iload (p' := 261) rfl rfl rfl ?_
      refine st_push (p' := 262) rfl rfl ?_
      refine st_ii (p' := 263) (z := 3) rfl rfl (by decide +kernel) ?_
      refine st_sld (p' := 264) (x := xs 3) rfl rfl (by decide) (by decide +kernel) (congrArg xs (by decide)) ?_
      refine st_ifT (p' := 271) rfl (q_z z_xs3) rfl ?_
      refine st_push (p' := 272) rfl rfl ?_
      refine st_inv (p' := 275) (av := [.ref 82, .int (xs 1), .int (xs 2), .int 0]) (s' := [.int b]) rfl rfl a2 rfl rfl (q_recv (g1 ..)) rfl rfl ?_
      refine st_istore (p' := 277) (l' := [(6, .int b), (5, .int r), (4, .int 0), (3, .ref 104), (2, .ref 82), (1, .ref 0), (0, .float 0)]) rfl rfl (by decide) rfl ?_
      refine st_aload (p' := 278) rfl rfl rfl ?_
      refine st_inv (p' := 281) (av := [.ref 82]) (s' := [.int r]) rfl rfl a3 rfl rfl (q_recv (g2 ..)) rfl rfl ?_
      refine st_iload (p' := 283) rfl rfl rfl ?_
      refine st_icT (p' := 288) rfl q_eqr rfl ?_
      refine st_iload (p' := 290) rfl rfl rfl ?_
      refine st_ifF (p' := 293) rfl (q_nz' z_r) rfl ?_
      refine st_aload (p' := 294) rfl rfl rfl ?_
      refine st_push (p' := 295) rfl rfl ?_
      refine st_lld (p' := 296) (j := 0) (v := .long b.toInt64) rfl rfl (g3 z_r) (by decide) (by decide) rfl rfl ?_
      refine st_iload (p' := 298) rfl rfl rfl ?_
      refine st_i (p' := 299) (v := .long b.toInt64) rfl rfl rfl ?_
      refine st_ll (p' := 300) (v := .int 0) rfl rfl (q_cmp _) ?_
      refine st_ifT (p' := 305) rfl (by decide +kernel) rfl ?_
      refine st_goto rfl ?_
      refine st_iinc (p' := 2119) (l' := [(4, .int 5), (6, .int b), (5, .int r), (3, .ref 104), (2, .ref 82), (1, .ref 0), (0, .float 0)]) (z := 5) rfl rfl (by decide) rfl (by decide) rfl ?_
      refine st_goto rfl ?_
      refine st_iload (p' := 25) rfl rfl rfl ?_
      refine st_aloadF (p' := 26) rfl rfl rfl ?_
      refine st_slen (p' := 27) (q := 5) rfl rfl (by decide) ?_
      refine st_push (p' := 28) rfl rfl ?_
      refine st_ii (p' := 29) (z := 0) rfl rfl (by decide +kernel) ?_
      refine st_icT (p' := 2122) rfl (by decide +kernel) rfl ?_
      refine st_push (p' := 2123) rfl rfl ?_
      exact st_ret_i rfl
    · refine st_iload (p' := 25) rfl rfl rfl ?_
      refine st_aloadF (p' := 26) rfl rfl rfl ?_
      refine st_slen (p' := 27) (q := 5) rfl rfl (by decide) ?_
      refine st_push (p' := 28) rfl rfl ?_
      refine st_ii (p' := 29) (z := 0) rfl rfl (by decide +kernel) ?_
      refine st_icF (p' := 32) rfl (by decide +kernel) rfl ?_
      refine st_aloadF (p' := 33) rfl rfl rfl ?_
      refine st_iload (p' := 35) rfl rfl rfl ?_
      refine st_sld (p' := 36) (x := xs 0) rfl rfl (by decide) (by decide +kernel) (congrArg xs (by decide)) ?_
      refine st_push (p' := 38) rfl rfl ?_
      refine st_ii (p' := 39) (z := 1) rfl rfl hk ?_
      refine st_tsw (p' := 212) rfl (by decide +kernel) ?_
      refine st_aload (p' := 213) rfl rfl rfl ?_
      refine st_aloadF (p' := 214) rfl rfl rfl ?_
      refine st_iload (p' := 216) rfl rfl rfl ?_
      refine st_push (p' := 217) rfl rfl ?_
      refine st_ii (p' := 218) (z := 1) rfl rfl (by decide +kernel) ?_
      refine st_sld (p' := 219) (x := xs 1) rfl rfl (by decide) (by decide +kernel) (congrArg xs (by decide)) ?_
      refine st_aloadF (p' := 220) rfl rfl rfl ?_
      refine st_iload (p' := 222) rfl rfl rfl ?_
      refine st_push (p' := 223) rfl rfl ?_
      refine st_ii (p' := 224) (z := 2) rfl rfl (by decide +kernel) ?_
      refine st_sld (p' := 225) (x := xs 2) rfl rfl (by decide) (by decide +kernel) (congrArg xs (by decide)) ?_
      refine st_aloadF (p' := 226) rfl rfl rfl ?_
      refine st_iload (p' := 228) rfl rfl rfl ?_
      refine st_push (p' := 229) rfl rfl ?_
      refine st_ii (p' := 230) (z := 3) rfl rfl (by decide +kernel) ?_
      refine st_sld (p' := 231) (x := xs 3) rfl rfl (by decide) (by decide +kernel) (congrArg xs (by decide)) ?_
      refine st_ifT (p' := 238) rfl (q_z z_xs3) rfl ?_
      refine st_push (p' := 239) rfl rfl ?_
      refine st_aload (p' := 240) rfl rfl rfl ?_
      refine st_inv (p' := 243) (av := [.ref 0, .int (xs 1), .int (xs 2), .int 0, .ref 104]) (s' := [.int r]) rfl rfl a1 rfl rfl rfl rfl rfl ?_
      refine st_istore (p' := 245) (l' := [(5, .int r), (4, .int 0), (3, .ref 104), (2, .ref 82), (1, .ref 0), (0, .float 0)]) rfl rfl (by decide) rfl ?_
      refine st_aload (p' := 246) rfl rfl rfl ?_
      refine st_aloadF (p' := 247) rfl rfl rfl ?_
      refine st_iload (p' := 249) rfl rfl rfl ?_
      refine st_push (p' := 250) rfl rfl ?_
      refine st_ii (p' := 251) (z := 1) rfl rfl (by decide +kernel) ?_
      refine st_sld (p' := 252) (x := xs 1) rfl rfl (by decide) (by decide +kernel) (congrArg xs (by decide)) ?_
      refine st_aloadF (p' := 253) rfl rfl rfl ?_
      refine st_iload (p' := 255) rfl rfl rfl ?_
      refine st_push (p' := 256) rfl rfl ?_
      refine st_ii (p' := 257) (z := 2) rfl rfl (by decide +kernel) ?_
      refine st_sld (p' := 258) (x := xs 2) rfl rfl (by decide) (by decide +kernel) (congrArg xs (by decide)) ?_
      refine st_aloadF (p' := 259) rfl rfl rfl ?_
      refine st_iload (p' := 261) rfl rfl rfl ?_
      refine st_push (p' := 262) rfl rfl ?_
      refine st_ii (p' := 263) (z := 3) rfl rfl (by decide +kernel) ?_
      refine st_sld (p' := 264) (x := xs 3) rfl rfl (by decide) (by decide +kernel) (congrArg xs (by decide)) ?_
      refine st_ifT (p' := 271) rfl (q_z z_xs3) rfl ?_
      refine st_push (p' := 272) rfl rfl ?_
      refine st_inv (p' := 275) (av := [.ref 82, .int (xs 1), .int (xs 2), .int 0]) (s' := [.int b]) rfl rfl a2 rfl rfl (q_recv (g1 ..)) rfl rfl ?_
      refine st_istore (p' := 277) (l' := [(6, .int b), (5, .int r), (4, .int 0), (3, .ref 104), (2, .ref 82), (1, .ref 0), (0, .float 0)]) rfl rfl (by decide) rfl ?_
      refine st_aload (p' := 278) rfl rfl rfl ?_
      refine st_inv (p' := 281) (av := [.ref 82]) (s' := [.int r]) rfl rfl a3 rfl rfl (q_recv (g2 ..)) rfl rfl ?_
      refine st_iload (p' := 283) rfl rfl rfl ?_
      refine st_icT (p' := 288) rfl q_eqr rfl ?_
      refine st_iload (p' := 290) rfl rfl rfl ?_
      refine st_ifT (p' := 305) rfl (q_nz z_r) rfl ?_
      refine st_goto rfl ?_
      refine st_iinc (p' := 2119) (l' := [(4, .int 5), (6, .int b), (5, .int r), (3, .ref 104), (2, .ref 82), (1, .ref 0), (0, .float 0)]) (z := 5) rfl rfl (by decide) rfl (by decide) rfl ?_
      refine st_goto rfl ?_
      refine st_iload (p' := 25) rfl rfl rfl ?_
      refine st_aloadF (p' := 26) rfl rfl rfl ?_
      refine st_slen (p' := 27) (q := 5) rfl rfl (by decide) ?_
      refine st_push (p' := 28) rfl rfl ?_
      refine st_ii (p' := 29) (z := 0) rfl rfl (by decide +kernel) ?_
      refine st_icT (p' := 2122) rfl (by decide +kernel) rfl ?_
      refine st_push (p' := 2123) rfl rfl ?_
      exact st_ret_i rfl
  · obtain ⟨r, b, h1, h2, f1, f2, a1, g1, a2, g2, a3, g3, g4, g5⟩ := ha 1 (.inr rfl)
    refine ⟨h2, ?_, g4, g5⟩
    by_cases z_r : r = 0
    · refine st_iload (p' := 25) rfl rfl rfl ?_
      refine st_aloadF (p' := 26) rfl rfl rfl ?_
      refine st_slen (p' := 27) (q := 5) rfl rfl (by decide) ?_
      refine st_push (p' := 28) rfl rfl ?_
      refine st_ii (p' := 29) (z := 0) rfl rfl (by decide +kernel) ?_
      refine st_icF (p' := 32) rfl (by decide +kernel) rfl ?_
      refine st_aloadF (p' := 33) rfl rfl rfl ?_
      refine st_iload (p' := 35) rfl rfl rfl ?_
      refine st_sld (p' := 36) (x := xs 0) rfl rfl (by decide) (by decide +kernel) (congrArg xs (by decide)) ?_
      refine st_push (p' := 38) rfl rfl ?_
      refine st_ii (p' := 39) (z := 1) rfl rfl hk ?_
      refine st_tsw (p' := 212) rfl (by decide +kernel) ?_
      refine st_aload (p' := 213) rfl rfl rfl ?_
      refine st_aloadF (p' := 214) rfl rfl rfl ?_
      refine st_iload (p' := 216) rfl rfl rfl ?_
      refine st_push (p' := 217) rfl rfl ?_
      refine st_ii (p' := 218) (z := 1) rfl rfl (by decide +kernel) ?_
      refine st_sld (p' := 219) (x := xs 1) rfl rfl (by decide) (by decide +kernel) (congrArg xs (by decide)) ?_
      refine st_aloadF (p' := 220) rfl rfl rfl ?_
      refine st_iload (p' := 222) rfl rfl rfl ?_
      refine st_push (p' := 223) rfl rfl ?_
      refine st_ii (p' := 224) (z := 2) rfl rfl (by decide +kernel) ?_
      refine st_sld (p' := 225) (x := xs 2) rfl rfl (by decide) (by decide +kernel) (congrArg xs (by decide)) ?_
      refine st_aloadF (p' := 226) rfl rfl rfl ?_
      refine st_iload (p' := 228) rfl rfl rfl ?_
      refine st_push (p' := 229) rfl rfl ?_
      refine st_ii (p' := 230) (z := 3) rfl rfl (by decide +kernel) ?_
      refine st_sld (p' := 231) (x := xs 3) rfl rfl (by decide) (by decide +kernel) (congrArg xs (by decide)) ?_
      refine st_ifF (p' := 234) rfl (q_z' z_xs3) rfl ?_
      refine st_push (p' := 235) rfl rfl ?_
      refine st_goto rfl ?_
      refine st_aload (p' := 240) rfl rfl rfl ?_
      refine st_inv (p' := 243) (av := [.ref 0, .int (xs 1), .int (xs 2), .int 1, .ref 104]) (s' := [.int r]) rfl rfl a1 rfl rfl rfl rfl rfl ?_
      refine st_istore (p' := 245) (l' := [(5, .int r), (4, .int 0), (3, .ref 104), (2, .ref 82), (1, .ref 0), (0, .float 0)]) rfl rfl (by decide) rfl ?_
      refine st_aload (p' := 246) rfl rfl rfl ?_
      refine st_aloadF (p' := 247) rfl rfl rfl ?_
      refine st_iload (p' := 249) rfl rfl rfl ?_
      refine st_push (p' := 250) rfl rfl ?_
      refine st_ii (p' := 251) (z := 1) rfl rfl (by decide +kernel) ?_
      refine st_sld (p' := 252) (x := xs 1) rfl rfl (by decide) (by decide +kernel) (congrArg xs (by decide)) ?_
      refine st_aloadF (p' := 253) rfl rfl rfl ?_
      refine st_iload (p' := 255) rfl rfl rfl ?_
      refine st_push (p' := 256) rfl rfl ?_
      refine st_ii (p' := 257) (z := 2) rfl rfl (by decide +kernel) ?_
      refine st_sld (p' := 258) (x := xs 2) rfl rfl (by decide) (by decide +kernel) (congrArg xs (by decide)) ?_
      refine st_aloadF (p' := 259) rfl rfl rfl ?_
      refine st_iload (p' := 261) rfl rfl rfl ?_
      refine st_push (p' := 262) rfl rfl ?_
      refine st_ii (p' := 263) (z := 3) rfl rfl (by decide +kernel) ?_
      refine st_sld (p' := 264) (x := xs 3) rfl rfl (by decide) (by decide +kernel) (congrArg xs (by decide)) ?_
      refine st_ifF (p' := 267) rfl (q_z' z_xs3) rfl ?_
      refine st_push (p' := 268) rfl rfl ?_
      refine st_goto rfl ?_
      refine st_inv (p' := 275) (av := [.ref 82, .int (xs 1), .int (xs 2), .int 1]) (s' := [.int b]) rfl rfl a2 rfl rfl (q_recv (g1 ..)) rfl rfl ?_
      refine st_istore (p' := 277) (l' := [(6, .int b), (5, .int r), (4, .int 0), (3, .ref 104), (2, .ref 82), (1, .ref 0), (0, .float 0)]) rfl rfl (by decide) rfl ?_
      refine st_aload (p' := 278) rfl rfl rfl ?_
      refine st_inv (p' := 281) (av := [.ref 82]) (s' := [.int r]) rfl rfl a3 rfl rfl (q_recv (g2 ..)) rfl rfl ?_
      refine st_iload (p' := 283) rfl rfl rfl ?_
      refine st_icT (p' := 288) rfl q_eqr rfl ?_
      refine st_iload (p' := 290) rfl rfl rfl ?_
      refine st_ifF (p' := 293) rfl (q_nz' z_r) rfl ?_
      refine st_aload (p' := 294) rfl rfl rfl ?_
      refine st_push (p' := 295) rfl rfl ?_
      refine st_lld (p' := 296) (j := 0) (v := .long b.toInt64) rfl rfl (g3 z_r) (by decide) (by decide) rfl rfl ?_
      refine st_iload (p' := 298) rfl rfl rfl ?_
      refine st_i (p' := 299) (v := .long b.toInt64) rfl rfl rfl ?_
      refine st_ll (p' := 300) (v := .int 0) rfl rfl (q_cmp _) ?_
      refine st_ifT (p' := 305) rfl (by decide +kernel) rfl ?_
      refine st_goto rfl ?_
      refine st_iinc (p' := 2119) (l' := [(4, .int 5), (6, .int b), (5, .int r), (3, .ref 104), (2, .ref 82), (1, .ref 0), (0, .float 0)]) (z := 5) rfl rfl (by decide) rfl (by decide) rfl ?_
      refine st_goto rfl ?_
      refine st_iload (p' := 25) rfl rfl rfl ?_
      refine st_aloadF (p' := 26) rfl rfl rfl ?_
      refine st_slen (p' := 27) (q := 5) rfl rfl (by decide) ?_
      refine st_push (p' := 28) rfl rfl ?_
      refine st_ii (p' := 29) (z := 0) rfl rfl (by decide +kernel) ?_
      refine st_icT (p' := 2122) rfl (by decide +kernel) rfl ?_
      refine st_push (p' := 2123) rfl rfl ?_
      exact st_ret_i rfl
    · refine st_iload (p' := 25) rfl rfl rfl ?_
      refine st_aloadF (p' := 26) rfl rfl rfl ?_
      refine st_slen (p' := 27) (q := 5) rfl rfl (by decide) ?_
      refine st_push (p' := 28) rfl rfl ?_
      refine st_ii (p' := 29) (z := 0) rfl rfl (by decide +kernel) ?_
      refine st_icF (p' := 32) rfl (by decide +kernel) rfl ?_
      refine st_aloadF (p' := 33) rfl rfl rfl ?_
      refine st_iload (p' := 35) rfl rfl rfl ?_
      refine st_sld (p' := 36) (x := xs 0) rfl rfl (by decide) (by decide +kernel) (congrArg xs (by decide)) ?_
      refine st_push (p' := 38) rfl rfl ?_
      refine st_ii (p' := 39) (z := 1) rfl rfl hk ?_
      refine st_tsw (p' := 212) rfl (by decide +kernel) ?_
      refine st_aload (p' := 213) rfl rfl rfl ?_
      refine st_aloadF (p' := 214) rfl rfl rfl ?_
      refine st_iload (p' := 216) rfl rfl rfl ?_
      refine st_push (p' := 217) rfl rfl ?_
      refine st_ii (p' := 218) (z := 1) rfl rfl (by decide +kernel) ?_
      refine st_sld (p' := 219) (x := xs 1) rfl rfl (by decide) (by decide +kernel) (congrArg xs (by decide)) ?_
      refine st_aloadF (p' := 220) rfl rfl rfl ?_
      refine st_iload (p' := 222) rfl rfl rfl ?_
      refine st_push (p' := 223) rfl rfl ?_
      refine st_ii (p' := 224) (z := 2) rfl rfl (by decide +kernel) ?_
      refine st_sld (p' := 225) (x := xs 2) rfl rfl (by decide) (by decide +kernel) (congrArg xs (by decide)) ?_
      refine st_aloadF (p' := 226) rfl rfl rfl ?_
      refine st_iload (p' := 228) rfl rfl rfl ?_
      refine st_push (p' := 229) rfl rfl ?_
      refine st_ii (p' := 230) (z := 3) rfl rfl (by decide +kernel) ?_
      refine st_sld (p' := 231) (x := xs 3) rfl rfl (by decide) (by decide +kernel) (congrArg xs (by decide)) ?_
      refine st_ifF (p' := 234) rfl (q_z' z_xs3) rfl ?_
      refine st_push (p' := 235) rfl rfl ?_
      refine st_goto rfl ?_
      refine st_aload (p' := 240) rfl rfl rfl ?_
      refine st_inv (p' := 243) (av := [.ref 0, .int (xs 1), .int (xs 2), .int 1, .ref 104]) (s' := [.int r]) rfl rfl a1 rfl rfl rfl rfl rfl ?_
      refine st_istore (p' := 245) (l' := [(5, .int r), (4, .int 0), (3, .ref 104), (2, .ref 82), (1, .ref 0), (0, .float 0)]) rfl rfl (by decide) rfl ?_
      refine st_aload (p' := 246) rfl rfl rfl ?_
      refine st_aloadF (p' := 247) rfl rfl rfl ?_
      refine st_iload (p' := 249) rfl rfl rfl ?_
      refine st_push (p' := 250) rfl rfl ?_
      refine st_ii (p' := 251) (z := 1) rfl rfl (by decide +kernel) ?_
      refine st_sld (p' := 252) (x := xs 1) rfl rfl (by decide) (by decide +kernel) (congrArg xs (by decide)) ?_
      refine st_aloadF (p' := 253) rfl rfl rfl ?_
      refine st_iload (p' := 255) rfl rfl rfl ?_
      refine st_push (p' := 256) rfl rfl ?_
      refine st_ii (p' := 257) (z := 2) rfl rfl (by decide +kernel) ?_
      refine st_sld (p' := 258) (x := xs 2) rfl rfl (by decide) (by decide +kernel) (congrArg xs (by decide)) ?_
      refine st_aloadF (p' := 259) rfl rfl rfl ?_
      refine st_iload (p' := 261) rfl rfl rfl ?_
      refine st_push (p' := 262) rfl rfl ?_
      refine st_ii (p' := 263) (z := 3) rfl rfl (by decide +kernel) ?_
      refine st_sld (p' := 264) (x := xs 3) rfl rfl (by decide) (by decide +kernel) (congrArg xs (by decide)) ?_
      refine st_ifF (p' := 267) rfl (q_z' z_xs3) rfl ?_
      refine st_push (p' := 268) rfl rfl ?_
      refine st_goto rfl ?_
      refine st_inv (p' := 275) (av := [.ref 82, .int (xs 1), .int (xs 2), .int 1]) (s' := [.int b]) rfl rfl a2 rfl rfl (q_recv (g1 ..)) rfl rfl ?_
      refine st_istore (p' := 277) (l' := [(6, .int b), (5, .int r), (4, .int 0), (3, .ref 104), (2, .ref 82), (1, .ref 0), (0, .float 0)]) rfl rfl (by decide) rfl ?_
      refine st_aload (p' := 278) rfl rfl rfl ?_
      refine st_inv (p' := 281) (av := [.ref 82]) (s' := [.int r]) rfl rfl a3 rfl rfl (q_recv (g2 ..)) rfl rfl ?_
      refine st_iload (p' := 283) rfl rfl rfl ?_
      refine st_icT (p' := 288) rfl q_eqr rfl ?_
      refine st_iload (p' := 290) rfl rfl rfl ?_
      refine st_ifT (p' := 305) rfl (q_nz z_r) rfl ?_
      refine st_goto rfl ?_
      refine st_iinc (p' := 2119) (l' := [(4, .int 5), (6, .int b), (5, .int r), (3, .ref 104), (2, .ref 82), (1, .ref 0), (0, .float 0)]) (z := 5) rfl rfl (by decide) rfl (by decide) rfl ?_
      refine st_goto rfl ?_
      refine st_iload (p' := 25) rfl rfl rfl ?_
      refine st_aloadF (p' := 26) rfl rfl rfl ?_
      refine st_slen (p' := 27) (q := 5) rfl rfl (by decide) ?_
      refine st_push (p' := 28) rfl rfl ?_
      refine st_ii (p' := 29) (z := 0) rfl rfl (by decide +kernel) ?_
      refine st_icT (p' := 2122) rfl (by decide +kernel) rfl ?_
      refine st_push (p' := 2123) rfl rfl ?_
      exact st_ret_i rfl
theorem law_fill (xs : Nat → Int32) (hk : xs 0 &&& 31 = 2) (ha : agree 295 239 [.ref 0, .int (xs 1), .int (xs 2), .ref 104] [.ref 82, .int (xs 1), .int (xs 2)]) : LawOk xs := by
  obtain ⟨r, b, h1, h2, f1, f2, a1, g1, a2, g2, a3, g3, g4, g5⟩ := ha
  refine ⟨h2, ?_, g4, g5⟩
  by_cases z_r : r = 0
  · refine st_iload (p' := 25) rfl rfl rfl ?_
    refine st_aloadF (p' := 26) rfl rfl rfl ?_
    refine st_slen (p' := 27) (q := 5) rfl rfl (by decide) ?_
    refine st_push (p' := 28) rfl rfl ?_
    refine st_ii (p' := 29) (z := 0) rfl rfl (by decide +kernel) ?_
    refine st_icF (p' := 32) rfl (by decide +kernel) rfl ?_
    refine st_aloadF (p' := 33) rfl rfl rfl ?_
    refine st_iload (p' := 35) rfl rfl rfl ?_
    refine st_sld (p' := 36) (x := xs 0) rfl rfl (by decide) (by decide +kernel) (congrArg xs (by decide)) ?_
    refine st_push (p' := 38) rfl rfl ?_
    refine st_ii (p' := 39) (z := 2) rfl rfl hk ?_
    refine st_tsw (p' := 308) rfl (by decide +kernel) ?_
    refine st_aload (p' := 309) rfl rfl rfl ?_
    refine st_aloadF (p' := 310) rfl rfl rfl ?_
    refine st_iload (p' := 312) rfl rfl rfl ?_
    refine st_push (p' := 313) rfl rfl ?_
    refine st_ii (p' := 314) (z := 1) rfl rfl (by decide +kernel) ?_
    refine st_sld (p' := 315) (x := xs 1) rfl rfl (by decide) (by decide +kernel) (congrArg xs (by decide)) ?_
    refine st_aloadF (p' := 316) rfl rfl rfl ?_
    refine st_iload (p' := 318) rfl rfl rfl ?_
    refine st_push (p' := 319) rfl rfl ?_
    refine st_ii (p' := 320) (z := 2) rfl rfl (by decide +kernel) ?_
    refine st_sld (p' := 321) (x := xs 2) rfl rfl (by decide) (by decide +kernel) (congrArg xs (by decide)) ?_
    refine st_aload (p' := 322) rfl rfl rfl ?_
    refine st_inv (p' := 325) (av := [.ref 0, .int (xs 1), .int (xs 2), .ref 104]) (s' := [.int r]) rfl rfl a1 rfl rfl rfl rfl rfl ?_
    refine st_istore (p' := 327) (l' := [(5, .int r), (4, .int 0), (3, .ref 104), (2, .ref 82), (1, .ref 0), (0, .float 0)]) rfl rfl (by decide) rfl ?_
    refine st_aload (p' := 328) rfl rfl rfl ?_
    refine st_aloadF (p' := 329) rfl rfl rfl ?_
    refine st_iload (p' := 331) rfl rfl rfl ?_
    refine st_push (p' := 332) rfl rfl ?_
    refine st_ii (p' := 333) (z := 1) rfl rfl (by decide +kernel) ?_
    refine st_sld (p' := 334) (x := xs 1) rfl rfl (by decide) (by decide +kernel) (congrArg xs (by decide)) ?_
    refine st_aloadF (p' := 335) rfl rfl rfl ?_
    refine st_iload (p' := 337) rfl rfl rfl ?_
    refine st_push (p' := 338) rfl rfl ?_
    refine st_ii (p' := 339) (z := 2) rfl rfl (by decide +kernel) ?_
    refine st_sld (p' := 340) (x := xs 2) rfl rfl (by decide) (by decide +kernel) (congrArg xs (by decide)) ?_
    refine st_inv (p' := 343) (av := [.ref 82, .int (xs 1), .int (xs 2)]) (s' := [.int b]) rfl rfl a2 rfl rfl (q_recv (g1 ..)) rfl rfl ?_
    refine st_istore (p' := 345) (l' := [(6, .int b), (5, .int r), (4, .int 0), (3, .ref 104), (2, .ref 82), (1, .ref 0), (0, .float 0)]) rfl rfl (by decide) rfl ?_
    refine st_aload (p' := 346) rfl rfl rfl ?_
    refine st_inv (p' := 349) (av := [.ref 82]) (s' := [.int r]) rfl rfl a3 rfl rfl (q_recv (g2 ..)) rfl rfl ?_
    refine st_iload (p' := 351) rfl rfl rfl ?_
    refine st_icT (p' := 356) rfl q_eqr rfl ?_
    refine st_iload (p' := 358) rfl rfl rfl ?_
    refine st_ifF (p' := 361) rfl (q_nz' z_r) rfl ?_
    refine st_aload (p' := 362) rfl rfl rfl ?_
    refine st_push (p' := 363) rfl rfl ?_
    refine st_lld (p' := 364) (j := 0) (v := .long b.toInt64) rfl rfl (g3 z_r) (by decide) (by decide) rfl rfl ?_
    refine st_iload (p' := 366) rfl rfl rfl ?_
    refine st_i (p' := 367) (v := .long b.toInt64) rfl rfl rfl ?_
    refine st_ll (p' := 368) (v := .int 0) rfl rfl (q_cmp _) ?_
    refine st_ifT (p' := 373) rfl (by decide +kernel) rfl ?_
    refine st_goto rfl ?_
    refine st_iinc (p' := 2119) (l' := [(4, .int 5), (6, .int b), (5, .int r), (3, .ref 104), (2, .ref 82), (1, .ref 0), (0, .float 0)]) (z := 5) rfl rfl (by decide) rfl (by decide) rfl ?_
    refine st_goto rfl ?_
    refine st_iload (p' := 25) rfl rfl rfl ?_
    refine st_aloadF (p' := 26) rfl rfl rfl ?_
    refine st_slen (p' := 27) (q := 5) rfl rfl (by decide) ?_
    refine st_push (p' := 28) rfl rfl ?_
    refine st_ii (p' := 29) (z := 0) rfl rfl (by decide +kernel) ?_
    refine st_icT (p' := 2122) rfl (by decide +kernel) rfl ?_
    refine st_push (p' := 2123) rfl rfl ?_
    exact st_ret_i rfl
  · refine st_iload (p' := 25) rfl rfl rfl ?_
    refine st_aloadF (p' := 26) rfl rfl rfl ?_
    refine st_slen (p' := 27) (q := 5) rfl rfl (by decide) ?_
    refine st_push (p' := 28) rfl rfl ?_
    refine st_ii (p' := 29) (z := 0) rfl rfl (by decide +kernel) ?_
    refine st_icF (p' := 32) rfl (by decide +kernel) rfl ?_
    refine st_aloadF (p' := 33) rfl rfl rfl ?_
    refine st_iload (p' := 35) rfl rfl rfl ?_
    refine st_sld (p' := 36) (x := xs 0) rfl rfl (by decide) (by decide +kernel) (congrArg xs (by decide)) ?_
    refine st_push (p' := 38) rfl rfl ?_
    refine st_ii (p' := 39) (z := 2) rfl rfl hk ?_
    refine st_tsw (p' := 308) rfl (by decide +kernel) ?_
    refine st_aload (p' := 309) rfl rfl rfl ?_
    refine st_aloadF (p' := 310) rfl rfl rfl ?_
    refine st_iload (p' := 312) rfl rfl rfl ?_
    refine st_push (p' := 313) rfl rfl ?_
    refine st_ii (p' := 314) (z := 1) rfl rfl (by decide +kernel) ?_
    refine st_sld (p' := 315) (x := xs 1) rfl rfl (by decide) (by decide +kernel) (congrArg xs (by decide)) ?_
    refine st_aloadF (p' := 316) rfl rfl rfl ?_
    refine st_iload (p' := 318) rfl rfl rfl ?_
    refine st_push (p' := 319) rfl rfl ?_
    refine st_ii (p' := 320) (z := 2) rfl rfl (by decide +kernel) ?_
    refine st_sld (p' := 321) (x := xs 2) rfl rfl (by decide) (by decide +kernel) (congrArg xs (by decide)) ?_
    refine st_aload (p' := 322) rfl rfl rfl ?_
    refine st_inv (p' := 325) (av := [.ref 0, .int (xs 1), .int (xs 2), .ref 104]) (s' := [.int r]) rfl rfl a1 rfl rfl rfl rfl rfl ?_
    refine st_istore (p' := 327) (l' := [(5, .int r), (4, .int 0), (3, .ref 104), (2, .ref 82), (1, .ref 0), (0, .float 0)]) rfl rfl (by decide) rfl ?_
    refine st_aload (p' := 328) rfl rfl rfl ?_
    refine st_aloadF (p' := 329) rfl rfl rfl ?_
    refine st_iload (p' := 331) rfl rfl rfl ?_
    refine st_push (p' := 332) rfl rfl ?_
    refine st_ii (p' := 333) (z := 1) rfl rfl (by decide +kernel) ?_
    refine st_sld (p' := 334) (x := xs 1) rfl rfl (by decide) (by decide +kernel) (congrArg xs (by decide)) ?_
    refine st_aloadF (p' := 335) rfl rfl rfl ?_
    refine st_iload (p' := 337) rfl rfl rfl ?_
    refine st_push (p' := 338) rfl rfl ?_
    refine st_ii (p' := 339) (z := 2) rfl rfl (by decide +kernel) ?_
    refine st_sld (p' := 340) (x := xs 2) rfl rfl (by decide) (by decide +kernel) (congrArg xs (by decide)) ?_
    refine st_inv (p' := 343) (av := [.ref 82, .int (xs 1), .int (xs 2)]) (s' := [.int b]) rfl rfl a2 rfl rfl (q_recv (g1 ..)) rfl rfl ?_
    refine st_istore (p' := 345) (l' := [(6, .int b), (5, .int r), (4, .int 0), (3, .ref 104), (2, .ref 82), (1, .ref 0), (0, .float 0)]) rfl rfl (by decide) rfl ?_
    refine st_aload (p' := 346) rfl rfl rfl ?_
    refine st_inv (p' := 349) (av := [.ref 82]) (s' := [.int r]) rfl rfl a3 rfl rfl (q_recv (g2 ..)) rfl rfl ?_
    refine st_iload (p' := 351) rfl rfl rfl ?_
    refine st_icT (p' := 356) rfl q_eqr rfl ?_
    refine st_iload (p' := 358) rfl rfl rfl ?_
    refine st_ifT (p' := 373) rfl (q_nz z_r) rfl ?_
    refine st_goto rfl ?_
    refine st_iinc (p' := 2119) (l' := [(4, .int 5), (6, .int b), (5, .int r), (3, .ref 104), (2, .ref 82), (1, .ref 0), (0, .float 0)]) (z := 5) rfl rfl (by decide) rfl (by decide) rfl ?_
    refine st_goto rfl ?_
    refine st_iload (p' := 25) rfl rfl rfl ?_
    refine st_aloadF (p' := 26) rfl rfl rfl ?_
    refine st_slen (p' := 27) (q := 5) rfl rfl (by decide) ?_
    refine st_push (p' := 28) rfl rfl ?_
    refine st_ii (p' := 29) (z := 0) rfl rfl (by decide +kernel) ?_
    refine st_icT (p' := 2122) rfl (by decide +kernel) rfl ?_
    refine st_push (p' := 2123) rfl rfl ?_
    exact st_ret_i rfl
theorem law_word (xs : Nat → Int32) (hk : xs 0 &&& 31 = 3) (ha : ∀ b0 : Int32, (b0 = 0 ∨ b0 = 1) → agree 296 240 [.ref 0, .int (xs 1), .int (xs 2), .int (xs 3), .int b0, .ref 104] [.ref 82, .int (xs 1), .int (xs 2), .int (xs 3), .int b0]) : LawOk xs := by
  by_cases z_xs4 : (xs 4) = 0
  · obtain ⟨r, b, h1, h2, f1, f2, a1, g1, a2, g2, a3, g3, g4, g5⟩ := ha 0 (.inl rfl)
    refine ⟨h2, ?_, g4, g5⟩
    by_cases z_r : r = 0
    · refine st_iload (p' := 25) rfl rfl rfl ?_
      refine st_aloadF (p' := 26) rfl rfl rfl ?_
      refine st_slen (p' := 27) (q := 5) rfl rfl (by decide) ?_
      refine st_push (p' := 28) rfl rfl ?_
      refine st_ii (p' := 29) (z := 0) rfl rfl (by decide +kernel) ?_
      refine st_icF (p' := 32) rfl (by decide +kernel) rfl ?_
      refine st_aloadF (p' := 33) rfl rfl rfl ?_
      refine st_iload (p' := 35) rfl rfl rfl ?_
      refine st_sld (p' := 36) (x := xs 0) rfl rfl (by decide) (by decide +kernel) (congrArg xs (by decide)) ?_
      refine st_push (p' := 38) rfl rfl ?_
      refine st_ii (p' := 39) (z := 3) rfl rfl hk ?_
      refine st_tsw (p' := 376) rfl (by decide +kernel) ?_
      refine st_aload (p' := 377) rfl rfl rfl ?_
      refine st_aloadF (p' := 378) rfl rfl rfl ?_
      refine st_iload (p' := 380) rfl rfl rfl ?_
      refine st_push (p' := 381) rfl rfl ?_
      refine st_ii (p' := 382) (z := 1) rfl rfl (by decide +kernel) ?_
      refine st_sld (p' := 383) (x := xs 1) rfl rfl (by decide) (by decide +kernel) (congrArg xs (by decide)) ?_
      refine st_aloadF (p' := 384) rfl rfl rfl ?_
      refine st_iload (p' := 386) rfl rfl rfl ?_
      refine st_push (p' := 387) rfl rfl ?_
      refine st_ii (p' := 388) (z := 2) rfl rfl (by decide +kernel) ?_
      refine st_sld (p' := 389) (x := xs 2) rfl rfl (by decide) (by decide +kernel) (congrArg xs (by decide)) ?_
      refine st_aloadF (p' := 390) rfl rfl rfl ?_
      refine st_iload (p' := 392) rfl rfl rfl ?_
      refine st_push (p' := 393) rfl rfl ?_
      refine st_ii (p' := 394) (z := 3) rfl rfl (by decide +kernel) ?_
      refine st_sld (p' := 395) (x := xs 3) rfl rfl (by decide) (by decide +kernel) (congrArg xs (by decide)) ?_
      refine st_aloadF (p' := 396) rfl rfl rfl ?_
      refine st_iload (p' := 398) rfl rfl rfl ?_
      refine st_push (p' := 399) rfl rfl ?_
      refine st_ii (p' := 400) (z := 4) rfl rfl (by decide +kernel) ?_
      refine st_sld (p' := 401) (x := xs 4) rfl rfl (by decide) (by decide +kernel) (congrArg xs (by decide)) ?_
      refine st_ifT (p' := 408) rfl (q_z z_xs4) rfl ?_
      refine st_push (p' := 409) rfl rfl ?_
      refine st_aload (p' := 410) rfl rfl rfl ?_
      refine st_inv (p' := 413) (av := [.ref 0, .int (xs 1), .int (xs 2), .int (xs 3), .int 0, .ref 104]) (s' := [.int r]) rfl rfl a1 rfl rfl rfl rfl rfl ?_
      refine st_istore (p' := 415) (l' := [(5, .int r), (4, .int 0), (3, .ref 104), (2, .ref 82), (1, .ref 0), (0, .float 0)]) rfl rfl (by decide) rfl ?_
      refine st_aload (p' := 416) rfl rfl rfl ?_
      refine st_aloadF (p' := 417) rfl rfl rfl ?_
      refine st_iload (p' := 419) rfl rfl rfl ?_
      refine st_push (p' := 420) rfl rfl ?_
      refine st_ii (p' := 421) (z := 1) rfl rfl (by decide +kernel) ?_
      refine st_sld (p' := 422) (x := xs 1) rfl rfl (by decide) (by decide +kernel) (congrArg xs (by decide)) ?_
      refine st_aloadF (p' := 423) rfl rfl rfl ?_
      refine st_iload (p' := 425) rfl rfl rfl ?_
      refine st_push (p' := 426) rfl rfl ?_
      refine st_ii (p' := 427) (z := 2) rfl rfl (by decide +kernel) ?_
      refine st_sld (p' := 428) (x := xs 2) rfl rfl (by decide) (by decide +kernel) (congrArg xs (by decide)) ?_
      refine st_aloadF (p' := 429) rfl rfl rfl ?_
      refine st_iload (p' := 431) rfl rfl rfl ?_
      refine st_push (p' := 432) rfl rfl ?_
      refine st_ii (p' := 433) (z := 3) rfl rfl (by decide +kernel) ?_
      refine st_sld (p' := 434) (x := xs 3) rfl rfl (by decide) (by decide +kernel) (congrArg xs (by decide)) ?_
      refine st_aloadF (p' := 435) rfl rfl rfl ?_
      refine st_iload (p' := 437) rfl rfl rfl ?_
      refine st_push (p' := 438) rfl rfl ?_
      refine st_ii (p' := 439) (z := 4) rfl rfl (by decide +kernel) ?_
      refine st_sld (p' := 440) (x := xs 4) rfl rfl (by decide) (by decide +kernel) (congrArg xs (by decide)) ?_
      refine st_ifT (p' := 447) rfl (q_z z_xs4) rfl ?_
      refine st_push (p' := 448) rfl rfl ?_
      refine st_inv (p' := 451) (av := [.ref 82, .int (xs 1), .int (xs 2), .int (xs 3), .int 0]) (s' := [.int b]) rfl rfl a2 rfl rfl (q_recv (g1 ..)) rfl rfl ?_
      refine st_istore (p' := 453) (l' := [(6, .int b), (5, .int r), (4, .int 0), (3, .ref 104), (2, .ref 82), (1, .ref 0), (0, .float 0)]) rfl rfl (by decide) rfl ?_
      refine st_aload (p' := 454) rfl rfl rfl ?_
      refine st_inv (p' := 457) (av := [.ref 82]) (s' := [.int r]) rfl rfl a3 rfl rfl (q_recv (g2 ..)) rfl rfl ?_
      refine st_iload (p' := 459) rfl rfl rfl ?_
      refine st_icT (p' := 464) rfl q_eqr rfl ?_
      refine st_iload (p' := 466) rfl rfl rfl ?_
      refine st_ifF (p' := 469) rfl (q_nz' z_r) rfl ?_
      refine st_aload (p' := 470) rfl rfl rfl ?_
      refine st_push (p' := 471) rfl rfl ?_
      refine st_lld (p' := 472) (j := 0) (v := .long b.toInt64) rfl rfl (g3 z_r) (by decide) (by decide) rfl rfl ?_
      refine st_iload (p' := 474) rfl rfl rfl ?_
      refine st_i (p' := 475) (v := .long b.toInt64) rfl rfl rfl ?_
      refine st_ll (p' := 476) (v := .int 0) rfl rfl (q_cmp _) ?_
      refine st_ifT (p' := 481) rfl (by decide +kernel) rfl ?_
      refine st_goto rfl ?_
      refine st_iinc (p' := 2119) (l' := [(4, .int 5), (6, .int b), (5, .int r), (3, .ref 104), (2, .ref 82), (1, .ref 0), (0, .float 0)]) (z := 5) rfl rfl (by decide) rfl (by decide) rfl ?_
      refine st_goto rfl ?_
      refine st_iload (p' := 25) rfl rfl rfl ?_
      refine st_aloadF (p' := 26) rfl rfl rfl ?_
      refine st_slen (p' := 27) (q := 5) rfl rfl (by decide) ?_
      refine st_push (p' := 28) rfl rfl ?_
      refine st_ii (p' := 29) (z := 0) rfl rfl (by decide +kernel) ?_
      refine st_icT (p' := 2122) rfl (by decide +kernel) rfl ?_
      refine st_push (p' := 2123) rfl rfl ?_
      exact st_ret_i rfl
    · refine st_iload (p' := 25) rfl rfl rfl ?_
      refine st_aloadF (p' := 26) rfl rfl rfl ?_
      refine st_slen (p' := 27) (q := 5) rfl rfl (by decide) ?_
      refine st_push (p' := 28) rfl rfl ?_
      refine st_ii (p' := 29) (z := 0) rfl rfl (by decide +kernel) ?_
      refine st_icF (p' := 32) rfl (by decide +kernel) rfl ?_
      refine st_aloadF (p' := 33) rfl rfl rfl ?_
      refine st_iload (p' := 35) rfl rfl rfl ?_
      refine st_sld (p' := 36) (x := xs 0) rfl rfl (by decide) (by decide +kernel) (congrArg xs (by decide)) ?_
      refine st_push (p' := 38) rfl rfl ?_
      refine st_ii (p' := 39) (z := 3) rfl rfl hk ?_
      refine st_tsw (p' := 376) rfl (by decide +kernel) ?_
      refine st_aload (p' := 377) rfl rfl rfl ?_
      refine st_aloadF (p' := 378) rfl rfl rfl ?_
      refine st_iload (p' := 380) rfl rfl rfl ?_
      refine st_push (p' := 381) rfl rfl ?_
      refine st_ii (p' := 382) (z := 1) rfl rfl (by decide +kernel) ?_
      refine st_sld (p' := 383) (x := xs 1) rfl rfl (by decide) (by decide +kernel) (congrArg xs (by decide)) ?_
      refine st_aloadF (p' := 384) rfl rfl rfl ?_
      refine st_iload (p' := 386) rfl rfl rfl ?_
      refine st_push (p' := 387) rfl rfl ?_
      refine st_ii (p' := 388) (z := 2) rfl rfl (by decide +kernel) ?_
      refine st_sld (p' := 389) (x := xs 2) rfl rfl (by decide) (by decide +kernel) (congrArg xs (by decide)) ?_
      refine st_aloadF (p' := 390) rfl rfl rfl ?_
      refine st_iload (p' := 392) rfl rfl rfl ?_
      refine st_push (p' := 393) rfl rfl ?_
      refine st_ii (p' := 394) (z := 3) rfl rfl (by decide +kernel) ?_
      refine st_sld (p' := 395) (x := xs 3) rfl rfl (by decide) (by decide +kernel) (congrArg xs (by decide)) ?_
      refine st_aloadF (p' := 396) rfl rfl rfl ?_
      refine st_iload (p' := 398) rfl rfl rfl ?_
      refine st_push (p' := 399) rfl rfl ?_
      refine st_ii (p' := 400) (z := 4) rfl rfl (by decide +kernel) ?_
      refine st_sld (p' := 401) (x := xs 4) rfl rfl (by decide) (by decide +kernel) (congrArg xs (by decide)) ?_
      refine st_ifT (p' := 408) rfl (q_z z_xs4) rfl ?_
      refine st_push (p' := 409) rfl rfl ?_
      refine st_aload (p' := 410) rfl rfl rfl ?_
      refine st_inv (p' := 413) (av := [.ref 0, .int (xs 1), .int (xs 2), .int (xs 3), .int 0, .ref 104]) (s' := [.int r]) rfl rfl a1 rfl rfl rfl rfl rfl ?_
      refine st_istore (p' := 415) (l' := [(5, .int r), (4, .int 0), (3, .ref 104), (2, .ref 82), (1, .ref 0), (0, .float 0)]) rfl rfl (by decide) rfl ?_
      refine st_aload (p' := 416) rfl rfl rfl ?_
      refine st_aloadF (p' := 417) rfl rfl rfl ?_
      refine st_iload (p' := 419) rfl rfl rfl ?_
      refine st_push (p' := 420) rfl rfl ?_
      refine st_ii (p' := 421) (z := 1) rfl rfl (by decide +kernel) ?_
      refine st_sld (p' := 422) (x := xs 1) rfl rfl (by decide) (by decide +kernel) (congrArg xs (by decide)) ?_
      refine st_aloadF (p' := 423) rfl rfl rfl ?_
      refine st_iload (p' := 425) rfl rfl rfl ?_
      refine st_push (p' := 426) rfl rfl ?_
      refine st_ii (p' := 427) (z := 2) rfl rfl (by decide +kernel) ?_
      refine st_sld (p' := 428) (x := xs 2) rfl rfl (by decide) (by decide +kernel) (congrArg xs (by decide)) ?_
      refine st_aloadF (p' := 429) rfl rfl rfl ?_
      refine st_iload (p' := 431) rfl rfl rfl ?_
      refine st_push (p' := 432) rfl rfl ?_
      refine st_ii (p' := 433) (z := 3) rfl rfl (by decide +kernel) ?_
      refine st_sld (p' := 434) (x := xs 3) rfl rfl (by decide) (by decide +kernel) (congrArg xs (by decide)) ?_
      refine st_aloadF (p' := 435) rfl rfl rfl ?_
      refine st_iload (p' := 437) rfl rfl rfl ?_
      refine st_push (p' := 438) rfl rfl ?_
      refine st_ii (p' := 439) (z := 4) rfl rfl (by decide +kernel) ?_
      refine st_sld (p' := 440) (x := xs 4) rfl rfl (by decide) (by decide +kernel) (congrArg xs (by decide)) ?_
      refine st_ifT (p' := 447) rfl (q_z z_xs4) rfl ?_
      refine st_push (p' := 448) rfl rfl ?_
      refine st_inv (p' := 451) (av := [.ref 82, .int (xs 1), .int (xs 2), .int (xs 3), .int 0]) (s' := [.int b]) rfl rfl a2 rfl rfl (q_recv (g1 ..)) rfl rfl ?_
      refine st_istore (p' := 453) (l' := [(6, .int b), (5, .int r), (4, .int 0), (3, .ref 104), (2, .ref 82), (1, .ref 0), (0, .float 0)]) rfl rfl (by decide) rfl ?_
      refine st_aload (p' := 454) rfl rfl rfl ?_
      refine st_inv (p' := 457) (av := [.ref 82]) (s' := [.int r]) rfl rfl a3 rfl rfl (q_recv (g2 ..)) rfl rfl ?_
      refine st_iload (p' := 459) rfl rfl rfl ?_
      refine st_icT (p' := 464) rfl q_eqr rfl ?_
      refine st_iload (p' := 466) rfl rfl rfl ?_
      refine st_ifT (p' := 481) rfl (q_nz z_r) rfl ?_
      refine st_goto rfl ?_
      refine st_iinc (p' := 2119) (l' := [(4, .int 5), (6, .int b), (5, .int r), (3, .ref 104), (2, .ref 82), (1, .ref 0), (0, .float 0)]) (z := 5) rfl rfl (by decide) rfl (by decide) rfl ?_
      refine st_goto rfl ?_
      refine st_iload (p' := 25) rfl rfl rfl ?_
      refine st_aloadF (p' := 26) rfl rfl rfl ?_
      refine st_slen (p' := 27) (q := 5) rfl rfl (by decide) ?_
      refine st_push (p' := 28) rfl rfl ?_
      refine st_ii (p' := 29) (z := 0) rfl rfl (by decide +kernel) ?_
      refine st_icT (p' := 2122) rfl (by decide +kernel) rfl ?_
      refine st_push (p' := 2123) rfl rfl ?_
      exact st_ret_i rfl
  · obtain ⟨r, b, h1, h2, f1, f2, a1, g1, a2, g2, a3, g3, g4, g5⟩ := ha 1 (.inr rfl)
    refine ⟨h2, ?_, g4, g5⟩
    by_cases z_r : r = 0
    · refine st_iload (p' := 25) rfl rfl rfl ?_
      refine st_aloadF (p' := 26) rfl rfl rfl ?_
      refine st_slen (p' := 27) (q := 5) rfl rfl (by decide) ?_
      refine st_push (p' := 28) rfl rfl ?_
      refine st_ii (p' := 29) (z := 0) rfl rfl (by decide +kernel) ?_
      refine st_icF (p' := 32) rfl (by decide +kernel) rfl ?_
      refine st_aloadF (p' := 33) rfl rfl rfl ?_
      refine st_iload (p' := 35) rfl rfl rfl ?_
      refine st_sld (p' := 36) (x := xs 0) rfl rfl (by decide) (by decide +kernel) (congrArg xs (by decide)) ?_
      refine st_push (p' := 38) rfl rfl ?_
      refine st_ii (p' := 39) (z := 3) rfl rfl hk ?_
      refine st_tsw (p' := 376) rfl (by decide +kernel) ?_
      refine st_aload (p' := 377) rfl rfl rfl ?_
      refine st_aloadF (p' := 378) rfl rfl rfl ?_
      refine st_iload (p' := 380) rfl rfl rfl ?_
      refine st_push (p' := 381) rfl rfl ?_
      refine st_ii (p' := 382) (z := 1) rfl rfl (by decide +kernel) ?_
      refine st_sld (p' := 383) (x := xs 1) rfl rfl (by decide) (by decide +kernel) (congrArg xs (by decide)) ?_
      refine st_aloadF (p' := 384) rfl rfl rfl ?_
      refine st_iload (p' := 386) rfl rfl rfl ?_
      refine st_push (p' := 387) rfl rfl ?_
      refine st_ii (p' := 388) (z := 2) rfl rfl (by decide +kernel) ?_
      refine st_sld (p' := 389) (x := xs 2) rfl rfl (by decide) (by decide +kernel) (congrArg xs (by decide)) ?_
      refine st_aloadF (p' := 390) rfl rfl rfl ?_
      refine st_iload (p' := 392) rfl rfl rfl ?_
      refine st_push (p' := 393) rfl rfl ?_
      refine st_ii (p' := 394) (z := 3) rfl rfl (by decide +kernel) ?_
      refine st_sld (p' := 395) (x := xs 3) rfl rfl (by decide) (by decide +kernel) (congrArg xs (by decide)) ?_
      refine st_aloadF (p' := 396) rfl rfl rfl ?_
      refine st_iload (p' := 398) rfl rfl rfl ?_
      refine st_push (p' := 399) rfl rfl ?_
      refine st_ii (p' := 400) (z := 4) rfl rfl (by decide +kernel) ?_
      refine st_sld (p' := 401) (x := xs 4) rfl rfl (by decide) (by decide +kernel) (congrArg xs (by decide)) ?_
      refine st_ifF (p' := 404) rfl (q_z' z_xs4) rfl ?_
      refine st_push (p' := 405) rfl rfl ?_
      refine st_goto rfl ?_
      refine st_aload (p' := 410) rfl rfl rfl ?_
      refine st_inv (p' := 413) (av := [.ref 0, .int (xs 1), .int (xs 2), .int (xs 3), .int 1, .ref 104]) (s' := [.int r]) rfl rfl a1 rfl rfl rfl rfl rfl ?_
      refine st_istore (p' := 415) (l' := [(5, .int r), (4, .int 0), (3, .ref 104), (2, .ref 82), (1, .ref 0), (0, .float 0)]) rfl rfl (by decide) rfl ?_
      refine st_aload (p' := 416) rfl rfl rfl ?_
      refine st_aloadF (p' := 417) rfl rfl rfl ?_
      refine st_iload (p' := 419) rfl rfl rfl ?_
      refine st_push (p' := 420) rfl rfl ?_
      refine st_ii (p' := 421) (z := 1) rfl rfl (by decide +kernel) ?_
      refine st_sld (p' := 422) (x := xs 1) rfl rfl (by decide) (by decide +kernel) (congrArg xs (by decide)) ?_
      refine st_aloadF (p' := 423) rfl rfl rfl ?_
      refine st_iload (p' := 425) rfl rfl rfl ?_
      refine st_push (p' := 426) rfl rfl ?_
      refine st_ii (p' := 427) (z := 2) rfl rfl (by decide +kernel) ?_
      refine st_sld (p' := 428) (x := xs 2) rfl rfl (by decide) (by decide +kernel) (congrArg xs (by decide)) ?_
      refine st_aloadF (p' := 429) rfl rfl rfl ?_
      refine st_iload (p' := 431) rfl rfl rfl ?_
      refine st_push (p' := 432) rfl rfl ?_
      refine st_ii (p' := 433) (z := 3) rfl rfl (by decide +kernel) ?_
      refine st_sld (p' := 434) (x := xs 3) rfl rfl (by decide) (by decide +kernel) (congrArg xs (by decide)) ?_
      refine st_aloadF (p' := 435) rfl rfl rfl ?_
      refine st_iload (p' := 437) rfl rfl rfl ?_
      refine st_push (p' := 438) rfl rfl ?_
      refine st_ii (p' := 439) (z := 4) rfl rfl (by decide +kernel) ?_
      refine st_sld (p' := 440) (x := xs 4) rfl rfl (by decide) (by decide +kernel) (congrArg xs (by decide)) ?_
      refine st_ifF (p' := 443) rfl (q_z' z_xs4) rfl ?_
      refine st_push (p' := 444) rfl rfl ?_
      refine st_goto rfl ?_
      refine st_inv (p' := 451) (av := [.ref 82, .int (xs 1), .int (xs 2), .int (xs 3), .int 1]) (s' := [.int b]) rfl rfl a2 rfl rfl (q_recv (g1 ..)) rfl rfl ?_
      refine st_istore (p' := 453) (l' := [(6, .int b), (5, .int r), (4, .int 0), (3, .ref 104), (2, .ref 82), (1, .ref 0), (0, .float 0)]) rfl rfl (by decide) rfl ?_
      refine st_aload (p' := 454) rfl rfl rfl ?_
      refine st_inv (p' := 457) (av := [.ref 82]) (s' := [.int r]) rfl rfl a3 rfl rfl (q_recv (g2 ..)) rfl rfl ?_
      refine st_iload (p' := 459) rfl rfl rfl ?_
      refine st_icT (p' := 464) rfl q_eqr rfl ?_
      refine st_iload (p' := 466) rfl rfl rfl ?_
      refine st_ifF (p' := 469) rfl (q_nz' z_r) rfl ?_
      refine st_aload (p' := 470) rfl rfl rfl ?_
      refine st_push (p' := 471) rfl rfl ?_
      refine st_lld (p' := 472) (j := 0) (v := .long b.toInt64) rfl rfl (g3 z_r) (by decide) (by decide) rfl rfl ?_
      refine st_iload (p' := 474) rfl rfl rfl ?_
      refine st_i (p' := 475) (v := .long b.toInt64) rfl rfl rfl ?_
      refine st_ll (p' := 476) (v := .int 0) rfl rfl (q_cmp _) ?_
      refine st_ifT (p' := 481) rfl (by decide +kernel) rfl ?_
      refine st_goto rfl ?_
      refine st_iinc (p' := 2119) (l' := [(4, .int 5), (6, .int b), (5, .int r), (3, .ref 104), (2, .ref 82), (1, .ref 0), (0, .float 0)]) (z := 5) rfl rfl (by decide) rfl (by decide) rfl ?_
      refine st_goto rfl ?_
      refine st_iload (p' := 25) rfl rfl rfl ?_
      refine st_aloadF (p' := 26) rfl rfl rfl ?_
      refine st_slen (p' := 27) (q := 5) rfl rfl (by decide) ?_
      refine st_push (p' := 28) rfl rfl ?_
      refine st_ii (p' := 29) (z := 0) rfl rfl (by decide +kernel) ?_
      refine st_icT (p' := 2122) rfl (by decide +kernel) rfl ?_
      refine st_push (p' := 2123) rfl rfl ?_
      exact st_ret_i rfl
    · refine st_iload (p' := 25) rfl rfl rfl ?_
      refine st_aloadF (p' := 26) rfl rfl rfl ?_
      refine st_slen (p' := 27) (q := 5) rfl rfl (by decide) ?_
      refine st_push (p' := 28) rfl rfl ?_
      refine st_ii (p' := 29) (z := 0) rfl rfl (by decide +kernel) ?_
      refine st_icF (p' := 32) rfl (by decide +kernel) rfl ?_
      refine st_aloadF (p' := 33) rfl rfl rfl ?_
      refine st_iload (p' := 35) rfl rfl rfl ?_
      refine st_sld (p' := 36) (x := xs 0) rfl rfl (by decide) (by decide +kernel) (congrArg xs (by decide)) ?_
      refine st_push (p' := 38) rfl rfl ?_
      refine st_ii (p' := 39) (z := 3) rfl rfl hk ?_
      refine st_tsw (p' := 376) rfl (by decide +kernel) ?_
      refine st_aload (p' := 377) rfl rfl rfl ?_
      refine st_aloadF (p' := 378) rfl rfl rfl ?_
      refine st_iload (p' := 380) rfl rfl rfl ?_
      refine st_push (p' := 381) rfl rfl ?_
      refine st_ii (p' := 382) (z := 1) rfl rfl (by decide +kernel) ?_
      refine st_sld (p' := 383) (x := xs 1) rfl rfl (by decide) (by decide +kernel) (congrArg xs (by decide)) ?_
      refine st_aloadF (p' := 384) rfl rfl rfl ?_
      refine st_iload (p' := 386) rfl rfl rfl ?_
      refine st_push (p' := 387) rfl rfl ?_
      refine st_ii (p' := 388) (z := 2) rfl rfl (by decide +kernel) ?_
      refine st_sld (p' := 389) (x := xs 2) rfl rfl (by decide) (by decide +kernel) (congrArg xs (by decide)) ?_
      refine st_aloadF (p' := 390) rfl rfl rfl ?_
      refine st_iload (p' := 392) rfl rfl rfl ?_
      refine st_push (p' := 393) rfl rfl ?_
      refine st_ii (p' := 394) (z := 3) rfl rfl (by decide +kernel) ?_
      refine st_sld (p' := 395) (x := xs 3) rfl rfl (by decide) (by decide +kernel) (congrArg xs (by decide)) ?_
      refine st_aloadF (p' := 396) rfl rfl rfl ?_
      refine st_iload (p' := 398) rfl rfl rfl ?_
      refine st_push (p' := 399) rfl rfl ?_
      refine st_ii (p' := 400) (z := 4) rfl rfl (by decide +kernel) ?_
      refine st_sld (p' := 401) (x := xs 4) rfl rfl (by decide) (by decide +kernel) (congrArg xs (by decide)) ?_
      refine st_ifF (p' := 404) rfl (q_z' z_xs4) rfl ?_
      refine st_push (p' := 405) rfl rfl ?_
      refine st_goto rfl ?_
      refine st_aload (p' := 410) rfl rfl rfl ?_
      refine st_inv (p' := 413) (av := [.ref 0, .int (xs 1), .int (xs 2), .int (xs 3), .int 1, .ref 104]) (s' := [.int r]) rfl rfl a1 rfl rfl rfl rfl rfl ?_
      refine st_istore (p' := 415) (l' := [(5, .int r), (4, .int 0), (3, .ref 104), (2, .ref 82), (1, .ref 0), (0, .float 0)]) rfl rfl (by decide) rfl ?_
      refine st_aload (p' := 416) rfl rfl rfl ?_
      refine st_aloadF (p' := 417) rfl rfl rfl ?_
      refine st_iload (p' := 419) rfl rfl rfl ?_
      refine st_push (p' := 420) rfl rfl ?_
      refine st_ii (p' := 421) (z := 1) rfl rfl (by decide +kernel) ?_
      refine st_sld (p' := 422) (x := xs 1) rfl rfl (by decide) (by decide +kernel) (congrArg xs (by decide)) ?_
      refine st_aloadF (p' := 423) rfl rfl rfl ?_
      refine st_iload (p' := 425) rfl rfl rfl ?_
      refine st_push (p' := 426) rfl rfl ?_
      refine st_ii (p' := 427) (z := 2) rfl rfl (by decide +kernel) ?_
      refine st_sld (p' := 428) (x := xs 2) rfl rfl (by decide) (by decide +kernel) (congrArg xs (by decide)) ?_
      refine st_aloadF (p' := 429) rfl rfl rfl ?_
      refine st_iload (p' := 431) rfl rfl rfl ?_
      refine st_push (p' := 432) rfl rfl ?_
      refine st_ii (p' := 433) (z := 3) rfl rfl (by decide +kernel) ?_
      refine st_sld (p' := 434) (x := xs 3) rfl rfl (by decide) (by decide +kernel) (congrArg xs (by decide)) ?_
      refine st_aloadF (p' := 435) rfl rfl rfl ?_
      refine st_iload (p' := 437) rfl rfl rfl ?_
      refine st_push (p' := 438) rfl rfl ?_
      refine st_ii (p' := 439) (z := 4) rfl rfl (by decide +kernel) ?_
      refine st_sld (p' := 440) (x := xs 4) rfl rfl (by decide) (by decide +kernel) (congrArg xs (by decide)) ?_
      refine st_ifF (p' := 443) rfl (q_z' z_xs4) rfl ?_
      refine st_push (p' := 444) rfl rfl ?_
      refine st_goto rfl ?_
      refine st_inv (p' := 451) (av := [.ref 82, .int (xs 1), .int (xs 2), .int (xs 3), .int 1]) (s' := [.int b]) rfl rfl a2 rfl rfl (q_recv (g1 ..)) rfl rfl ?_
      refine st_istore (p' := 453) (l' := [(6, .int b), (5, .int r), (4, .int 0), (3, .ref 104), (2, .ref 82), (1, .ref 0), (0, .float 0)]) rfl rfl (by decide) rfl ?_
      refine st_aload (p' := 454) rfl rfl rfl ?_
      refine st_inv (p' := 457) (av := [.ref 82]) (s' := [.int r]) rfl rfl a3 rfl rfl (q_recv (g2 ..)) rfl rfl ?_
      refine st_iload (p' := 459) rfl rfl rfl ?_
      refine st_icT (p' := 464) rfl q_eqr rfl ?_
      refine st_iload (p' := 466) rfl rfl rfl ?_
      refine st_ifT (p' := 481) rfl (q_nz z_r) rfl ?_
      refine st_goto rfl ?_
      refine st_iinc (p' := 2119) (l' := [(4, .int 5), (6, .int b), (5, .int r), (3, .ref 104), (2, .ref 82), (1, .ref 0), (0, .float 0)]) (z := 5) rfl rfl (by decide) rfl (by decide) rfl ?_
      refine st_goto rfl ?_
      refine st_iload (p' := 25) rfl rfl rfl ?_
      refine st_aloadF (p' := 26) rfl rfl rfl ?_
      refine st_slen (p' := 27) (q := 5) rfl rfl (by decide) ?_
      refine st_push (p' := 28) rfl rfl ?_
      refine st_ii (p' := 29) (z := 0) rfl rfl (by decide +kernel) ?_
      refine st_icT (p' := 2122) rfl (by decide +kernel) rfl ?_
      refine st_push (p' := 2123) rfl rfl ?_
      exact st_ret_i rfl
theorem law_jump (xs : Nat → Int32) (hk : xs 0 &&& 31 = 4) (ha : ∀ b0 : Int32, (b0 = 0 ∨ b0 = 1) → agree 297 241 [.ref 0, .int (xs 1), .int (xs 2), .int b0, .ref 104] [.ref 82, .int (xs 1), .int (xs 2), .int b0]) : LawOk xs := by
  by_cases z_xs3 : (xs 3) = 0
  · obtain ⟨r, b, h1, h2, f1, f2, a1, g1, a2, g2, a3, g3, g4, g5⟩ := ha 0 (.inl rfl)
    refine ⟨h2, ?_, g4, g5⟩
    by_cases z_r : r = 0
    · refine st_iload (p' := 25) rfl rfl rfl ?_
      refine st_aloadF (p' := 26) rfl rfl rfl ?_
      refine st_slen (p' := 27) (q := 5) rfl rfl (by decide) ?_
      refine st_push (p' := 28) rfl rfl ?_
      refine st_ii (p' := 29) (z := 0) rfl rfl (by decide +kernel) ?_
      refine st_icF (p' := 32) rfl (by decide +kernel) rfl ?_
      refine st_aloadF (p' := 33) rfl rfl rfl ?_
      refine st_iload (p' := 35) rfl rfl rfl ?_
      refine st_sld (p' := 36) (x := xs 0) rfl rfl (by decide) (by decide +kernel) (congrArg xs (by decide)) ?_
      refine st_push (p' := 38) rfl rfl ?_
      refine st_ii (p' := 39) (z := 4) rfl rfl hk ?_
      refine st_tsw (p' := 484) rfl (by decide +kernel) ?_
      refine st_aload (p' := 485) rfl rfl rfl ?_
      refine st_aloadF (p' := 486) rfl rfl rfl ?_
      refine st_iload (p' := 488) rfl rfl rfl ?_
      refine st_push (p' := 489) rfl rfl ?_
      refine st_ii (p' := 490) (z := 1) rfl rfl (by decide +kernel) ?_
      refine st_sld (p' := 491) (x := xs 1) rfl rfl (by decide) (by decide +kernel) (congrArg xs (by decide)) ?_
      refine st_aloadF (p' := 492) rfl rfl rfl ?_
      refine st_iload (p' := 494) rfl rfl rfl ?_
      refine st_push (p' := 495) rfl rfl ?_
      refine st_ii (p' := 496) (z := 2) rfl rfl (by decide +kernel) ?_
      refine st_sld (p' := 497) (x := xs 2) rfl rfl (by decide) (by decide +kernel) (congrArg xs (by decide)) ?_
      refine st_aloadF (p' := 498) rfl rfl rfl ?_
      refine st_iload (p' := 500) rfl rfl rfl ?_
      refine st_push (p' := 501) rfl rfl ?_
      refine st_ii (p' := 502) (z := 3) rfl rfl (by decide +kernel) ?_
      refine st_sld (p' := 503) (x := xs 3) rfl rfl (by decide) (by decide +kernel) (congrArg xs (by decide)) ?_
      refine st_ifT (p' := 510) rfl (q_z z_xs3) rfl ?_
      refine st_push (p' := 511) rfl rfl ?_
      refine st_aload (p' := 512) rfl rfl rfl ?_
      refine st_inv (p' := 515) (av := [.ref 0, .int (xs 1), .int (xs 2), .int 0, .ref 104]) (s' := [.int r]) rfl rfl a1 rfl rfl rfl rfl rfl ?_
      refine st_istore (p' := 517) (l' := [(5, .int r), (4, .int 0), (3, .ref 104), (2, .ref 82), (1, .ref 0), (0, .float 0)]) rfl rfl (by decide) rfl ?_
      refine st_aload (p' := 518) rfl rfl rfl ?_
      refine st_aloadF (p' := 519) rfl rfl rfl ?_
      refine st_iload (p' := 521) rfl rfl rfl ?_
      refine st_push (p' := 522) rfl rfl ?_
      refine st_ii (p' := 523) (z := 1) rfl rfl (by decide +kernel) ?_
      refine st_sld (p' := 524) (x := xs 1) rfl rfl (by decide) (by decide +kernel) (congrArg xs (by decide)) ?_
      refine st_aloadF (p' := 525) rfl rfl rfl ?_
      refine st_iload (p' := 527) rfl rfl rfl ?_
      refine st_push (p' := 528) rfl rfl ?_
      refine st_ii (p' := 529) (z := 2) rfl rfl (by decide +kernel) ?_
      refine st_sld (p' := 530) (x := xs 2) rfl rfl (by decide) (by decide +kernel) (congrArg xs (by decide)) ?_
      refine st_aloadF (p' := 531) rfl rfl rfl ?_
      refine st_iload (p' := 533) rfl rfl rfl ?_
      refine st_push (p' := 534) rfl rfl ?_
      refine st_ii (p' := 535) (z := 3) rfl rfl (by decide +kernel) ?_
      refine st_sld (p' := 536) (x := xs 3) rfl rfl (by decide) (by decide +kernel) (congrArg xs (by decide)) ?_
      refine st_ifT (p' := 543) rfl (q_z z_xs3) rfl ?_
      refine st_push (p' := 544) rfl rfl ?_
      refine st_inv (p' := 547) (av := [.ref 82, .int (xs 1), .int (xs 2), .int 0]) (s' := [.int b]) rfl rfl a2 rfl rfl (q_recv (g1 ..)) rfl rfl ?_
      refine st_istore (p' := 549) (l' := [(6, .int b), (5, .int r), (4, .int 0), (3, .ref 104), (2, .ref 82), (1, .ref 0), (0, .float 0)]) rfl rfl (by decide) rfl ?_
      refine st_aload (p' := 550) rfl rfl rfl ?_
      refine st_inv (p' := 553) (av := [.ref 82]) (s' := [.int r]) rfl rfl a3 rfl rfl (q_recv (g2 ..)) rfl rfl ?_
      refine st_iload (p' := 555) rfl rfl rfl ?_
      refine st_icT (p' := 560) rfl q_eqr rfl ?_
      refine st_iload (p' := 562) rfl rfl rfl ?_
      refine st_ifF (p' := 565) rfl (q_nz' z_r) rfl ?_
      refine st_aload (p' := 566) rfl rfl rfl ?_
      refine st_push (p' := 567) rfl rfl ?_
      refine st_lld (p' := 568) (j := 0) (v := .long b.toInt64) rfl rfl (g3 z_r) (by decide) (by decide) rfl rfl ?_
      refine st_iload (p' := 570) rfl rfl rfl ?_
      refine st_i (p' := 571) (v := .long b.toInt64) rfl rfl rfl ?_
      refine st_ll (p' := 572) (v := .int 0) rfl rfl (q_cmp _) ?_
      refine st_ifT (p' := 577) rfl (by decide +kernel) rfl ?_
      refine st_goto rfl ?_
      refine st_iinc (p' := 2119) (l' := [(4, .int 5), (6, .int b), (5, .int r), (3, .ref 104), (2, .ref 82), (1, .ref 0), (0, .float 0)]) (z := 5) rfl rfl (by decide) rfl (by decide) rfl ?_
      refine st_goto rfl ?_
      refine st_iload (p' := 25) rfl rfl rfl ?_
      refine st_aloadF (p' := 26) rfl rfl rfl ?_
      refine st_slen (p' := 27) (q := 5) rfl rfl (by decide) ?_
      refine st_push (p' := 28) rfl rfl ?_
      refine st_ii (p' := 29) (z := 0) rfl rfl (by decide +kernel) ?_
      refine st_icT (p' := 2122) rfl (by decide +kernel) rfl ?_
      refine st_push (p' := 2123) rfl rfl ?_
      exact st_ret_i rfl
    · refine st_iload (p' := 25) rfl rfl rfl ?_
      refine st_aloadF (p' := 26) rfl rfl rfl ?_
      refine st_slen (p' := 27) (q := 5) rfl rfl (by decide) ?_
      refine st_push (p' := 28) rfl rfl ?_
      refine st_ii (p' := 29) (z := 0) rfl rfl (by decide +kernel) ?_
      refine st_icF (p' := 32) rfl (by decide +kernel) rfl ?_
      refine st_aloadF (p' := 33) rfl rfl rfl ?_
      refine st_iload (p' := 35) rfl rfl rfl ?_
      refine st_sld (p' := 36) (x := xs 0) rfl rfl (by decide) (by decide +kernel) (congrArg xs (by decide)) ?_
      refine st_push (p' := 38) rfl rfl ?_
      refine st_ii (p' := 39) (z := 4) rfl rfl hk ?_
      refine st_tsw (p' := 484) rfl (by decide +kernel) ?_
      refine st_aload (p' := 485) rfl rfl rfl ?_
      refine st_aloadF (p' := 486) rfl rfl rfl ?_
      refine st_iload (p' := 488) rfl rfl rfl ?_
      refine st_push (p' := 489) rfl rfl ?_
      refine st_ii (p' := 490) (z := 1) rfl rfl (by decide +kernel) ?_
      refine st_sld (p' := 491) (x := xs 1) rfl rfl (by decide) (by decide +kernel) (congrArg xs (by decide)) ?_
      refine st_aloadF (p' := 492) rfl rfl rfl ?_
      refine st_iload (p' := 494) rfl rfl rfl ?_
      refine st_push (p' := 495) rfl rfl ?_
      refine st_ii (p' := 496) (z := 2) rfl rfl (by decide +kernel) ?_
      refine st_sld (p' := 497) (x := xs 2) rfl rfl (by decide) (by decide +kernel) (congrArg xs (by decide)) ?_
      refine st_aloadF (p' := 498) rfl rfl rfl ?_
      refine st_iload (p' := 500) rfl rfl rfl ?_
      refine st_push (p' := 501) rfl rfl ?_
      refine st_ii (p' := 502) (z := 3) rfl rfl (by decide +kernel) ?_
      refine st_sld (p' := 503) (x := xs 3) rfl rfl (by decide) (by decide +kernel) (congrArg xs (by decide)) ?_
      refine st_ifT (p' := 510) rfl (q_z z_xs3) rfl ?_
      refine st_push (p' := 511) rfl rfl ?_
      refine st_aload (p' := 512) rfl rfl rfl ?_
      refine st_inv (p' := 515) (av := [.ref 0, .int (xs 1), .int (xs 2), .int 0, .ref 104]) (s' := [.int r]) rfl rfl a1 rfl rfl rfl rfl rfl ?_
      refine st_istore (p' := 517) (l' := [(5, .int r), (4, .int 0), (3, .ref 104), (2, .ref 82), (1, .ref 0), (0, .float 0)]) rfl rfl (by decide) rfl ?_
      refine st_aload (p' := 518) rfl rfl rfl ?_
      refine st_aloadF (p' := 519) rfl rfl rfl ?_
      refine st_iload (p' := 521) rfl rfl rfl ?_
      refine st_push (p' := 522) rfl rfl ?_
      refine st_ii (p' := 523) (z := 1) rfl rfl (by decide +kernel) ?_
      refine st_sld (p' := 524) (x := xs 1) rfl rfl (by decide) (by decide +kernel) (congrArg xs (by decide)) ?_
      refine st_aloadF (p' := 525) rfl rfl rfl ?_
      refine st_iload (p' := 527) rfl rfl rfl ?_
      refine st_push (p' := 528) rfl rfl ?_
      refine st_ii (p' := 529) (z := 2) rfl rfl (by decide +kernel) ?_
      refine st_sld (p' := 530) (x := xs 2) rfl rfl (by decide) (by decide +kernel) (congrArg xs (by decide)) ?_
      refine st_aloadF (p' := 531) rfl rfl rfl ?_
      refine st_iload (p' := 533) rfl rfl rfl ?_
      refine st_push (p' := 534) rfl rfl ?_
      refine st_ii (p' := 535) (z := 3) rfl rfl (by decide +kernel) ?_
      refine st_sld (p' := 536) (x := xs 3) rfl rfl (by decide) (by decide +kernel) (congrArg xs (by decide)) ?_
      refine st_ifT (p' := 543) rfl (q_z z_xs3) rfl ?_
      refine st_push (p' := 544) rfl rfl ?_
      refine st_inv (p' := 547) (av := [.ref 82, .int (xs 1), .int (xs 2), .int 0]) (s' := [.int b]) rfl rfl a2 rfl rfl (q_recv (g1 ..)) rfl rfl ?_
      refine st_istore (p' := 549) (l' := [(6, .int b), (5, .int r), (4, .int 0), (3, .ref 104), (2, .ref 82), (1, .ref 0), (0, .float 0)]) rfl rfl (by decide) rfl ?_
      refine st_aload (p' := 550) rfl rfl rfl ?_
      refine st_inv (p' := 553) (av := [.ref 82]) (s' := [.int r]) rfl rfl a3 rfl rfl (q_recv (g2 ..)) rfl rfl ?_
      refine st_iload (p' := 555) rfl rfl rfl ?_
      refine st_icT (p' := 560) rfl q_eqr rfl ?_
      refine st_iload (p' := 562) rfl rfl rfl ?_
      refine st_ifT (p' := 577) rfl (q_nz z_r) rfl ?_
      refine st_goto rfl ?_
      refine st_iinc (p' := 2119) (l' := [(4, .int 5), (6, .int b), (5, .int r), (3, .ref 104), (2, .ref 82), (1, .ref 0), (0, .float 0)]) (z := 5) rfl rfl (by decide) rfl (by decide) rfl ?_
      refine st_goto rfl ?_
      refine st_iload (p' := 25) rfl rfl rfl ?_
      refine st_aloadF (p' := 26) rfl rfl rfl ?_
      refine st_slen (p' := 27) (q := 5) rfl rfl (by decide) ?_
      refine st_push (p' := 28) rfl rfl ?_
      refine st_ii (p' := 29) (z := 0) rfl rfl (by decide +kernel) ?_
      refine st_icT (p' := 2122) rfl (by decide +kernel) rfl ?_
      refine st_push (p' := 2123) rfl rfl ?_
      exact st_ret_i rfl
  · obtain ⟨r, b, h1, h2, f1, f2, a1, g1, a2, g2, a3, g3, g4, g5⟩ := ha 1 (.inr rfl)
    refine ⟨h2, ?_, g4, g5⟩
    by_cases z_r : r = 0
    · refine st_iload (p' := 25) rfl rfl rfl ?_
      refine st_aloadF (p' := 26) rfl rfl rfl ?_
      refine st_slen (p' := 27) (q := 5) rfl rfl (by decide) ?_
      refine st_push (p' := 28) rfl rfl ?_
      refine st_ii (p' := 29) (z := 0) rfl rfl (by decide +kernel) ?_
      refine st_icF (p' := 32) rfl (by decide +kernel) rfl ?_
      refine st_aloadF (p' := 33) rfl rfl rfl ?_
      refine st_iload (p' := 35) rfl rfl rfl ?_
      refine st_sld (p' := 36) (x := xs 0) rfl rfl (by decide) (by decide +kernel) (congrArg xs (by decide)) ?_
      refine st_push (p' := 38) rfl rfl ?_
      refine st_ii (p' := 39) (z := 4) rfl rfl hk ?_
      refine st_tsw (p' := 484) rfl (by decide +kernel) ?_
      refine st_aload (p' := 485) rfl rfl rfl ?_
      refine st_aloadF (p' := 486) rfl rfl rfl ?_
      refine st_iload (p' := 488) rfl rfl rfl ?_
      refine st_push (p' := 489) rfl rfl ?_
      refine st_ii (p' := 490) (z := 1) rfl rfl (by decide +kernel) ?_
      refine st_sld (p' := 491) (x := xs 1) rfl rfl (by decide) (by decide +kernel) (congrArg xs (by decide)) ?_
      refine st_aloadF (p' := 492) rfl rfl rfl ?_
      refine st_iload (p' := 494) rfl rfl rfl ?_
      refine st_push (p' := 495) rfl rfl ?_
      refine st_ii (p' := 496) (z := 2) rfl rfl (by decide +kernel) ?_
      refine st_sld (p' := 497) (x := xs 2) rfl rfl (by decide) (by decide +kernel) (congrArg xs (by decide)) ?_
      refine st_aloadF (p' := 498) rfl rfl rfl ?_
      refine st_iload (p' := 500) rfl rfl rfl ?_
      refine st_push (p' := 501) rfl rfl ?_
      refine st_ii (p' := 502) (z := 3) rfl rfl (by decide +kernel) ?_
      refine st_sld (p' := 503) (x := xs 3) rfl rfl (by decide) (by decide +kernel) (congrArg xs (by decide)) ?_
      refine st_ifF (p' := 506) rfl (q_z' z_xs3) rfl ?_
      refine st_push (p' := 507) rfl rfl ?_
      refine st_goto rfl ?_
      refine st_aload (p' := 512) rfl rfl rfl ?_
      refine st_inv (p' := 515) (av := [.ref 0, .int (xs 1), .int (xs 2), .int 1, .ref 104]) (s' := [.int r]) rfl rfl a1 rfl rfl rfl rfl rfl ?_
      refine st_istore (p' := 517) (l' := [(5, .int r), (4, .int 0), (3, .ref 104), (2, .ref 82), (1, .ref 0), (0, .float 0)]) rfl rfl (by decide) rfl ?_
      refine st_aload (p' := 518) rfl rfl rfl ?_
      refine st_aloadF (p' := 519) rfl rfl rfl ?_
      refine st_iload (p' := 521) rfl rfl rfl ?_
      refine st_push (p' := 522) rfl rfl ?_
      refine st_ii (p' := 523) (z := 1) rfl rfl (by decide +kernel) ?_
      refine st_sld (p' := 524) (x := xs 1) rfl rfl (by decide) (by decide +kernel) (congrArg xs (by decide)) ?_
      refine st_aloadF (p' := 525) rfl rfl rfl ?_
      refine st_iload (p' := 527) rfl rfl rfl ?_
      refine st_push (p' := 528) rfl rfl ?_
      refine st_ii (p' := 529) (z := 2) rfl rfl (by decide +kernel) ?_
      refine st_sld (p' := 530) (x := xs 2) rfl rfl (by decide) (by decide +kernel) (congrArg xs (by decide)) ?_
      refine st_aloadF (p' := 531) rfl rfl rfl ?_
      refine st_iload (p' := 533) rfl rfl rfl ?_
      refine st_push (p' := 534) rfl rfl ?_
      refine st_ii (p' := 535) (z := 3) rfl rfl (by decide +kernel) ?_
      refine st_sld (p' := 536) (x := xs 3) rfl rfl (by decide) (by decide +kernel) (congrArg xs (by decide)) ?_
      refine st_ifF (p' := 539) rfl (q_z' z_xs3) rfl ?_
      refine st_push (p' := 540) rfl rfl ?_
      refine st_goto rfl ?_
      refine st_inv (p' := 547) (av := [.ref 82, .int (xs 1), .int (xs 2), .int 1]) (s' := [.int b]) rfl rfl a2 rfl rfl (q_recv (g1 ..)) rfl rfl ?_
      refine st_istore (p' := 549) (l' := [(6, .int b), (5, .int r), (4, .int 0), (3, .ref 104), (2, .ref 82), (1, .ref 0), (0, .float 0)]) rfl rfl (by decide) rfl ?_
      refine st_aload (p' := 550) rfl rfl rfl ?_
      refine st_inv (p' := 553) (av := [.ref 82]) (s' := [.int r]) rfl rfl a3 rfl rfl (q_recv (g2 ..)) rfl rfl ?_
      refine st_iload (p' := 555) rfl rfl rfl ?_
      refine st_icT (p' := 560) rfl q_eqr rfl ?_
      refine st_iload (p' := 562) rfl rfl rfl ?_
      refine st_ifF (p' := 565) rfl (q_nz' z_r) rfl ?_
      refine st_aload (p' := 566) rfl rfl rfl ?_
      refine st_push (p' := 567) rfl rfl ?_
      refine st_lld (p' := 568) (j := 0) (v := .long b.toInt64) rfl rfl (g3 z_r) (by decide) (by decide) rfl rfl ?_
      refine st_iload (p' := 570) rfl rfl rfl ?_
      refine st_i (p' := 571) (v := .long b.toInt64) rfl rfl rfl ?_
      refine st_ll (p' := 572) (v := .int 0) rfl rfl (q_cmp _) ?_
      refine st_ifT (p' := 577) rfl (by decide +kernel) rfl ?_
      refine st_goto rfl ?_
      refine st_iinc (p' := 2119) (l' := [(4, .int 5), (6, .int b), (5, .int r), (3, .ref 104), (2, .ref 82), (1, .ref 0), (0, .float 0)]) (z := 5) rfl rfl (by decide) rfl (by decide) rfl ?_
      refine st_goto rfl ?_
      refine st_iload (p' := 25) rfl rfl rfl ?_
      refine st_aloadF (p' := 26) rfl rfl rfl ?_
      refine st_slen (p' := 27) (q := 5) rfl rfl (by decide) ?_
      refine st_push (p' := 28) rfl rfl ?_
      refine st_ii (p' := 29) (z := 0) rfl rfl (by decide +kernel) ?_
      refine st_icT (p' := 2122) rfl (by decide +kernel) rfl ?_
      refine st_push (p' := 2123) rfl rfl ?_
      exact st_ret_i rfl
    · refine st_iload (p' := 25) rfl rfl rfl ?_
      refine st_aloadF (p' := 26) rfl rfl rfl ?_
      refine st_slen (p' := 27) (q := 5) rfl rfl (by decide) ?_
      refine st_push (p' := 28) rfl rfl ?_
      refine st_ii (p' := 29) (z := 0) rfl rfl (by decide +kernel) ?_
      refine st_icF (p' := 32) rfl (by decide +kernel) rfl ?_
      refine st_aloadF (p' := 33) rfl rfl rfl ?_
      refine st_iload (p' := 35) rfl rfl rfl ?_
      refine st_sld (p' := 36) (x := xs 0) rfl rfl (by decide) (by decide +kernel) (congrArg xs (by decide)) ?_
      refine st_push (p' := 38) rfl rfl ?_
      refine st_ii (p' := 39) (z := 4) rfl rfl hk ?_
      refine st_tsw (p' := 484) rfl (by decide +kernel) ?_
      refine st_aload (p' := 485) rfl rfl rfl ?_
      refine st_aloadF (p' := 486) rfl rfl rfl ?_
      refine st_iload (p' := 488) rfl rfl rfl ?_
      refine st_push (p' := 489) rfl rfl ?_
      refine st_ii (p' := 490) (z := 1) rfl rfl (by decide +kernel) ?_
      refine st_sld (p' := 491) (x := xs 1) rfl rfl (by decide) (by decide +kernel) (congrArg xs (by decide)) ?_
      refine st_aloadF (p' := 492) rfl rfl rfl ?_
      refine st_iload (p' := 494) rfl rfl rfl ?_
      refine st_push (p' := 495) rfl rfl ?_
      refine st_ii (p' := 496) (z := 2) rfl rfl (by decide +kernel) ?_
      refine st_sld (p' := 497) (x := xs 2) rfl rfl (by decide) (by decide +kernel) (congrArg xs (by decide)) ?_
      refine st_aloadF (p' := 498) rfl rfl rfl ?_
      refine st_iload (p' := 500) rfl rfl rfl ?_
      refine st_push (p' := 501) rfl rfl ?_
      refine st_ii (p' := 502) (z := 3) rfl rfl (by decide +kernel) ?_
      refine st_sld (p' := 503) (x := xs 3) rfl rfl (by decide) (by decide +kernel) (congrArg xs (by decide)) ?_
      refine st_ifF (p' := 506) rfl (q_z' z_xs3) rfl ?_
      refine st_push (p' := 507) rfl rfl ?_
      refine st_goto rfl ?_
      refine st_aload (p' := 512) rfl rfl rfl ?_
      refine st_inv (p' := 515) (av := [.ref 0, .int (xs 1), .int (xs 2), .int 1, .ref 104]) (s' := [.int r]) rfl rfl a1 rfl rfl rfl rfl rfl ?_
      refine st_istore (p' := 517) (l' := [(5, .int r), (4, .int 0), (3, .ref 104), (2, .ref 82), (1, .ref 0), (0, .float 0)]) rfl rfl (by decide) rfl ?_
      refine st_aload (p' := 518) rfl rfl rfl ?_
      refine st_aloadF (p' := 519) rfl rfl rfl ?_
      refine st_iload (p' := 521) rfl rfl rfl ?_
      refine st_push (p' := 522) rfl rfl ?_
      refine st_ii (p' := 523) (z := 1) rfl rfl (by decide +kernel) ?_
      refine st_sld (p' := 524) (x := xs 1) rfl rfl (by decide) (by decide +kernel) (congrArg xs (by decide)) ?_
      refine st_aloadF (p' := 525) rfl rfl rfl ?_
      refine st_iload (p' := 527) rfl rfl rfl ?_
      refine st_push (p' := 528) rfl rfl ?_
      refine st_ii (p' := 529) (z := 2) rfl rfl (by decide +kernel) ?_
      refine st_sld (p' := 530) (x := xs 2) rfl rfl (by decide) (by decide +kernel) (congrArg xs (by decide)) ?_
      refine st_aloadF (p' := 531) rfl rfl rfl ?_
      refine st_iload (p' := 533) rfl rfl rfl ?_
      refine st_push (p' := 534) rfl rfl ?_
      refine st_ii (p' := 535) (z := 3) rfl rfl (by decide +kernel) ?_
      refine st_sld (p' := 536) (x := xs 3) rfl rfl (by decide) (by decide +kernel) (congrArg xs (by decide)) ?_
      refine st_ifF (p' := 539) rfl (q_z' z_xs3) rfl ?_
      refine st_push (p' := 540) rfl rfl ?_
      refine st_goto rfl ?_
      refine st_inv (p' := 547) (av := [.ref 82, .int (xs 1), .int (xs 2), .int 1]) (s' := [.int b]) rfl rfl a2 rfl rfl (q_recv (g1 ..)) rfl rfl ?_
      refine st_istore (p' := 549) (l' := [(6, .int b), (5, .int r), (4, .int 0), (3, .ref 104), (2, .ref 82), (1, .ref 0), (0, .float 0)]) rfl rfl (by decide) rfl ?_
      refine st_aload (p' := 550) rfl rfl rfl ?_
      refine st_inv (p' := 553) (av := [.ref 82]) (s' := [.int r]) rfl rfl a3 rfl rfl (q_recv (g2 ..)) rfl rfl ?_
      refine st_iload (p' := 555) rfl rfl rfl ?_
      refine st_icT (p' := 560) rfl q_eqr rfl ?_
      refine st_iload (p' := 562) rfl rfl rfl ?_
      refine st_ifT (p' := 577) rfl (q_nz z_r) rfl ?_
      refine st_goto rfl ?_
      refine st_iinc (p' := 2119) (l' := [(4, .int 5), (6, .int b), (5, .int r), (3, .ref 104), (2, .ref 82), (1, .ref 0), (0, .float 0)]) (z := 5) rfl rfl (by decide) rfl (by decide) rfl ?_
      refine st_goto rfl ?_
      refine st_iload (p' := 25) rfl rfl rfl ?_
      refine st_aloadF (p' := 26) rfl rfl rfl ?_
      refine st_slen (p' := 27) (q := 5) rfl rfl (by decide) ?_
      refine st_push (p' := 28) rfl rfl ?_
      refine st_ii (p' := 29) (z := 0) rfl rfl (by decide +kernel) ?_
      refine st_icT (p' := 2122) rfl (by decide +kernel) rfl ?_
      refine st_push (p' := 2123) rfl rfl ?_
      exact st_ret_i rfl
theorem law_define (xs : Nat → Int32) (hk : xs 0 &&& 31 = 5) (ha : ∀ b0 b1 : Int32, (b0 = 0 ∨ b0 = 1) → (b1 = 0 ∨ b1 = 1) → agree 298 243 [.ref 0, .int (xs 1), .int (xs 2), .int b0, .int b1, .ref 104] [.ref 82, .int (xs 1), .int (xs 2), .int b0, .int b1]) : LawOk xs := by
  by_cases z_xs3 : (xs 3) = 0
  · by_cases z_xs4 : (xs 4) = 0
    · obtain ⟨r, b, h1, h2, f1, f2, a1, g1, a2, g2, a3, g3, g4, g5⟩ := ha 0 0 (.inl rfl) (.inl rfl)
      refine ⟨h2, ?_, g4, g5⟩
      by_cases z_r : r = 0
      · refine st_iload (p' := 25) rfl rfl rfl ?_
        refine st_aloadF (p' := 26) rfl rfl rfl ?_
        refine st_slen (p' := 27) (q := 5) rfl rfl (by decide) ?_
        refine st_push (p' := 28) rfl rfl ?_
        refine st_ii (p' := 29) (z := 0) rfl rfl (by decide +kernel) ?_
        refine st_icF (p' := 32) rfl (by decide +kernel) rfl ?_
        refine st_aloadF (p' := 33) rfl rfl rfl ?_
        refine st_iload (p' := 35) rfl rfl rfl ?_
        refine st_sld (p' := 36) (x := xs 0) rfl rfl (by decide) (by decide +kernel) (congrArg xs (by decide)) ?_
        refine st_push (p' := 38) rfl rfl ?_
        refine st_ii (p' := 39) (z := 5) rfl rfl hk ?_
        refine st_tsw (p' := 580) rfl (by decide +kernel) ?_
        refine st_aload (p' := 581) rfl rfl rfl ?_
        refine st_aloadF (p' := 582) rfl rfl rfl ?_
        refine st_iload (p' := 584) rfl rfl rfl ?_
        refine st_push (p' := 585) rfl rfl ?_
        refine st_ii (p' := 586) (z := 1) rfl rfl (by decide +kernel) ?_
        refine st_sld (p' := 587) (x := xs 1) rfl rfl (by decide) (by decide +kernel) (congrArg xs (by decide)) ?_
        refine st_aloadF (p' := 588) rfl rfl rfl ?_
        refine st_iload (p' := 590) rfl rfl rfl ?_
        refine st_push (p' := 591) rfl rfl ?_
        refine st_ii (p' := 592) (z := 2) rfl rfl (by decide +kernel) ?_
        refine st_sld (p' := 593) (x := xs 2) rfl rfl (by decide) (by decide +kernel) (congrArg xs (by decide)) ?_
        refine st_aloadF (p' := 594) rfl rfl rfl ?_
        refine st_iload (p' := 596) rfl rfl rfl ?_
        refine st_push (p' := 597) rfl rfl ?_
        refine st_ii (p' := 598) (z := 3) rfl rfl (by decide +kernel) ?_
        refine st_sld (p' := 599) (x := xs 3) rfl rfl (by decide) (by decide +kernel) (congrArg xs (by decide)) ?_
        refine st_ifT (p' := 606) rfl (q_z z_xs3) rfl ?_
        refine st_push (p' := 607) rfl rfl ?_
        refine st_aloadF (p' := 608) rfl rfl rfl ?_
        refine st_iload (p' := 610) rfl rfl rfl ?_
        refine st_push (p' := 611) rfl rfl ?_
        refine st_ii (p' := 612) (z := 4) rfl rfl (by decide +kernel) ?_
        refine st_sld (p' := 613) (x := xs 4) rfl rfl (by decide) (by decide +kernel) (congrArg xs (by decide)) ?_
        refine st_ifT (p' := 620) rfl (q_z z_xs4) rfl ?_
        refine st_push (p' := 621) rfl rfl ?_
        refine st_aload (p' := 622) rfl rfl rfl ?_
        refine st_inv (p' := 625) (av := [.ref 0, .int (xs 1), .int (xs 2), .int 0, .int 0, .ref 104]) (s' := [.int r]) rfl rfl a1 rfl rfl rfl rfl rfl ?_
        refine st_istore (p' := 627) (l' := [(5, .int r), (4, .int 0), (3, .ref 104), (2, .ref 82), (1, .ref 0), (0, .float 0)]) rfl rfl (by decide) rfl ?_
        refine st_aload (p' := 628) rfl rfl rfl ?_
        refine st_aloadF (p' := 629) rfl rfl rfl ?_
        refine st_iload (p' := 631) rfl rfl rfl ?_
        refine st_push (p' := 632) rfl rfl ?_
        refine st_ii (p' := 633) (z := 1) rfl rfl (by decide +kernel) ?_
        refine st_sld (p' := 634) (x := xs 1) rfl rfl (by decide) (by decide +kernel) (congrArg xs (by decide)) ?_
        refine st_aloadF (p' := 635) rfl rfl rfl ?_
        refine st_iload (p' := 637) rfl rfl rfl ?_
        refine st_push (p' := 638) rfl rfl ?_
        refine st_ii (p' := 639) (z := 2) rfl rfl (by decide +kernel) ?_
        refine st_sld (p' := 640) (x := xs 2) rfl rfl (by decide) (by decide +kernel) (congrArg xs (by decide)) ?_
        refine st_aloadF (p' := 641) rfl rfl rfl ?_
        refine st_iload (p' := 643) rfl rfl rfl ?_
        refine st_push (p' := 644) rfl rfl ?_
        refine st_ii (p' := 645) (z := 3) rfl rfl (by decide +kernel) ?_
        refine st_sld (p' := 646) (x := xs 3) rfl rfl (by decide) (by decide +kernel) (congrArg xs (by decide)) ?_
        refine st_ifT (p' := 653) rfl (q_z z_xs3) rfl ?_
        refine st_push (p' := 654) rfl rfl ?_
        refine st_aloadF (p' := 655) rfl rfl rfl ?_
        refine st_iload (p' := 657) rfl rfl rfl ?_
        refine st_push (p' := 658) rfl rfl ?_
        refine st_ii (p' := 659) (z := 4) rfl rfl (by decide +kernel) ?_
        refine st_sld (p' := 660) (x := xs 4) rfl rfl (by decide) (by decide +kernel) (congrArg xs (by decide)) ?_
        refine st_ifT (p' := 667) rfl (q_z z_xs4) rfl ?_
        refine st_push (p' := 668) rfl rfl ?_
        refine st_inv (p' := 671) (av := [.ref 82, .int (xs 1), .int (xs 2), .int 0, .int 0]) (s' := [.int b]) rfl rfl a2 rfl rfl (q_recv (g1 ..)) rfl rfl ?_
        refine st_istore (p' := 673) (l' := [(6, .int b), (5, .int r), (4, .int 0), (3, .ref 104), (2, .ref 82), (1, .ref 0), (0, .float 0)]) rfl rfl (by decide) rfl ?_
        refine st_aload (p' := 674) rfl rfl rfl ?_
        refine st_inv (p' := 677) (av := [.ref 82]) (s' := [.int r]) rfl rfl a3 rfl rfl (q_recv (g2 ..)) rfl rfl ?_
        refine st_iload (p' := 679) rfl rfl rfl ?_
        refine st_icT (p' := 684) rfl q_eqr rfl ?_
        refine st_iload (p' := 686) rfl rfl rfl ?_
        refine st_ifF (p' := 689) rfl (q_nz' z_r) rfl ?_
        refine st_aload (p' := 690) rfl rfl rfl ?_
        refine st_push (p' := 691) rfl rfl ?_
        refine st_lld (p' := 692) (j := 0) (v := .long b.toInt64) rfl rfl (g3 z_r) (by decide) (by decide) rfl rfl ?_
        refine st_iload (p' := 694) rfl rfl rfl ?_
        refine st_i (p' := 695) (v := .long b.toInt64) rfl rfl rfl ?_
        refine st_ll (p' := 696) (v := .int 0) rfl rfl (q_cmp _) ?_
        refine st_ifT (p' := 701) rfl (by decide +kernel) rfl ?_
        refine st_goto rfl ?_
        refine st_iinc (p' := 2119) (l' := [(4, .int 5), (6, .int b), (5, .int r), (3, .ref 104), (2, .ref 82), (1, .ref 0), (0, .float 0)]) (z := 5) rfl rfl (by decide) rfl (by decide) rfl ?_
        refine st_goto rfl ?_
        refine st_iload (p' := 25) rfl rfl rfl ?_
        refine st_aloadF (p' := 26) rfl rfl rfl ?_
        refine st_slen (p' := 27) (q := 5) rfl rfl (by decide) ?_
        refine st_push (p' := 28) rfl rfl ?_
        refine st_ii (p' := 29) (z := 0) rfl rfl (by decide +kernel) ?_
        refine st_icT (p' := 2122) rfl (by decide +kernel) rfl ?_
        refine st_push (p' := 2123) rfl rfl ?_
        exact st_ret_i rfl
      · refine st_iload (p' := 25) rfl rfl rfl ?_
        refine st_aloadF (p' := 26) rfl rfl rfl ?_
        refine st_slen (p' := 27) (q := 5) rfl rfl (by decide) ?_
        refine st_push (p' := 28) rfl rfl ?_
        refine st_ii (p' := 29) (z := 0) rfl rfl (by decide +kernel) ?_
        refine st_icF (p' := 32) rfl (by decide +kernel) rfl ?_
        refine st_aloadF (p' := 33) rfl rfl rfl ?_
        refine st_iload (p' := 35) rfl rfl rfl ?_
        refine st_sld (p' := 36) (x := xs 0) rfl rfl (by decide) (by decide +kernel) (congrArg xs (by decide)) ?_
        refine st_push (p' := 38) rfl rfl ?_
        refine st_ii (p' := 39) (z := 5) rfl rfl hk ?_
        refine st_tsw (p' := 580) rfl (by decide +kernel) ?_
        refine st_aload (p' := 581) rfl rfl rfl ?_
        refine st_aloadF (p' := 582) rfl rfl rfl ?_
        refine st_iload (p' := 584) rfl rfl rfl ?_
        refine st_push (p' := 585) rfl rfl ?_
        refine st_ii (p' := 586) (z := 1) rfl rfl (by decide +kernel) ?_
        refine st_sld (p' := 587) (x := xs 1) rfl rfl (by decide) (by decide +kernel) (congrArg xs (by decide)) ?_
        refine st_aloadF (p' := 588) rfl rfl rfl ?_
        refine st_iload (p' := 590) rfl rfl rfl ?_
        refine st_push (p' := 591) rfl rfl ?_
        refine st_ii (p' := 592) (z := 2) rfl rfl (by decide +kernel) ?_
        refine st_sld (p' := 593) (x := xs 2) rfl rfl (by decide) (by decide +kernel) (congrArg xs (by decide)) ?_
        refine st_aloadF (p' := 594) rfl rfl rfl ?_
        refine st_iload (p' := 596) rfl rfl rfl ?_
        refine st_push (p' := 597) rfl rfl ?_
        refine st_ii (p' := 598) (z := 3) rfl rfl (by decide +kernel) ?_
        refine st_sld (p' := 599) (x := xs 3) rfl rfl (by decide) (by decide +kernel) (congrArg xs (by decide)) ?_
        refine st_ifT (p' := 606) rfl (q_z z_xs3) rfl ?_
        refine st_push (p' := 607) rfl rfl ?_
        refine st_aloadF (p' := 608) rfl rfl rfl ?_
        refine st_iload (p' := 610) rfl rfl rfl ?_
        refine st_push (p' := 611) rfl rfl ?_
        refine st_ii (p' := 612) (z := 4) rfl rfl (by decide +kernel) ?_
        refine st_sld (p' := 613) (x := xs 4) rfl rfl (by decide) (by decide +kernel) (congrArg xs (by decide)) ?_
        refine st_ifT (p' := 620) rfl (q_z z_xs4) rfl ?_
        refine st_push (p' := 621) rfl rfl ?_
        refine st_aload (p' := 622) rfl rfl rfl ?_
        refine st_inv (p' := 625) (av := [.ref 0, .int (xs 1), .int (xs 2), .int 0, .int 0, .ref 104]) (s' := [.int r]) rfl rfl a1 rfl rfl rfl rfl rfl ?_
        refine st_istore (p' := 627) (l' := [(5, .int r), (4, .int 0), (3, .ref 104), (2, .ref 82), (1, .ref 0), (0, .float 0)]) rfl rfl (by decide) rfl ?_
        refine st_aload (p' := 628) rfl rfl rfl ?_
        refine st_aloadF (p' := 629) rfl rfl rfl ?_
        refine st_iload (p' := 631) rfl rfl rfl ?_
        refine st_push (p' := 632) rfl rfl ?_
        refine st_ii (p' := 633) (z := 1) rfl rfl (by decide +kernel) ?_
        refine st_sld (p' := 634) (x := xs 1) rfl rfl (by decide) (by decide +kernel) (congrArg xs (by decide)) ?_
        refine st_aloadF (p' := 635) rfl rfl rfl ?_
        refine st_iload (p' := 637) rfl rfl rfl ?_
        refine st_push (p' := 638) rfl rfl ?_
        refine st_ii (p' := 639) (z := 2) rfl rfl (by decide +kernel) ?_
        refine st_sld (p' := 640) (x := xs 2) rfl rfl (by decide) (by decide +kernel) (congrArg xs (by decide)) ?_
        refine st_aloadF (p' := 641) rfl rfl rfl ?_
        refine st_iload (p' := 643) rfl rfl rfl ?_
        refine st_push (p' := 644) rfl rfl ?_
        refine st_ii (p' := 645) (z := 3) rfl rfl (by decide +kernel) ?_
        refine st_sld (p' := 646) (x := xs 3) rfl rfl (by decide) (by decide +kernel) (congrArg xs (by decide)) ?_
        refine st_ifT (p' := 653) rfl (q_z z_xs3) rfl ?_
        refine st_push (p' := 654) rfl rfl ?_
        refine st_aloadF (p' := 655) rfl rfl rfl ?_
        refine st_iload (p' := 657) rfl rfl rfl ?_
        refine st_push (p' := 658) rfl rfl ?_
        refine st_ii (p' := 659) (z := 4) rfl rfl (by decide +kernel) ?_
        refine st_sld (p' := 660) (x := xs 4) rfl rfl (by decide) (by decide +kernel) (congrArg xs (by decide)) ?_
        refine st_ifT (p' := 667) rfl (q_z z_xs4) rfl ?_
        refine st_push (p' := 668) rfl rfl ?_
        refine st_inv (p' := 671) (av := [.ref 82, .int (xs 1), .int (xs 2), .int 0, .int 0]) (s' := [.int b]) rfl rfl a2 rfl rfl (q_recv (g1 ..)) rfl rfl ?_
        refine st_istore (p' := 673) (l' := [(6, .int b), (5, .int r), (4, .int 0), (3, .ref 104), (2, .ref 82), (1, .ref 0), (0, .float 0)]) rfl rfl (by decide) rfl ?_
        refine st_aload (p' := 674) rfl rfl rfl ?_
        refine st_inv (p' := 677) (av := [.ref 82]) (s' := [.int r]) rfl rfl a3 rfl rfl (q_recv (g2 ..)) rfl rfl ?_
        refine st_iload (p' := 679) rfl rfl rfl ?_
        refine st_icT (p' := 684) rfl q_eqr rfl ?_
        refine st_iload (p' := 686) rfl rfl rfl ?_
        refine st_ifT (p' := 701) rfl (q_nz z_r) rfl ?_
        refine st_goto rfl ?_
        refine st_iinc (p' := 2119) (l' := [(4, .int 5), (6, .int b), (5, .int r), (3, .ref 104), (2, .ref 82), (1, .ref 0), (0, .float 0)]) (z := 5) rfl rfl (by decide) rfl (by decide) rfl ?_
        refine st_goto rfl ?_
        refine st_iload (p' := 25) rfl rfl rfl ?_
        refine st_aloadF (p' := 26) rfl rfl rfl ?_
        refine st_slen (p' := 27) (q := 5) rfl rfl (by decide) ?_
        refine st_push (p' := 28) rfl rfl ?_
        refine st_ii (p' := 29) (z := 0) rfl rfl (by decide +kernel) ?_
        refine st_icT (p' := 2122) rfl (by decide +kernel) rfl ?_
        refine st_push (p' := 2123) rfl rfl ?_
        exact st_ret_i rfl
    · obtain ⟨r, b, h1, h2, f1, f2, a1, g1, a2, g2, a3, g3, g4, g5⟩ := ha 0 1 (.inl rfl) (.inr rfl)
      refine ⟨h2, ?_, g4, g5⟩
      by_cases z_r : r = 0
      · refine st_iload (p' := 25) rfl rfl rfl ?_
        refine st_aloadF (p' := 26) rfl rfl rfl ?_
        refine st_slen (p' := 27) (q := 5) rfl rfl (by decide) ?_
        refine st_push (p' := 28) rfl rfl ?_
        refine st_ii (p' := 29) (z := 0) rfl rfl (by decide +kernel) ?_
        refine st_icF (p' := 32) rfl (by decide +kernel) rfl ?_
        refine st_aloadF (p' := 33) rfl rfl rfl ?_
        refine st_iload (p' := 35) rfl rfl rfl ?_
        refine st_sld (p' := 36) (x := xs 0) rfl rfl (by decide) (by decide +kernel) (congrArg xs (by decide)) ?_
        refine st_push (p' := 38) rfl rfl ?_
        refine st_ii (p' := 39) (z := 5) rfl rfl hk ?_
        refine st_tsw (p' := 580) rfl (by decide +kernel) ?_
        refine st_aload (p' := 581) rfl rfl rfl ?_
        refine st_aloadF (p' := 582) rfl rfl rfl ?_
        refine st_iload (p' := 584) rfl rfl rfl ?_
        refine st_push (p' := 585) rfl rfl ?_
        refine st_ii (p' := 586) (z := 1) rfl rfl (by decide +kernel) ?_
        refine st_sld (p' := 587) (x := xs 1) rfl rfl (by decide) (by decide +kernel) (congrArg xs (by decide)) ?_
        refine st_aloadF (p' := 588) rfl rfl rfl ?_
        refine st_iload (p' := 590) rfl rfl rfl ?_
        refine st_push (p' := 591) rfl rfl ?_
        refine st_ii (p' := 592) (z := 2) rfl rfl (by decide +kernel) ?_
        refine st_sld (p' := 593) (x := xs 2) rfl rfl (by decide) (by decide +kernel) (congrArg xs (by decide)) ?_
        refine st_aloadF (p' := 594) rfl rfl rfl ?_
        refine st_iload (p' := 596) rfl rfl rfl ?_
        refine st_push (p' := 597) rfl rfl ?_
        refine st_ii (p' := 598) (z := 3) rfl rfl (by decide +kernel) ?_
        refine st_sld (p' := 599) (x := xs 3) rfl rfl (by decide) (by decide +kernel) (congrArg xs (by decide)) ?_
        refine st_ifT (p' := 606) rfl (q_z z_xs3) rfl ?_
        refine st_push (p' := 607) rfl rfl ?_
        refine st_aloadF (p' := 608) rfl rfl rfl ?_
        refine st_iload (p' := 610) rfl rfl rfl ?_
        refine st_push (p' := 611) rfl rfl ?_
        refine st_ii (p' := 612) (z := 4) rfl rfl (by decide +kernel) ?_
        refine st_sld (p' := 613) (x := xs 4) rfl rfl (by decide) (by decide +kernel) (congrArg xs (by decide)) ?_
        refine st_ifF (p' := 616) rfl (q_z' z_xs4) rfl ?_
        refine st_push (p' := 617) rfl rfl ?_
        refine st_goto rfl ?_
        refine st_aload (p' := 622) rfl rfl rfl ?_
        refine st_inv (p' := 625) (av := [.ref 0, .int (xs 1), .int (xs 2), .int 0, .int 1, .ref 104]) (s' := [.int r]) rfl rfl a1 rfl rfl rfl rfl rfl ?_
        refine st_istore (p' := 627) (l' := [(5, .int r), (4, .int 0), (3, .ref 104), (2, .ref 82), (1, .ref 0), (0, .float 0)]) rfl rfl (by decide) rfl ?_
        refine st_aload (p' := 628) rfl rfl rfl ?_
        refine st_aloadF (p' := 629) rfl rfl rfl ?_
        refine st_iload (p' := 631) rfl rfl rfl ?_
        refine st_push (p' := 632) rfl rfl ?_
        refine st_ii (p' := 633) (z := 1) rfl rfl (by decide +kernel) ?_
        refine st_sld (p' := 634) (x := xs 1) rfl rfl (by decide) (by decide +kernel) (congrArg xs (by decide)) ?_
        refine st_aloadF (p' := 635) rfl rfl rfl ?_
        refine st_iload (p' := 637) rfl rfl rfl ?_
        refine st_push (p' := 638) rfl rfl ?_
        refine st_ii (p' := 639) (z := 2) rfl rfl (by decide +kernel) ?_
        refine st_sld (p' := 640) (x := xs 2) rfl rfl (by decide) (by decide +kernel) (congrArg xs (by decide)) ?_
        refine st_aloadF (p' := 641) rfl rfl rfl ?_
        refine st_iload (p' := 643) rfl rfl rfl ?_
        refine st_push (p' := 644) rfl rfl ?_
        refine st_ii (p' := 645) (z := 3) rfl rfl (by decide +kernel) ?_
        refine st_sld (p' := 646) (x := xs 3) rfl rfl (by decide) (by decide +kernel) (congrArg xs (by decide)) ?_
        refine st_ifT (p' := 653) rfl (q_z z_xs3) rfl ?_
        refine st_push (p' := 654) rfl rfl ?_
        refine st_aloadF (p' := 655) rfl rfl rfl ?_
        refine st_iload (p' := 657) rfl rfl rfl ?_
        refine st_push (p' := 658) rfl rfl ?_
        refine st_ii (p' := 659) (z := 4) rfl rfl (by decide +kernel) ?_
        refine st_sld (p' := 660) (x := xs 4) rfl rfl (by decide) (by decide +kernel) (congrArg xs (by decide)) ?_
        refine st_ifF (p' := 663) rfl (q_z' z_xs4) rfl ?_
        refine st_push (p' := 664) rfl rfl ?_
        refine st_goto rfl ?_
        refine st_inv (p' := 671) (av := [.ref 82, .int (xs 1), .int (xs 2), .int 0, .int 1]) (s' := [.int b]) rfl rfl a2 rfl rfl (q_recv (g1 ..)) rfl rfl ?_
        refine st_istore (p' := 673) (l' := [(6, .int b), (5, .int r), (4, .int 0), (3, .ref 104), (2, .ref 82), (1, .ref 0), (0, .float 0)]) rfl rfl (by decide) rfl ?_
        refine st_aload (p' := 674) rfl rfl rfl ?_
        refine st_inv (p' := 677) (av := [.ref 82]) (s' := [.int r]) rfl rfl a3 rfl rfl (q_recv (g2 ..)) rfl rfl ?_
        refine st_iload (p' := 679) rfl rfl rfl ?_
        refine st_icT (p' := 684) rfl q_eqr rfl ?_
        refine st_iload (p' := 686) rfl rfl rfl ?_
        refine st_ifF (p' := 689) rfl (q_nz' z_r) rfl ?_
        refine st_aload (p' := 690) rfl rfl rfl ?_
        refine st_push (p' := 691) rfl rfl ?_
        refine st_lld (p' := 692) (j := 0) (v := .long b.toInt64) rfl rfl (g3 z_r) (by decide) (by decide) rfl rfl ?_
        refine st_iload (p' := 694) rfl rfl rfl ?_
        refine st_i (p' := 695) (v := .long b.toInt64) rfl rfl rfl ?_
        refine st_ll (p' := 696) (v := .int 0) rfl rfl (q_cmp _) ?_
        refine st_ifT (p' := 701) rfl (by decide +kernel) rfl ?_
        refine st_goto rfl ?_
        refine st_iinc (p' := 2119) (l' := [(4, .int 5), (6, .int b), (5, .int r), (3, .ref 104), (2, .ref 82), (1, .ref 0), (0, .float 0)]) (z := 5) rfl rfl (by decide) rfl (by decide) rfl ?_
        refine st_goto rfl ?_
        refine st_iload (p' := 25) rfl rfl rfl ?_
        refine st_aloadF (p' := 26) rfl rfl rfl ?_
        refine st_slen (p' := 27) (q := 5) rfl rfl (by decide) ?_
        refine st_push (p' := 28) rfl rfl ?_
        refine st_ii (p' := 29) (z := 0) rfl rfl (by decide +kernel) ?_
        refine st_icT (p' := 2122) rfl (by decide +kernel) rfl ?_
        refine st_push (p' := 2123) rfl rfl ?_
        exact st_ret_i rfl
      · refine st_iload (p' := 25) rfl rfl rfl ?_
        refine st_aloadF (p' := 26) rfl rfl rfl ?_
        refine st_slen (p' := 27) (q := 5) rfl rfl (by decide) ?_
        refine st_push (p' := 28) rfl rfl ?_
        refine st_ii (p' := 29) (z := 0) rfl rfl (by decide +kernel) ?_
        refine st_icF (p' := 32) rfl (by decide +kernel) rfl ?_
        refine st_aloadF (p' := 33) rfl rfl rfl ?_
        refine st_iload (p' := 35) rfl rfl rfl ?_
        refine st_sld (p' := 36) (x := xs 0) rfl rfl (by decide) (by decide +kernel) (congrArg xs (by decide)) ?_
        refine st_push (p' := 38) rfl rfl ?_
        refine st_ii (p' := 39) (z := 5) rfl rfl hk ?_
        refine st_tsw (p' := 580) rfl (by decide +kernel) ?_
        refine st_aload (p' := 581) rfl rfl rfl ?_
        refine st_aloadF (p' := 582) rfl rfl rfl ?_
        refine st_iload (p' := 584) rfl rfl rfl ?_
        refine st_push (p' := 585) rfl rfl ?_
        refine st_ii (p' := 586) (z := 1) rfl rfl (by decide +kernel) ?_
        refine st_sld (p' := 587) (x := xs 1) rfl rfl (by decide) (by decide +kernel) (congrArg xs (by decide)) ?_
        refine st_aloadF (p' := 588) rfl rfl rfl ?_
        refine st_iload (p' := 590) rfl rfl rfl ?_
        refine st_push (p' := 591) rfl rfl ?_
        refine st_ii (p' := 592) (z := 2) rfl rfl (by decide +kernel) ?_
        refine st_sld (p' := 593) (x := xs 2) rfl rfl (by decide) (by decide +kernel) (congrArg xs (by decide)) ?_
        refine st_aloadF (p' := 594) rfl rfl rfl ?_
        refine st_iload (p' := 596) rfl rfl rfl ?_
        refine st_push (p' := 597) rfl rfl ?_
        refine st_ii (p' := 598) (z := 3) rfl rfl (by decide +kernel) ?_
        refine st_sld (p' := 599) (x := xs 3) rfl rfl (by decide) (by decide +kernel) (congrArg xs (by decide)) ?_
        refine st_ifT (p' := 606) rfl (q_z z_xs3) rfl ?_
        refine st_push (p' := 607) rfl rfl ?_
        refine st_aloadF (p' := 608) rfl rfl rfl ?_
        refine st_iload (p' := 610) rfl rfl rfl ?_
        refine st_push (p' := 611) rfl rfl ?_
        refine st_ii (p' := 612) (z := 4) rfl rfl (by decide +kernel) ?_
        refine st_sld (p' := 613) (x := xs 4) rfl rfl (by decide) (by decide +kernel) (congrArg xs (by decide)) ?_
        refine st_ifF (p' := 616) rfl (q_z' z_xs4) rfl ?_
        refine st_push (p' := 617) rfl rfl ?_
        refine st_goto rfl ?_
        refine st_aload (p' := 622) rfl rfl rfl ?_
        refine st_inv (p' := 625) (av := [.ref 0, .int (xs 1), .int (xs 2), .int 0, .int 1, .ref 104]) (s' := [.int r]) rfl rfl a1 rfl rfl rfl rfl rfl ?_
        refine st_istore (p' := 627) (l' := [(5, .int r), (4, .int 0), (3, .ref 104), (2, .ref 82), (1, .ref 0), (0, .float 0)]) rfl rfl (by decide) rfl ?_
        refine st_aload (p' := 628) rfl rfl rfl ?_
        refine st_aloadF (p' := 629) rfl rfl rfl ?_
        refine st_iload (p' := 631) rfl rfl rfl ?_
        refine st_push (p' := 632) rfl rfl ?_
        refine st_ii (p' := 633) (z := 1) rfl rfl (by decide +kernel) ?_
        refine st_sld (p' := 634) (x := xs 1) rfl rfl (by decide) (by decide +kernel) (congrArg xs (by decide)) ?_
        refine st_aloadF (p' := 635) rfl rfl rfl ?_
        refine st_iload (p' := 637) rfl rfl rfl ?_
        refine st_push (p' := 638) rfl rfl ?_
        refine st_ii (p' := 639) (z := 2) rfl rfl (by decide +kernel) ?_
        refine st_sld (p' := 640) (x := xs 2) rfl rfl (by decide) (by decide +kernel) (congrArg xs (by decide)) ?_
        refine st_aloadF (p' := 641) rfl rfl rfl ?_
        refine st_iload (p' := 643) rfl rfl rfl ?_
        refine st_push (p' := 644) rfl rfl ?_
        refine st_ii (p' := 645) (z := 3) rfl rfl (by decide +kernel) ?_
        refine st_sld (p' := 646) (x := xs 3) rfl rfl (by decide) (by decide +kernel) (congrArg xs (by decide)) ?_
        refine st_ifT (p' := 653) rfl (q_z z_xs3) rfl ?_
        refine st_push (p' := 654) rfl rfl ?_
        refine st_aloadF (p' := 655) rfl rfl rfl ?_
        refine st_iload (p' := 657) rfl rfl rfl ?_
        refine st_push (p' := 658) rfl rfl ?_
        refine st_ii (p' := 659) (z := 4) rfl rfl (by decide +kernel) ?_
        refine st_sld (p' := 660) (x := xs 4) rfl rfl (by decide) (by decide +kernel) (congrArg xs (by decide)) ?_
        refine st_ifF (p' := 663) rfl (q_z' z_xs4) rfl ?_
        refine st_push (p' := 664) rfl rfl ?_
        refine st_goto rfl ?_
        refine st_inv (p' := 671) (av := [.ref 82, .int (xs 1), .int (xs 2), .int 0, .int 1]) (s' := [.int b]) rfl rfl a2 rfl rfl (q_recv (g1 ..)) rfl rfl ?_
        refine st_istore (p' := 673) (l' := [(6, .int b), (5, .int r), (4, .int 0), (3, .ref 104), (2, .ref 82), (1, .ref 0), (0, .float 0)]) rfl rfl (by decide) rfl ?_
        refine st_aload (p' := 674) rfl rfl rfl ?_
        refine st_inv (p' := 677) (av := [.ref 82]) (s' := [.int r]) rfl rfl a3 rfl rfl (q_recv (g2 ..)) rfl rfl ?_
        refine st_iload (p' := 679) rfl rfl rfl ?_
        refine st_icT (p' := 684) rfl q_eqr rfl ?_
        refine st_iload (p' := 686) rfl rfl rfl ?_
        refine st_ifT (p' := 701) rfl (q_nz z_r) rfl ?_
        refine st_goto rfl ?_
        refine st_iinc (p' := 2119) (l' := [(4, .int 5), (6, .int b), (5, .int r), (3, .ref 104), (2, .ref 82), (1, .ref 0), (0, .float 0)]) (z := 5) rfl rfl (by decide) rfl (by decide) rfl ?_
        refine st_goto rfl ?_
        refine st_iload (p' := 25) rfl rfl rfl ?_
        refine st_aloadF (p' := 26) rfl rfl rfl ?_
        refine st_slen (p' := 27) (q := 5) rfl rfl (by decide) ?_
        refine st_push (p' := 28) rfl rfl ?_
        refine st_ii (p' := 29) (z := 0) rfl rfl (by decide +kernel) ?_
        refine st_icT (p' := 2122) rfl (by decide +kernel) rfl ?_
        refine st_push (p' := 2123) rfl rfl ?_
        exact st_ret_i rfl
  · by_cases z_xs4 : (xs 4) = 0
    · obtain ⟨r, b, h1, h2, f1, f2, a1, g1, a2, g2, a3, g3, g4, g5⟩ := ha 1 0 (.inr rfl) (.inl rfl)
      refine ⟨h2, ?_, g4, g5⟩
      by_cases z_r : r = 0
      · refine st_iload (p' := 25) rfl rfl rfl ?_
        refine st_aloadF (p' := 26) rfl rfl rfl ?_
        refine st_slen (p' := 27) (q := 5) rfl rfl (by decide) ?_
        refine st_push (p' := 28) rfl rfl ?_
        refine st_ii (p' := 29) (z := 0) rfl rfl (by decide +kernel) ?_
        refine st_icF (p' := 32) rfl (by decide +kernel) rfl ?_
        refine st_aloadF (p' := 33) rfl rfl rfl ?_
        refine st_iload (p' := 35) rfl rfl rfl ?_
        refine st_sld (p' := 36) (x := xs 0) rfl rfl (by decide) (by decide +kernel) (congrArg xs (by decide)) ?_
        refine st_push (p' := 38) rfl rfl ?_
        refine st_ii (p' := 39) (z := 5) rfl rfl hk ?_
        refine st_tsw (p' := 580) rfl (by decide +kernel) ?_
        refine st_aload (p' := 581) rfl rfl rfl ?_
        refine st_aloadF (p' := 582) rfl rfl rfl ?_
        refine st_iload (p' := 584) rfl rfl rfl ?_
        refine st_push (p' := 585) rfl rfl ?_
        refine st_ii (p' := 586) (z := 1) rfl rfl (by decide +kernel) ?_
        refine st_sld (p' := 587) (x := xs 1) rfl rfl (by decide) (by decide +kernel) (congrArg xs (by decide)) ?_
        refine st_aloadF (p' := 588) rfl rfl rfl ?_
        refine st_iload (p' := 590) rfl rfl rfl ?_
        refine st_push (p' := 591) rfl rfl ?_
        refine st_ii (p' := 592) (z := 2) rfl rfl (by decide +kernel) ?_
        refine st_sld (p' := 593) (x := xs 2) rfl rfl (by decide) (by decide +kernel) (congrArg xs (by decide)) ?_
        refine st_aloadF (p' := 594) rfl rfl rfl ?_
        refine st_iload (p' := 596) rfl rfl rfl ?_
        refine st_push (p' := 597) rfl rfl ?_
        refine st_ii (p' := 598) (z := 3) rfl rfl (by decide +kernel) ?_
        refine st_sld (p' := 599) (x := xs 3) rfl rfl (by decide) (by decide +kernel) (congrArg xs (by decide)) ?_
        refine st_ifF (p' := 602) rfl (q_z' z_xs3) rfl ?_
        refine st_push (p' := 603) rfl rfl ?_
        refine st_goto rfl ?_
        refine st_aloadF (p' := 608) rfl rfl rfl ?_
        refine st_iload (p' := 610) rfl rfl rfl ?_
        refine st_push (p' := 611) rfl rfl ?_
        refine st_ii (p' := 612) (z := 4) rfl rfl (by decide +kernel) ?_
        refine st_sld (p' := 613) (x := xs 4) rfl rfl (by decide) (by decide +kernel) (congrArg xs (by decide)) ?_
        refine st_ifT (p' := 620) rfl (q_z z_xs4) rfl ?_
        refine st_push (p' := 621) rfl rfl ?_
        refine st_aload (p' := 622) rfl rfl rfl ?_
        refine st_inv (p' := 625) (av := [.ref 0, .int (xs 1), .int (xs 2), .int 1, .int 0, .ref 104]) (s' := [.int r]) rfl rfl a1 rfl rfl rfl rfl rfl ?_
        refine st_istore (p' := 627) (l' := [(5, .int r), (4, .int 0), (3, .ref 104), (2, .ref 82), (1, .ref 0), (0, .float 0)]) rfl rfl (by decide) rfl ?_
        refine st_aload (p' := 628) rfl rfl rfl ?_
        refine st_aloadF (p' := 629) rfl rfl rfl ?_
        refine st_iload (p' := 631) rfl rfl rfl ?_
        refine st_push (p' := 632) rfl rfl ?_
        refine st_ii (p' := 633) (z := 1) rfl rfl (by decide +kernel) ?_
        refine st_sld (p' := 634) (x := xs 1) rfl rfl (by decide) (by decide +kernel) (congrArg xs (by decide)) ?_
        refine st_aloadF (p' := 635) rfl rfl rfl ?_
        refine st_iload (p' := 637) rfl rfl rfl ?_
        refine st_push (p' := 638) rfl rfl ?_
        refine st_ii (p' := 639) (z := 2) rfl rfl (by decide +kernel) ?_
        refine st_sld (p' := 640) (x := xs 2) rfl rfl (by decide) (by decide +kernel) (congrArg xs (by decide)) ?_
        refine st_aloadF (p' := 641) rfl rfl rfl ?_
        refine st_iload (p' := 643) rfl rfl rfl ?_
        refine st_push (p' := 644) rfl rfl ?_
        refine st_ii (p' := 645) (z := 3) rfl rfl (by decide +kernel) ?_
        refine st_sld (p' := 646) (x := xs 3) rfl rfl (by decide) (by decide +kernel) (congrArg xs (by decide)) ?_
        refine st_ifF (p' := 649) rfl (q_z' z_xs3) rfl ?_
        refine st_push (p' := 650) rfl rfl ?_
        refine st_goto rfl ?_
        refine st_aloadF (p' := 655) rfl rfl rfl ?_
        refine st_iload (p' := 657) rfl rfl rfl ?_
        refine st_push (p' := 658) rfl rfl ?_
        refine st_ii (p' := 659) (z := 4) rfl rfl (by decide +kernel) ?_
        refine st_sld (p' := 660) (x := xs 4) rfl rfl (by decide) (by decide +kernel) (congrArg xs (by decide)) ?_
        refine st_ifT (p' := 667) rfl (q_z z_xs4) rfl ?_
        refine st_push (p' := 668) rfl rfl ?_
        refine st_inv (p' := 671) (av := [.ref 82, .int (xs 1), .int (xs 2), .int 1, .int 0]) (s' := [.int b]) rfl rfl a2 rfl rfl (q_recv (g1 ..)) rfl rfl ?_
        refine st_istore (p' := 673) (l' := [(6, .int b), (5, .int r), (4, .int 0), (3, .ref 104), (2, .ref 82), (1, .ref 0), (0, .float 0)]) rfl rfl (by decide) rfl ?_
        refine st_aload (p' := 674) rfl rfl rfl ?_
        refine st_inv (p' := 677) (av := [.ref 82]) (s' := [.int r]) rfl rfl a3 rfl rfl (q_recv (g2 ..)) rfl rfl ?_
        refine st_iload (p' := 679) rfl rfl rfl ?_
        refine st_icT (p' := 684) rfl q_eqr rfl ?_
        refine st_iload (p' := 686) rfl rfl rfl ?_
        refine st_ifF (p' := 689) rfl (q_nz' z_r) rfl ?_
        refine st_aload (p' := 690) rfl rfl rfl ?_
        refine st_push (p' := 691) rfl rfl ?_
        refine st_lld (p' := 692) (j := 0) (v := .long b.toInt64) rfl rfl (g3 z_r) (by decide) (by decide) rfl rfl ?_
        refine st_iload (p' := 694) rfl rfl rfl ?_
        refine st_i (p' := 695) (v := .long b.toInt64) rfl rfl rfl ?_
        refine st_ll (p' := 696) (v := .int 0) rfl rfl (q_cmp _) ?_
        refine st_ifT (p' := 701) rfl (by decide +kernel) rfl ?_
        refine st_goto rfl ?_
        refine st_iinc (p' := 2119) (l' := [(4, .int 5), (6, .int b), (5, .int r), (3, .ref 104), (2, .ref 82), (1, .ref 0), (0, .float 0)]) (z := 5) rfl rfl (by decide) rfl (by decide) rfl ?_
        refine st_goto rfl ?_
        refine st_iload (p' := 25) rfl rfl rfl ?_
        refine st_aloadF (p' := 26) rfl rfl rfl ?_
        refine st_slen (p' := 27) (q := 5) rfl rfl (by decide) ?_
        refine st_push (p' := 28) rfl rfl ?_
        refine st_ii (p' := 29) (z := 0) rfl rfl (by decide +kernel) ?_
        refine st_icT (p' := 2122) rfl (by decide +kernel) rfl ?_
        refine st_push (p' := 2123) rfl rfl ?_
        exact st_ret_i rfl
      · refine st_iload (p' := 25) rfl rfl rfl ?_
        refine st_aloadF (p' := 26) rfl rfl rfl ?_
        refine st_slen (p' := 27) (q := 5) rfl rfl (by decide) ?_
        refine st_push (p' := 28) rfl rfl ?_
        refine st_ii (p' := 29) (z := 0) rfl rfl (by decide +kernel) ?_
        refine st_icF (p' := 32) rfl (by decide +kernel) rfl ?_
        refine st_aloadF (p' := 33) rfl rfl rfl ?_
        refine st_iload (p' := 35) rfl rfl rfl ?_
        refine st_sld (p' := 36) (x := xs 0) rfl rfl (by decide) (by decide +kernel) (congrArg xs (by decide)) ?_
        refine st_push (p' := 38) rfl rfl ?_
        refine st_ii (p' := 39) (z := 5) rfl rfl hk ?_
        refine st_tsw (p' := 580) rfl (by decide +kernel) ?_
        refine st_aload (p' := 581) rfl rfl rfl ?_
        refine st_aloadF (p' := 582) rfl rfl rfl ?_
        refine st_iload (p' := 584) rfl rfl rfl ?_
        refine st_push (p' := 585) rfl rfl ?_
        refine st_ii (p' := 586) (z := 1) rfl rfl (by decide +kernel) ?_
        refine st_sld (p' := 587) (x := xs 1) rfl rfl (by decide) (by decide +kernel) (congrArg xs (by decide)) ?_
        refine st_aloadF (p' := 588) rfl rfl rfl ?_
        refine st_iload (p' := 590) rfl rfl rfl ?_
        refine st_push (p' := 591) rfl rfl ?_
        refine st_ii (p' := 592) (z := 2) rfl rfl (by decide +kernel) ?_
        refine st_sld (p' := 593) (x := xs 2) rfl rfl (by decide) (by decide +kernel) (congrArg xs (by decide)) ?_
        refine st_aloadF (p' := 594) rfl rfl rfl ?_
        refine st_iload (p' := 596) rfl rfl rfl ?_
        refine st_push (p' := 597) rfl rfl ?_
        refine st_ii (p' := 598) (z := 3) rfl rfl (by decide +kernel) ?_
        refine st_sld (p' := 599) (x := xs 3) rfl rfl (by decide) (by decide +kernel) (congrArg xs (by decide)) ?_
        refine st_ifF (p' := 602) rfl (q_z' z_xs3) rfl ?_
        refine st_push (p' := 603) rfl rfl ?_
        refine st_goto rfl ?_
        refine st_aloadF (p' := 608) rfl rfl rfl ?_
        refine st_iload (p' := 610) rfl rfl rfl ?_
        refine st_push (p' := 611) rfl rfl ?_
        refine st_ii (p' := 612) (z := 4) rfl rfl (by decide +kernel) ?_
        refine st_sld (p' := 613) (x := xs 4) rfl rfl (by decide) (by decide +kernel) (congrArg xs (by decide)) ?_
        refine st_ifT (p' := 620) rfl (q_z z_xs4) rfl ?_
        refine st_push (p' := 621) rfl rfl ?_
        refine st_aload (p' := 622) rfl rfl rfl ?_
        refine st_inv (p' := 625) (av := [.ref 0, .int (xs 1), .int (xs 2), .int 1, .int 0, .ref 104]) (s' := [.int r]) rfl rfl a1 rfl rfl rfl rfl rfl ?_
        refine st_istore (p' := 627) (l' := [(5, .int r), (4, .int 0), (3, .ref 104), (2, .ref 82), (1, .ref 0), (0, .float 0)]) rfl rfl (by decide) rfl ?_
        refine st_aload (p' := 628) rfl rfl rfl ?_
        refine st_aloadF (p' := 629) rfl rfl rfl ?_
        refine st_iload (p' := 631) rfl rfl rfl ?_
        refine st_push (p' := 632) rfl rfl ?_
        refine st_ii (p' := 633) (z := 1) rfl rfl (by decide +kernel) ?_
        refine st_sld (p' := 634) (x := xs 1) rfl rfl (by decide) (by decide +kernel) (congrArg xs (by decide)) ?_
        refine st_aloadF (p' := 635) rfl rfl rfl ?_
        refine st_iload (p' := 637) rfl rfl rfl ?_
        refine st_push (p' := 638) rfl rfl ?_
        refine st_ii (p' := 639) (z := 2) rfl rfl (by decide +kernel) ?_
        refine st_sld (p' := 640) (x := xs 2) rfl rfl (by decide) (by decide +kernel) (congrArg xs (by decide)) ?_
        refine st_aloadF (p' := 641) rfl rfl rfl ?_
        refine st_iload (p' := 643) rfl rfl rfl ?_
        refine st_push (p' := 644) rfl rfl ?_
        refine st_ii (p' := 645) (z := 3) rfl rfl (by decide +kernel) ?_
        refine st_sld (p' := 646) (x := xs 3) rfl rfl (by decide) (by decide +kernel) (congrArg xs (by decide)) ?_
        refine st_ifF (p' := 649) rfl (q_z' z_xs3) rfl ?_
        refine st_push (p' := 650) rfl rfl ?_
        refine st_goto rfl ?_
        refine st_aloadF (p' := 655) rfl rfl rfl ?_
        refine st_iload (p' := 657) rfl rfl rfl ?_
        refine st_push (p' := 658) rfl rfl ?_
        refine st_ii (p' := 659) (z := 4) rfl rfl (by decide +kernel) ?_
        refine st_sld (p' := 660) (x := xs 4) rfl rfl (by decide) (by decide +kernel) (congrArg xs (by decide)) ?_
        refine st_ifT (p' := 667) rfl (q_z z_xs4) rfl ?_
        refine st_push (p' := 668) rfl rfl ?_
        refine st_inv (p' := 671) (av := [.ref 82, .int (xs 1), .int (xs 2), .int 1, .int 0]) (s' := [.int b]) rfl rfl a2 rfl rfl (q_recv (g1 ..)) rfl rfl ?_
        refine st_istore (p' := 673) (l' := [(6, .int b), (5, .int r), (4, .int 0), (3, .ref 104), (2, .ref 82), (1, .ref 0), (0, .float 0)]) rfl rfl (by decide) rfl ?_
        refine st_aload (p' := 674) rfl rfl rfl ?_
        refine st_inv (p' := 677) (av := [.ref 82]) (s' := [.int r]) rfl rfl a3 rfl rfl (q_recv (g2 ..)) rfl rfl ?_
        refine st_iload (p' := 679) rfl rfl rfl ?_
        refine st_icT (p' := 684) rfl q_eqr rfl ?_
        refine st_iload (p' := 686) rfl rfl rfl ?_
        refine st_ifT (p' := 701) rfl (q_nz z_r) rfl ?_
        refine st_goto rfl ?_
        refine st_iinc (p' := 2119) (l' := [(4, .int 5), (6, .int b), (5, .int r), (3, .ref 104), (2, .ref 82), (1, .ref 0), (0, .float 0)]) (z := 5) rfl rfl (by decide) rfl (by decide) rfl ?_
        refine st_goto rfl ?_
        refine st_iload (p' := 25) rfl rfl rfl ?_
        refine st_aloadF (p' := 26) rfl rfl rfl ?_
        refine st_slen (p' := 27) (q := 5) rfl rfl (by decide) ?_
        refine st_push (p' := 28) rfl rfl ?_
        refine st_ii (p' := 29) (z := 0) rfl rfl (by decide +kernel) ?_
        refine st_icT (p' := 2122) rfl (by decide +kernel) rfl ?_
        refine st_push (p' := 2123) rfl rfl ?_
        exact st_ret_i rfl
    · obtain ⟨r, b, h1, h2, f1, f2, a1, g1, a2, g2, a3, g3, g4, g5⟩ := ha 1 1 (.inr rfl) (.inr rfl)
      refine ⟨h2, ?_, g4, g5⟩
      by_cases z_r : r = 0
      · refine st_iload (p' := 25) rfl rfl rfl ?_
        refine st_aloadF (p' := 26) rfl rfl rfl ?_
        refine st_slen (p' := 27) (q := 5) rfl rfl (by decide) ?_
        refine st_push (p' := 28) rfl rfl ?_
        refine st_ii (p' := 29) (z := 0) rfl rfl (by decide +kernel) ?_
        refine st_icF (p' := 32) rfl (by decide +kernel) rfl ?_
        refine st_aloadF (p' := 33) rfl rfl rfl ?_
        refine st_iload (p' := 35) rfl rfl rfl ?_
        refine st_sld (p' := 36) (x := xs 0) rfl rfl (by decide) (by decide +kernel) (congrArg xs (by decide)) ?_
        refine st_push (p' := 38) rfl rfl ?_
        refine st_ii (p' := 39) (z := 5) rfl rfl hk ?_
        refine st_tsw (p' := 580) rfl (by decide +kernel) ?_
        refine st_aload (p' := 581) rfl rfl rfl ?_
        refine st_aloadF (p' := 582) rfl rfl rfl ?_
        refine st_iload (p' := 584) rfl rfl rfl ?_
        refine st_push (p' := 585) rfl rfl ?_
        refine st_ii (p' := 586) (z := 1) rfl rfl (by decide +kernel) ?_
        refine st_sld (p' := 587) (x := xs 1) rfl rfl (by decide) (by decide +kernel) (congrArg xs (by decide)) ?_
        refine st_aloadF (p' := 588) rfl rfl rfl ?_
        refine st_iload (p' := 590) rfl rfl rfl ?_
        refine st_push (p' := 591) rfl rfl ?_
        refine st_ii (p' := 592) (z := 2) rfl rfl (by decide +kernel) ?_
        refine st_sld (p' := 593) (x := xs 2) rfl rfl (by decide) (by decide +kernel) (congrArg xs (by decide)) ?_
        refine st_aloadF (p' := 594) rfl rfl rfl ?_
        refine st_iload (p' := 596) rfl rfl rfl ?_
        refine st_push (p' := 597) rfl rfl ?_
        refine st_ii (p' := 598) (z := 3) rfl rfl (by decide +kernel) ?_
        refine st_sld (p' := 599) (x := xs 3) rfl rfl (by decide) (by decide +kernel) (congrArg xs (by decide)) ?_
        refine st_ifF (p' := 602) rfl (q_z' z_xs3) rfl ?_
        refine st_push (p' := 603) rfl rfl ?_
        refine st_goto rfl ?_
        refine st_aloadF (p' := 608) rfl rfl rfl ?_
        refine st_iload (p' := 610) rfl rfl rfl ?_
        refine st_push (p' := 611) rfl rfl ?_
        refine st_ii (p' := 612) (z := 4) rfl rfl (by decide +kernel) ?_
        refine st_sld (p' := 613) (x := xs 4) rfl rfl (by decide) (by decide +kernel) (congrArg xs (by decide)) ?_
        refine st_ifF (p' := 616) rfl (q_z' z_xs4) rfl ?_
        refine st_push (p' := 617) rfl rfl ?_
        refine st_goto rfl ?_
        refine st_aload (p' := 622) rfl rfl rfl ?_
        refine st_inv (p' := 625) (av := [.ref 0, .int (xs 1), .int (xs 2), .int 1, .int 1, .ref 104]) (s' := [.int r]) rfl rfl a1 rfl rfl rfl rfl rfl ?_
        refine st_istore (p' := 627) (l' := [(5, .int r), (4, .int 0), (3, .ref 104), (2, .ref 82), (1, .ref 0), (0, .float 0)]) rfl rfl (by decide) rfl ?_
        refine st_aload (p' := 628) rfl rfl rfl ?_
        refine st_aloadF (p' := 629) rfl rfl rfl ?_
        refine st_iload (p' := 631) rfl rfl rfl ?_
        refine st_push (p' := 632) rfl rfl ?_
        refine st_ii (p' := 633) (z := 1) rfl rfl (by decide +kernel) ?_
        refine st_sld (p' := 634) (x := xs 1) rfl rfl (by decide) (by decide +kernel) (congrArg xs (by decide)) ?_
        refine st_aloadF (p' := 635) rfl rfl rfl ?_
        refine st_iload (p' := 637) rfl rfl rfl ?_
        refine st_push (p' := 638) rfl rfl ?_
        refine st_ii (p' := 639) (z := 2) rfl rfl (by decide +kernel) ?_
        refine st_sld (p' := 640) (x := xs 2) rfl rfl (by decide) (by decide +kernel) (congrArg xs (by decide)) ?_
        refine st_aloadF (p' := 641) rfl rfl rfl ?_
        refine st_iload (p' := 643) rfl rfl rfl ?_
        refine st_push (p' := 644) rfl rfl ?_
        refine st_ii (p' := 645) (z := 3) rfl rfl (by decide +kernel) ?_
        refine st_sld (p' := 646) (x := xs 3) rfl rfl (by decide) (by decide +kernel) (congrArg xs (by decide)) ?_
        refine st_ifF (p' := 649) rfl (q_z' z_xs3) rfl ?_
        refine st_push (p' := 650) rfl rfl ?_
        refine st_goto rfl ?_
        refine st_aloadF (p' := 655) rfl rfl rfl ?_
        refine st_iload (p' := 657) rfl rfl rfl ?_
        refine st_push (p' := 658) rfl rfl ?_
        refine st_ii (p' := 659) (z := 4) rfl rfl (by decide +kernel) ?_
        refine st_sld (p' := 660) (x := xs 4) rfl rfl (by decide) (by decide +kernel) (congrArg xs (by decide)) ?_
        refine st_ifF (p' := 663) rfl (q_z' z_xs4) rfl ?_
        refine st_push (p' := 664) rfl rfl ?_
        refine st_goto rfl ?_
        refine st_inv (p' := 671) (av := [.ref 82, .int (xs 1), .int (xs 2), .int 1, .int 1]) (s' := [.int b]) rfl rfl a2 rfl rfl (q_recv (g1 ..)) rfl rfl ?_
        refine st_istore (p' := 673) (l' := [(6, .int b), (5, .int r), (4, .int 0), (3, .ref 104), (2, .ref 82), (1, .ref 0), (0, .float 0)]) rfl rfl (by decide) rfl ?_
        refine st_aload (p' := 674) rfl rfl rfl ?_
        refine st_inv (p' := 677) (av := [.ref 82]) (s' := [.int r]) rfl rfl a3 rfl rfl (q_recv (g2 ..)) rfl rfl ?_
        refine st_iload (p' := 679) rfl rfl rfl ?_
        refine st_icT (p' := 684) rfl q_eqr rfl ?_
        refine st_iload (p' := 686) rfl rfl rfl ?_
        refine st_ifF (p' := 689) rfl (q_nz' z_r) rfl ?_
        refine st_aload (p' := 690) rfl rfl rfl ?_
        refine st_push (p' := 691) rfl rfl ?_
        refine st_lld (p' := 692) (j := 0) (v := .long b.toInt64) rfl rfl (g3 z_r) (by decide) (by decide) rfl rfl ?_
        refine st_iload (p' := 694) rfl rfl rfl ?_
        refine st_i (p' := 695) (v := .long b.toInt64) rfl rfl rfl ?_
        refine st_ll (p' := 696) (v := .int 0) rfl rfl (q_cmp _) ?_
        refine st_ifT (p' := 701) rfl (by decide +kernel) rfl ?_
        refine st_goto rfl ?_
        refine st_iinc (p' := 2119) (l' := [(4, .int 5), (6, .int b), (5, .int r), (3, .ref 104), (2, .ref 82), (1, .ref 0), (0, .float 0)]) (z := 5) rfl rfl (by decide) rfl (by decide) rfl ?_
        refine st_goto rfl ?_
        refine st_iload (p' := 25) rfl rfl rfl ?_
        refine st_aloadF (p' := 26) rfl rfl rfl ?_
        refine st_slen (p' := 27) (q := 5) rfl rfl (by decide) ?_
        refine st_push (p' := 28) rfl rfl ?_
        refine st_ii (p' := 29) (z := 0) rfl rfl (by decide +kernel) ?_
        refine st_icT (p' := 2122) rfl (by decide +kernel) rfl ?_
        refine st_push (p' := 2123) rfl rfl ?_
        exact st_ret_i rfl
      · refine st_iload (p' := 25) rfl rfl rfl ?_
        refine st_aloadF (p' := 26) rfl rfl rfl ?_
        refine st_slen (p' := 27) (q := 5) rfl rfl (by decide) ?_
        refine st_push (p' := 28) rfl rfl ?_
        refine st_ii (p' := 29) (z := 0) rfl rfl (by decide +kernel) ?_
        refine st_icF (p' := 32) rfl (by decide +kernel) rfl ?_
        refine st_aloadF (p' := 33) rfl rfl rfl ?_
        refine st_iload (p' := 35) rfl rfl rfl ?_
        refine st_sld (p' := 36) (x := xs 0) rfl rfl (by decide) (by decide +kernel) (congrArg xs (by decide)) ?_
        refine st_push (p' := 38) rfl rfl ?_
        refine st_ii (p' := 39) (z := 5) rfl rfl hk ?_
        refine st_tsw (p' := 580) rfl (by decide +kernel) ?_
        refine st_aload (p' := 581) rfl rfl rfl ?_
        refine st_aloadF (p' := 582) rfl rfl rfl ?_
        refine st_iload (p' := 584) rfl rfl rfl ?_
        refine st_push (p' := 585) rfl rfl ?_
        refine st_ii (p' := 586) (z := 1) rfl rfl (by decide +kernel) ?_
        refine st_sld (p' := 587) (x := xs 1) rfl rfl (by decide) (by decide +kernel) (congrArg xs (by decide)) ?_
        refine st_aloadF (p' := 588) rfl rfl rfl ?_
        refine st_iload (p' := 590) rfl rfl rfl ?_
        refine st_push (p' := 591) rfl rfl ?_
        refine st_ii (p' := 592) (z := 2) rfl rfl (by decide +kernel) ?_
        refine st_sld (p' := 593) (x := xs 2) rfl rfl (by decide) (by decide +kernel) (congrArg xs (by decide)) ?_
        refine st_aloadF (p' := 594) rfl rfl rfl ?_
        refine st_iload (p' := 596) rfl rfl rfl ?_
        refine st_push (p' := 597) rfl rfl ?_
        refine st_ii (p' := 598) (z := 3) rfl rfl (by decide +kernel) ?_
        refine st_sld (p' := 599) (x := xs 3) rfl rfl (by decide) (by decide +kernel) (congrArg xs (by decide)) ?_
        refine st_ifF (p' := 602) rfl (q_z' z_xs3) rfl ?_
        refine st_push (p' := 603) rfl rfl ?_
        refine st_goto rfl ?_
        refine st_aloadF (p' := 608) rfl rfl rfl ?_
        refine st_iload (p' := 610) rfl rfl rfl ?_
        refine st_push (p' := 611) rfl rfl ?_
        refine st_ii (p' := 612) (z := 4) rfl rfl (by decide +kernel) ?_
        refine st_sld (p' := 613) (x := xs 4) rfl rfl (by decide) (by decide +kernel) (congrArg xs (by decide)) ?_
        refine st_ifF (p' := 616) rfl (q_z' z_xs4) rfl ?_
        refine st_push (p' := 617) rfl rfl ?_
        refine st_goto rfl ?_
        refine st_aload (p' := 622) rfl rfl rfl ?_
        refine st_inv (p' := 625) (av := [.ref 0, .int (xs 1), .int (xs 2), .int 1, .int 1, .ref 104]) (s' := [.int r]) rfl rfl a1 rfl rfl rfl rfl rfl ?_
        refine st_istore (p' := 627) (l' := [(5, .int r), (4, .int 0), (3, .ref 104), (2, .ref 82), (1, .ref 0), (0, .float 0)]) rfl rfl (by decide) rfl ?_
        refine st_aload (p' := 628) rfl rfl rfl ?_
        refine st_aloadF (p' := 629) rfl rfl rfl ?_
        refine st_iload (p' := 631) rfl rfl rfl ?_
        refine st_push (p' := 632) rfl rfl ?_
        refine st_ii (p' := 633) (z := 1) rfl rfl (by decide +kernel) ?_
        refine st_sld (p' := 634) (x := xs 1) rfl rfl (by decide) (by decide +kernel) (congrArg xs (by decide)) ?_
        refine st_aloadF (p' := 635) rfl rfl rfl ?_
        refine st_iload (p' := 637) rfl rfl rfl ?_
        refine st_push (p' := 638) rfl rfl ?_
        refine st_ii (p' := 639) (z := 2) rfl rfl (by decide +kernel) ?_
        refine st_sld (p' := 640) (x := xs 2) rfl rfl (by decide) (by decide +kernel) (congrArg xs (by decide)) ?_
        refine st_aloadF (p' := 641) rfl rfl rfl ?_
        refine st_iload (p' := 643) rfl rfl rfl ?_
        refine st_push (p' := 644) rfl rfl ?_
        refine st_ii (p' := 645) (z := 3) rfl rfl (by decide +kernel) ?_
        refine st_sld (p' := 646) (x := xs 3) rfl rfl (by decide) (by decide +kernel) (congrArg xs (by decide)) ?_
        refine st_ifF (p' := 649) rfl (q_z' z_xs3) rfl ?_
        refine st_push (p' := 650) rfl rfl ?_
        refine st_goto rfl ?_
        refine st_aloadF (p' := 655) rfl rfl rfl ?_
        refine st_iload (p' := 657) rfl rfl rfl ?_
        refine st_push (p' := 658) rfl rfl ?_
        refine st_ii (p' := 659) (z := 4) rfl rfl (by decide +kernel) ?_
        refine st_sld (p' := 660) (x := xs 4) rfl rfl (by decide) (by decide +kernel) (congrArg xs (by decide)) ?_
        refine st_ifF (p' := 663) rfl (q_z' z_xs4) rfl ?_
        refine st_push (p' := 664) rfl rfl ?_
        refine st_goto rfl ?_
        refine st_inv (p' := 671) (av := [.ref 82, .int (xs 1), .int (xs 2), .int 1, .int 1]) (s' := [.int b]) rfl rfl a2 rfl rfl (q_recv (g1 ..)) rfl rfl ?_
        refine st_istore (p' := 673) (l' := [(6, .int b), (5, .int r), (4, .int 0), (3, .ref 104), (2, .ref 82), (1, .ref 0), (0, .float 0)]) rfl rfl (by decide) rfl ?_
        refine st_aload (p' := 674) rfl rfl rfl ?_
        refine st_inv (p' := 677) (av := [.ref 82]) (s' := [.int r]) rfl rfl a3 rfl rfl (q_recv (g2 ..)) rfl rfl ?_
        refine st_iload (p' := 679) rfl rfl rfl ?_
        refine st_icT (p' := 684) rfl q_eqr rfl ?_
        refine st_iload (p' := 686) rfl rfl rfl ?_
        refine st_ifT (p' := 701) rfl (q_nz z_r) rfl ?_
        refine st_goto rfl ?_
        refine st_iinc (p' := 2119) (l' := [(4, .int 5), (6, .int b), (5, .int r), (3, .ref 104), (2, .ref 82), (1, .ref 0), (0, .float 0)]) (z := 5) rfl rfl (by decide) rfl (by decide) rfl ?_
        refine st_goto rfl ?_
        refine st_iload (p' := 25) rfl rfl rfl ?_
        refine st_aloadF (p' := 26) rfl rfl rfl ?_
        refine st_slen (p' := 27) (q := 5) rfl rfl (by decide) ?_
        refine st_push (p' := 28) rfl rfl ?_
        refine st_ii (p' := 29) (z := 0) rfl rfl (by decide +kernel) ?_
        refine st_icT (p' := 2122) rfl (by decide +kernel) rfl ?_
        refine st_push (p' := 2123) rfl rfl ?_
        exact st_ret_i rfl
