theorem law_common (xs : Nat → Int32) (hk : xs 0 &&& 31 = 6) (ha : agree 299 245 [.ref 0, .int (xs 1), .int (xs 2), .int (xs 3), .int (xs 4), .ref 104] [.ref 82, .int (xs 1), .int (xs 2), .int (xs 3), .int (xs 4)]) : LawOk xs := by
  obtain ⟨r, b, h1, h2, f1, f2, a1, g1, a2, g2, a3, g3, g4, g5⟩ := ha
  refine ⟨h2, ?_, g4, g5⟩
  by_cases z_r : r = 0
  · refine st_iload (p' := 25) rfl rfl rfl ?_
    refine st_aloadF (p' := 26) rfl rfl rfl ?_
    refine st_slen (p' := 27) (q := 5) rfl rfl (by decide) ?_
    refine st_push (p' := 28) rfl rfl ?_
    refine st_ii (p' := 29) (z := 0) rfl rfl (by decide +kernel) ?_
    refine st_icF (p' := 32) rfl (by decide +kernel) rfl ?_
    refine st_aloadF (p' := 33) rfl rfl rfl ?_
    refine st_iload (p' := 35) rfl rfl rfl ?_
    refine st_sld (p' := 36) (x := xs 0) rfl rfl (by decide) (by decide +kernel) (congrArg xs (by decide)) ?_
    refine st_push (p' := 38) rfl rfl ?_
    refine st_ii (p' := 39) (z := 6) rfl rfl hk ?_
    refine st_tsw (p' := 704) rfl (by decide +kernel) ?_
    refine st_aload (p' := 705) rfl rfl rfl ?_
    refine st_aloadF (p' := 706) rfl rfl rfl ?_
    refine st_iload (p' := 708) rfl rfl rfl ?_
    refine st_push (p' := 709) rfl rfl ?_
    refine st_ii (p' := 710) (z := 1) rfl rfl (by decide +kernel) ?_
    refine st_sld (p' := 711) (x := xs 1) rfl rfl (by decide) (by decide +kernel) (congrArg xs (by decide)) ?_
    refine st_aloadF (p' := 712) rfl rfl rfl ?_
    refine st_iload (p' := 714) rfl rfl rfl ?_
    refine st_push (p' := 715) rfl rfl ?_
    refine st_ii (p' := 716) (z := 2) rfl rfl (by decide +kernel) ?_
    refine st_sld (p' := 717) (x := xs 2) rfl rfl (by decide) (by decide +kernel) (congrArg xs (by decide)) ?_
    refine st_aloadF (p' := 718) rfl rfl rfl ?_
    refine st_iload (p' := 720) rfl rfl rfl ?_
    refine st_push (p' := 721) rfl rfl ?_
    refine st_ii (p' := 722) (z := 3) rfl rfl (by decide +kernel) ?_
    refine st_sld (p' := 723) (x := xs 3) rfl rfl (by decide) (by decide +kernel) (congrArg xs (by decide)) ?_
    refine st_aloadF (p' := 724) rfl rfl rfl ?_
    refine st_iload (p' := 726) rfl rfl rfl ?_
    refine st_push (p' := 727) rfl rfl ?_
    refine st_ii (p' := 728) (z := 4) rfl rfl (by decide +kernel) ?_
    refine st_sld (p' := 729) (x := xs 4) rfl rfl (by decide) (by decide +kernel) (congrArg xs (by decide)) ?_
    refine st_aload (p' := 730) rfl rfl rfl ?_
    refine st_inv (p' := 733) (av := [.ref 0, .int (xs 1), .int (xs 2), .int (xs 3), .int (xs 4), .ref 104]) (s' := [.int r]) rfl rfl a1 rfl rfl rfl rfl rfl ?_
    refine st_istore (p' := 735) (l' := [(5, .int r), (4, .int 0), (3, .ref 104), (2, .ref 82), (1, .ref 0), (0, .float 0)]) rfl rfl (by decide) rfl ?_
    refine st_aload (p' := 736) rfl rfl rfl ?_
    refine st_aloadF (p' := 737) rfl rfl rfl ?_
    refine st_iload (p' := 739) rfl rfl rfl ?_
    refine st_push (p' := 740) rfl rfl ?_
    refine st_ii (p' := 741) (z := 1) rfl rfl (by decide +kernel) ?_
    refine st_sld (p' := 742) (x := xs 1) rfl rfl (by decide) (by decide +kernel) (congrArg xs (by decide)) ?_
    refine st_aloadF (p' := 743) rfl rfl rfl ?_
    refine st_iload (p' := 745) rfl rfl rfl ?_
    refine st_push (p' := 746) rfl rfl ?_
    refine st_ii (p' := 747) (z := 2) rfl rfl (by decide +kernel) ?_
    refine st_sld (p' := 748) (x := xs 2) rfl rfl (by decide) (by decide +kernel) (congrArg xs (by decide)) ?_
    refine st_aloadF (p' := 749) rfl rfl rfl ?_
    refine st_iload (p' := 751) rfl rfl rfl ?_
    refine st_push (p' := 752) rfl rfl ?_
    refine st_ii (p' := 753) (z := 3) rfl rfl (by decide +kernel) ?_
    refine st_sld (p' := 754) (x := xs 3) rfl rfl (by decide) (by decide +kernel) (congrArg xs (by decide)) ?_
    refine st_aloadF (p' := 755) rfl rfl rfl ?_
    refine st_iload (p' := 757) rfl rfl rfl ?_
    refine st_push (p' := 758) rfl rfl ?_
    refine st_ii (p' := 759) (z := 4) rfl rfl (by decide +kernel) ?_
    refine st_sld (p' := 760) (x := xs 4) rfl rfl (by decide) (by decide +kernel) (congrArg xs (by decide)) ?_
    refine st_inv (p' := 763) (av := [.ref 82, .int (xs 1), .int (xs 2), .int (xs 3), .int (xs 4)]) (s' := [.int b]) rfl rfl a2 rfl rfl (q_recv (g1 ..)) rfl rfl ?_
    refine st_istore (p' := 765) (l' := [(6, .int b), (5, .int r), (4, .int 0), (3, .ref 104), (2, .ref 82), (1, .ref 0), (0, .float 0)]) rfl rfl (by decide) rfl ?_
    refine st_aload (p' := 766) rfl rfl rfl ?_
    refine st_inv (p' := 769) (av := [.ref 82]) (s' := [.int r]) rfl rfl a3 rfl rfl (q_recv (g2 ..)) rfl rfl ?_
    refine st_iload (p' := 771) rfl rfl rfl ?_
    refine st_icT (p' := 776) rfl q_eqr rfl ?_
    refine st_iload (p' := 778) rfl rfl rfl ?_
    refine st_ifF (p' := 781) rfl (q_nz' z_r) rfl ?_
    refine st_aload (p' := 782) rfl rfl rfl ?_
    refine st_push (p' := 783) rfl rfl ?_
    refine st_lld (p' := 784) (j := 0) (v := .long b.toInt64) rfl rfl (g3 z_r) (by decide) (by decide) rfl rfl ?_
    refine st_iload (p' := 786) rfl rfl rfl ?_
    refine st_i (p' := 787) (v := .long b.toInt64) rfl rfl rfl ?_
    refine st_ll (p' := 788) (v := .int 0) rfl rfl (q_cmp _) ?_
    refine st_ifT (p' := 793) rfl (by decide +kernel) rfl ?_
    refine st_goto rfl ?_
    refine st_iinc (p' := 2119) (l' := [(4, .int 5), (6, .int b), (5, .int r), (3, .ref 104), (2, .ref 82), (1, .ref 0), (0, .float 0)]) (z := 5) rfl rfl (by decide) rfl (by decide) rfl ?_
    refine st_goto rfl ?_
    refine st_iload (p' := 25) rfl rfl rfl ?_
    refine st_aloadF (p' := 26) rfl rfl rfl ?_
    refine st_slen (p' := 27) (q := 5) rfl rfl (by decide) ?_
    refine st_push (p' := 28) rfl rfl ?_
    refine st_ii (p' := 29) (z := 0) rfl rfl (by decide +kernel) ?_
    refine st_icT (p' := 2122) rfl (by decide +kernel) rfl ?_
    refine st_push (p' := 2123) rfl rfl ?_
    exact st_ret_i rfl
  · refine st_iload (p' := 25) rfl rfl rfl ?_
    refine st_aloadF (p' := 26) rfl rfl rfl ?_
    refine st_slen (p' := 27) (q := 5) rfl rfl (by decide) ?_
    refine st_push (p' := 28) rfl rfl ?_
    refine st_ii (p' := 29) (z := 0) rfl rfl (by decide +kernel) ?_
    refine st_icF (p' := 32) rfl (by decide +kernel) rfl ?_
    refine st_aloadF (p' := 33) rfl rfl rfl ?_
    refine st_iload (p' := 35) rfl rfl rfl ?_
    refine st_sld (p' := 36) (x := xs 0) rfl rfl (by decide) (by decide +kernel) (congrArg xs (by decide)) ?_
    refine st_push (p' := 38) rfl rfl ?_
    refine st_ii (p' := 39) (z := 6) rfl rfl hk ?_
    refine st_tsw (p' := 704) rfl (by decide +kernel) ?_
    refine st_aload (p' := 705) rfl rfl rfl ?_
    refine st_aloadF (p' := 706) rfl rfl rfl ?_
    refine st_iload (p' := 708) rfl rfl rfl ?_
    refine st_push (p' := 709) rfl rfl ?_
    refine st_ii (p' := 710) (z := 1) rfl rfl (by decide +kernel) ?_
    refine st_sld (p' := 711) (x := xs 1) rfl rfl (by decide) (by decide +kernel) (congrArg xs (by decide)) ?_
    refine st_aloadF (p' := 712) rfl rfl rfl ?_
    refine st_iload (p' := 714) rfl rfl rfl ?_
    refine st_push (p' := 715) rfl rfl ?_
    refine st_ii (p' := 716) (z := 2) rfl rfl (by decide +kernel) ?_
    refine st_sld (p' := 717) (x := xs 2) rfl rfl (by decide) (by decide +kernel) (congrArg xs (by decide)) ?_
    refine st_aloadF (p' := 718) rfl rfl rfl ?_
    refine st_iload (p' := 720) rfl rfl rfl ?_
    refine st_push (p' := 721) rfl rfl ?_
    refine st_ii (p' := 722) (z := 3) rfl rfl (by decide +kernel) ?_
    refine st_sld (p' := 723) (x := xs 3) rfl rfl (by decide) (by decide +kernel) (congrArg xs (by decide)) ?_
    refine st_aloadF (p' := 724) rfl rfl rfl ?_
    refine st_iload (p' := 726) rfl rfl rfl ?_
    refine st_push (p' := 727) rfl rfl ?_
    refine st_ii (p' := 728) (z := 4) rfl rfl (by decide +kernel) ?_
    refine st_sld (p' := 729) (x := xs 4) rfl rfl (by decide) (by decide +kernel) (congrArg xs (by decide)) ?_
    refine st_aload (p' := 730) rfl rfl rfl ?_
    refine st_inv (p' := 733) (av := [.ref 0, .int (xs 1), .int (xs 2), .int (xs 3), .int (xs 4), .ref 104]) (s' := [.int r]) rfl rfl a1 rfl rfl rfl rfl rfl ?_
    refine st_istore (p' := 735) (l' := [(5, .int r), (4, .int 0), (3, .ref 104), (2, .ref 82), (1, .ref 0), (0, .float 0)]) rfl rfl (by decide) rfl ?_
    refine st_aload (p' := 736) rfl rfl rfl ?_
    refine st_aloadF (p' := 737) rfl rfl rfl ?_
    refine st_iload (p' := 739) rfl rfl rfl ?_
    refine st_push (p' := 740) rfl rfl ?_
    refine st_ii (p' := 741) (z := 1) rfl rfl (by decide +kernel) ?_
    refine st_sld (p' := 742) (x := xs 1) rfl rfl (by decide) (by decide +kernel) (congrArg xs (by decide)) ?_
    refine st_aloadF (p' := 743) rfl rfl rfl ?_
    refine st_iload (p' := 745) rfl rfl rfl ?_
    refine st_push (p' := 746) rfl rfl ?_
    refine st_ii (p' := 747) (z := 2) rfl rfl (by decide +kernel) ?_
    refine st_sld (p' := 748) (x := xs 2) rfl rfl (by decide) (by decide +kernel) (congrArg xs (by decide)) ?_
    refine st_aloadF (p' := 749) rfl rfl rfl ?_
    refine st_iload (p' := 751) rfl rfl rfl ?_
    refine st_push (p' := 752) rfl rfl ?_
    refine st_ii (p' := 753) (z := 3) rfl rfl (by decide +kernel) ?_
    refine st_sld (p' := 754) (x := xs 3) rfl rfl (by decide) (by decide +kernel) (congrArg xs (by decide)) ?_
    refine st_aloadF (p' := 755) rfl rfl rfl ?_
    refine st_iload (p' := 757) rfl rfl rfl ?_
    refine st_push (p' := 758) rfl rfl ?_
    refine st_ii (p' := 759) (z := 4) rfl rfl (by decide +kernel) ?_
    refine st_sld (p' := 760) (x := xs 4) rfl rfl (by decide) (by decide +kernel) (congrArg xs (by decide)) ?_
    refine st_inv (p' := 763) (av := [.ref 82, .int (xs 1), .int (xs 2), .int (xs 3), .int (xs 4)]) (s' := [.int b]) rfl rfl a2 rfl rfl (q_recv (g1 ..)) rfl rfl ?_
    refine st_istore (p' := 765) (l' := [(6, .int b), (5, .int r), (4, .int 0), (3, .ref 104), (2, .ref 82), (1, .ref 0), (0, .float 0)]) rfl rfl (by decide) rfl ?_
    refine st_aload (p' := 766) rfl rfl rfl ?_
    refine st_inv (p' := 769) (av := [.ref 82]) (s' := [.int r]) rfl rfl a3 rfl rfl (q_recv (g2 ..)) rfl rfl ?_
    refine st_iload (p' := 771) rfl rfl rfl ?_
    refine st_icT (p' := 776) rfl q_eqr rfl ?_
    refine st_iload (p' := 778) rfl rfl rfl ?_
    refine st_ifT (p' := 793) rfl (q_nz z_r) rfl ?_
    refine st_goto rfl ?_
    refine st_iinc (p' := 2119) (l' := [(4, .int 5), (6, .int b), (5, .int r), (3, .ref 104), (2, .ref 82), (1, .ref 0), (0, .float 0)]) (z := 5) rfl rfl (by decide) rfl (by decide) rfl ?_
    refine st_goto rfl ?_
    refine st_iload (p' := 25) rfl rfl rfl ?_
    refine st_aloadF (p' := 26) rfl rfl rfl ?_
    refine st_slen (p' := 27) (q := 5) rfl rfl (by decide) ?_
    refine st_push (p' := 28) rfl rfl ?_
    refine st_ii (p' := 29) (z := 0) rfl rfl (by decide +kernel) ?_
    refine st_icT (p' := 2122) rfl (by decide +kernel) rfl ?_
    refine st_push (p' := 2123) rfl rfl ?_
    exact st_ret_i rfl
theorem law_item (xs : Nat → Int32) (hk : xs 0 &&& 31 = 7) (ha : agree 300 247 [.ref 0, .int (xs 1), .int (xs 2), .ref 104] [.ref 82, .int (xs 1), .int (xs 2)]) : LawOk xs := by
  obtain ⟨r, b, h1, h2, f1, f2, a1, g1, a2, g2, a3, g3, g4, g5⟩ := ha
  refine ⟨h2, ?_, g4, g5⟩
  by_cases z_r : r = 0
  · refine st_iload (p' := 25) rfl rfl rfl ?_
    refine st_aloadF (p' := 26) rfl rfl rfl ?_
    refine st_slen (p' := 27) (q := 5) rfl rfl (by decide) ?_
    refine st_push (p' := 28) rfl rfl ?_
    refine st_ii (p' := 29) (z := 0) rfl rfl (by decide +kernel) ?_
    refine st_icF (p' := 32) rfl (by decide +kernel) rfl ?_
    refine st_aloadF (p' := 33) rfl rfl rfl ?_
    refine st_iload (p' := 35) rfl rfl rfl ?_
    refine st_sld (p' := 36) (x := xs 0) rfl rfl (by decide) (by decide +kernel) (congrArg xs (by decide)) ?_
    refine st_push (p' := 38) rfl rfl ?_
    refine st_ii (p' := 39) (z := 7) rfl rfl hk ?_
    refine st_tsw (p' := 796) rfl (by decide +kernel) ?_
    refine st_aload (p' := 797) rfl rfl rfl ?_
    refine st_aloadF (p' := 798) rfl rfl rfl ?_
    refine st_iload (p' := 800) rfl rfl rfl ?_
    refine st_push (p' := 801) rfl rfl ?_
    refine st_ii (p' := 802) (z := 1) rfl rfl (by decide +kernel) ?_
    refine st_sld (p' := 803) (x := xs 1) rfl rfl (by decide) (by decide +kernel) (congrArg xs (by decide)) ?_
    refine st_aloadF (p' := 804) rfl rfl rfl ?_
    refine st_iload (p' := 806) rfl rfl rfl ?_
    refine st_push (p' := 807) rfl rfl ?_
    refine st_ii (p' := 808) (z := 2) rfl rfl (by decide +kernel) ?_
    refine st_sld (p' := 809) (x := xs 2) rfl rfl (by decide) (by decide +kernel) (congrArg xs (by decide)) ?_
    refine st_aload (p' := 810) rfl rfl rfl ?_
    refine st_inv (p' := 813) (av := [.ref 0, .int (xs 1), .int (xs 2), .ref 104]) (s' := [.int r]) rfl rfl a1 rfl rfl rfl rfl rfl ?_
    refine st_istore (p' := 815) (l' := [(5, .int r), (4, .int 0), (3, .ref 104), (2, .ref 82), (1, .ref 0), (0, .float 0)]) rfl rfl (by decide) rfl ?_
    refine st_aload (p' := 816) rfl rfl rfl ?_
    refine st_aloadF (p' := 817) rfl rfl rfl ?_
    refine st_iload (p' := 819) rfl rfl rfl ?_
    refine st_push (p' := 820) rfl rfl ?_
    refine st_ii (p' := 821) (z := 1) rfl rfl (by decide +kernel) ?_
    refine st_sld (p' := 822) (x := xs 1) rfl rfl (by decide) (by decide +kernel) (congrArg xs (by decide)) ?_
    refine st_aloadF (p' := 823) rfl rfl rfl ?_
    refine st_iload (p' := 825) rfl rfl rfl ?_
    refine st_push (p' := 826) rfl rfl ?_
    refine st_ii (p' := 827) (z := 2) rfl rfl (by decide +kernel) ?_
    refine st_sld (p' := 828) (x := xs 2) rfl rfl (by decide) (by decide +kernel) (congrArg xs (by decide)) ?_
    refine st_inv (p' := 831) (av := [.ref 82, .int (xs 1), .int (xs 2)]) (s' := [.int b]) rfl rfl a2 rfl rfl (q_recv (g1 ..)) rfl rfl ?_
    refine st_istore (p' := 833) (l' := [(6, .int b), (5, .int r), (4, .int 0), (3, .ref 104), (2, .ref 82), (1, .ref 0), (0, .float 0)]) rfl rfl (by decide) rfl ?_
    refine st_aload (p' := 834) rfl rfl rfl ?_
    refine st_inv (p' := 837) (av := [.ref 82]) (s' := [.int r]) rfl rfl a3 rfl rfl (q_recv (g2 ..)) rfl rfl ?_
    refine st_iload (p' := 839) rfl rfl rfl ?_
    refine st_icT (p' := 844) rfl q_eqr rfl ?_
    refine st_iload (p' := 846) rfl rfl rfl ?_
    refine st_ifF (p' := 849) rfl (q_nz' z_r) rfl ?_
    refine st_aload (p' := 850) rfl rfl rfl ?_
    refine st_push (p' := 851) rfl rfl ?_
    refine st_lld (p' := 852) (j := 0) (v := .long b.toInt64) rfl rfl (g3 z_r) (by decide) (by decide) rfl rfl ?_
    refine st_iload (p' := 854) rfl rfl rfl ?_
    refine st_i (p' := 855) (v := .long b.toInt64) rfl rfl rfl ?_
    refine st_ll (p' := 856) (v := .int 0) rfl rfl (q_cmp _) ?_
    refine st_ifT (p' := 861) rfl (by decide +kernel) rfl ?_
    refine st_goto rfl ?_
    refine st_iinc (p' := 2119) (l' := [(4, .int 5), (6, .int b), (5, .int r), (3, .ref 104), (2, .ref 82), (1, .ref 0), (0, .float 0)]) (z := 5) rfl rfl (by decide) rfl (by decide) rfl ?_
    refine st_goto rfl ?_
    refine st_iload (p' := 25) rfl rfl rfl ?_
    refine st_aloadF (p' := 26) rfl rfl rfl ?_
    refine st_slen (p' := 27) (q := 5) rfl rfl (by decide) ?_
    refine st_push (p' := 28) rfl rfl ?_
    refine st_ii (p' := 29) (z := 0) rfl rfl (by decide +kernel) ?_
    refine st_icT (p' := 2122) rfl (by decide +kernel) rfl ?_
    refine st_push (p' := 2123) rfl rfl ?_
    exact st_ret_i rfl
  · refine st_iload (p' := 25) rfl rfl rfl ?_
    refine st_aloadF (p' := 26) rfl rfl rfl ?_
    refine st_slen (p' := 27) (q := 5) rfl rfl (by decide) ?_
    refine st_push (p' := 28) rfl rfl ?_
    refine st_ii (p' := 29) (z := 0) rfl rfl (by decide +kernel) ?_
    refine st_icF (p' := 32) rfl (by decide +kernel) rfl ?_
    refine st_aloadF (p' := 33) rfl rfl rfl ?_
    refine st_iload (p' := 35) rfl rfl rfl ?_
    refine st_sld (p' := 36) (x := xs 0) rfl rfl (by decide) (by decide +kernel) (congrArg xs (by decide)) ?_
    refine st_push (p' := 38) rfl rfl ?_
    refine st_ii (p' := 39) (z := 7) rfl rfl hk ?_
    refine st_tsw (p' := 796) rfl (by decide +kernel) ?_
    refine st_aload (p' := 797) rfl rfl rfl ?_
    refine st_aloadF (p' := 798) rfl rfl rfl ?_
    refine st_iload (p' := 800) rfl rfl rfl ?_
    refine st_push (p' := 801) rfl rfl ?_
    refine st_ii (p' := 802) (z := 1) rfl rfl (by decide +kernel) ?_
    refine st_sld (p' := 803) (x := xs 1) rfl rfl (by decide) (by decide +kernel) (congrArg xs (by decide)) ?_
    refine st_aloadF (p' := 804) rfl rfl rfl ?_
    refine st_iload (p' := 806) rfl rfl rfl ?_
    refine st_push (p' := 807) rfl rfl ?_
    refine st_ii (p' := 808) (z := 2) rfl rfl (by decide +kernel) ?_
    refine st_sld (p' := 809) (x := xs 2) rfl rfl (by decide) (by decide +kernel) (congrArg xs (by decide)) ?_
    refine st_aload (p' := 810) rfl rfl rfl ?_
    refine st_inv (p' := 813) (av := [.ref 0, .int (xs 1), .int (xs 2), .ref 104]) (s' := [.int r]) rfl rfl a1 rfl rfl rfl rfl rfl ?_
    refine st_istore (p' := 815) (l' := [(5, .int r), (4, .int 0), (3, .ref 104), (2, .ref 82), (1, .ref 0), (0, .float 0)]) rfl rfl (by decide) rfl ?_
    refine st_aload (p' := 816) rfl rfl rfl ?_
    refine st_aloadF (p' := 817) rfl rfl rfl ?_
    refine st_iload (p' := 819) rfl rfl rfl ?_
    refine st_push (p' := 820) rfl rfl ?_
    refine st_ii (p' := 821) (z := 1) rfl rfl (by decide +kernel) ?_
    refine st_sld (p' := 822) (x := xs 1) rfl rfl (by decide) (by decide +kernel) (congrArg xs (by decide)) ?_
    refine st_aloadF (p' := 823) rfl rfl rfl ?_
    refine st_iload (p' := 825) rfl rfl rfl ?_
    refine st_push (p' := 826) rfl rfl ?_
    refine st_ii (p' := 827) (z := 2) rfl rfl (by decide +kernel) ?_
    refine st_sld (p' := 828) (x := xs 2) rfl rfl (by decide) (by decide +kernel) (congrArg xs (by decide)) ?_
    refine st_inv (p' := 831) (av := [.ref 82, .int (xs 1), .int (xs 2)]) (s' := [.int b]) rfl rfl a2 rfl rfl (q_recv (g1 ..)) rfl rfl ?_
    refine st_istore (p' := 833) (l' := [(6, .int b), (5, .int r), (4, .int 0), (3, .ref 104), (2, .ref 82), (1, .ref 0), (0, .float 0)]) rfl rfl (by decide) rfl ?_
    refine st_aload (p' := 834) rfl rfl rfl ?_
    refine st_inv (p' := 837) (av := [.ref 82]) (s' := [.int r]) rfl rfl a3 rfl rfl (q_recv (g2 ..)) rfl rfl ?_
    refine st_iload (p' := 839) rfl rfl rfl ?_
    refine st_icT (p' := 844) rfl q_eqr rfl ?_
    refine st_iload (p' := 846) rfl rfl rfl ?_
    refine st_ifT (p' := 861) rfl (q_nz z_r) rfl ?_
    refine st_goto rfl ?_
    refine st_iinc (p' := 2119) (l' := [(4, .int 5), (6, .int b), (5, .int r), (3, .ref 104), (2, .ref 82), (1, .ref 0), (0, .float 0)]) (z := 5) rfl rfl (by decide) rfl (by decide) rfl ?_
    refine st_goto rfl ?_
    refine st_iload (p' := 25) rfl rfl rfl ?_
    refine st_aloadF (p' := 26) rfl rfl rfl ?_
    refine st_slen (p' := 27) (q := 5) rfl rfl (by decide) ?_
    refine st_push (p' := 28) rfl rfl ?_
    refine st_ii (p' := 29) (z := 0) rfl rfl (by decide +kernel) ?_
    refine st_icT (p' := 2122) rfl (by decide +kernel) rfl ?_
    refine st_push (p' := 2123) rfl rfl ?_
    exact st_ret_i rfl
noncomputable def cl_clear : Bool := match ev_call mt pg 3000 12 169 [.ref 0] (hG 40 9999 0 40 9999 0 105 8641) with
  | some (.inl (some v1), h1) => decide (v1 = .int 0) && (match (h1.1[82]? : Option EC) with
    | some (.inr c1, _) => Nat.beq c1 13 && (match ev_call mt pg 3000 12 248 [.ref 82] h1 with
      | some (.inl (some v2), h2) => decide (v2 = .int 0) && (Nat.ble h2.2.1 600002 && Nat.ble h2.2.2 7302231)
      | _ => false)
    | _ => false)
  | _ => false
theorem cl_clear_t : cl_clear = true := by decide +kernel
theorem cl_clear_x : ∃ (h1 h2 : EH) (f1 : List Value), ev_call mt pg 3000 12 169 [.ref 0] (hG 40 9999 0 40 9999 0 105 8641) = some (.inl (some (.int 0)), h1) ∧ h1.1[82]? = some (.inr 13, f1) ∧ ev_call mt pg 3000 12 248 [.ref 82] h1 = some (.inl (some (.int 0)), h2) ∧ h2.2.1 ≤ 600002 ∧ h2.2.2 ≤ 7302231 := by
  have h := cl_clear_t
  unfold cl_clear at h
  split at h
  · rename_i v1 h1 e1
    obtain ⟨a1, h⟩ := Bool.and_eq_true_iff.mp h
    split at h
    · rename_i c1 f1 e2
      obtain ⟨a2, h⟩ := Bool.and_eq_true_iff.mp h
      split at h
      · rename_i v2 h2 e3
        obtain ⟨a3, h⟩ := Bool.and_eq_true_iff.mp h
        obtain ⟨a4, a5⟩ := Bool.and_eq_true_iff.mp h
        rw [Nat.eq_of_beq_eq_true a2] at e2
        rw [of_decide_eq_true a1] at e1
        rw [of_decide_eq_true a3] at e3
        exact ⟨h1, h2, f1, e1, e2, e3, Nat.le_of_ble_eq_true a4, Nat.le_of_ble_eq_true a5⟩
      · cases h
    · cases h
  · cases h
theorem law_clear (xs : Nat → Int32) (hk : xs 0 &&& 31 = 8) : LawOk xs := by
  obtain ⟨h1, h2, f1, a1, g1, a2, g4, g5⟩ := cl_clear_x
  refine ⟨h2, ?_, g4, g5⟩
  refine st_iload (p' := 25) rfl rfl rfl ?_
  refine st_aloadF (p' := 26) rfl rfl rfl ?_
  refine st_slen (p' := 27) (q := 5) rfl rfl (by decide) ?_
  refine st_push (p' := 28) rfl rfl ?_
  refine st_ii (p' := 29) (z := 0) rfl rfl (by decide +kernel) ?_
  refine st_icF (p' := 32) rfl (by decide +kernel) rfl ?_
  refine st_aloadF (p' := 33) rfl rfl rfl ?_
  refine st_iload (p' := 35) rfl rfl rfl ?_
  refine st_sld (p' := 36) (x := xs 0) rfl rfl (by decide) (by decide +kernel) (congrArg xs (by decide)) ?_
  refine st_push (p' := 38) rfl rfl ?_
  refine st_ii (p' := 39) (z := 8) rfl rfl hk ?_
  refine st_tsw (p' := 864) rfl (by decide +kernel) ?_
  refine st_aload (p' := 865) rfl rfl rfl ?_
  refine st_inv (p' := 868) (av := [.ref 0]) (s' := [.int 0]) rfl rfl a1 rfl rfl (q_recv (hG_x ..)) rfl rfl ?_
  refine st_aload (p' := 869) rfl rfl rfl ?_
  refine st_inv (p' := 872) (av := [.ref 82]) (s' := [.int 0, .int 0]) rfl rfl a2 rfl rfl (q_recv (g1 ..)) rfl rfl ?_
  refine st_icT (p' := 2116) rfl (by decide +kernel) rfl ?_
  refine st_iinc (p' := 2119) (l' := [(4, .int 5), (3, .ref 104), (2, .ref 82), (1, .ref 0), (0, .float 0)]) (z := 5) rfl rfl (by decide) rfl (by decide) rfl ?_
  refine st_goto rfl ?_
  refine st_iload (p' := 25) rfl rfl rfl ?_
  refine st_aloadF (p' := 26) rfl rfl rfl ?_
  refine st_slen (p' := 27) (q := 5) rfl rfl (by decide) ?_
  refine st_push (p' := 28) rfl rfl ?_
  refine st_ii (p' := 29) (z := 0) rfl rfl (by decide +kernel) ?_
  refine st_icT (p' := 2122) rfl (by decide +kernel) rfl ?_
  refine st_push (p' := 2123) rfl rfl ?_
  exact st_ret_i rfl
theorem law_ofObject (xs : Nat → Int32) (hk : xs 0 &&& 31 = 9) (ha : agree 301 251 [.ref 0, .int (xs 1), .int (xs 2), .ref 104] [.ref 82, .int (xs 1), .int (xs 2)]) : LawOk xs := by
  obtain ⟨r, b, h1, h2, f1, f2, a1, g1, a2, g2, a3, g3, g4, g5⟩ := ha
  refine ⟨h2, ?_, g4, g5⟩
  by_cases z_r : r = 0
  · refine st_iload (p' := 25) rfl rfl rfl ?_
    refine st_aloadF (p' := 26) rfl rfl rfl ?_
    refine st_slen (p' := 27) (q := 5) rfl rfl (by decide) ?_
    refine st_push (p' := 28) rfl rfl ?_
    refine st_ii (p' := 29) (z := 0) rfl rfl (by decide +kernel) ?_
    refine st_icF (p' := 32) rfl (by decide +kernel) rfl ?_
    refine st_aloadF (p' := 33) rfl rfl rfl ?_
    refine st_iload (p' := 35) rfl rfl rfl ?_
    refine st_sld (p' := 36) (x := xs 0) rfl rfl (by decide) (by decide +kernel) (congrArg xs (by decide)) ?_
    refine st_push (p' := 38) rfl rfl ?_
    refine st_ii (p' := 39) (z := 9) rfl rfl hk ?_
    refine st_tsw (p' := 877) rfl (by decide +kernel) ?_
    refine st_aload (p' := 878) rfl rfl rfl ?_
    refine st_aloadF (p' := 879) rfl rfl rfl ?_
    refine st_iload (p' := 881) rfl rfl rfl ?_
    refine st_push (p' := 882) rfl rfl ?_
    refine st_ii (p' := 883) (z := 1) rfl rfl (by decide +kernel) ?_
    refine st_sld (p' := 884) (x := xs 1) rfl rfl (by decide) (by decide +kernel) (congrArg xs (by decide)) ?_
    refine st_aloadF (p' := 885) rfl rfl rfl ?_
    refine st_iload (p' := 887) rfl rfl rfl ?_
    refine st_push (p' := 888) rfl rfl ?_
    refine st_ii (p' := 889) (z := 2) rfl rfl (by decide +kernel) ?_
    refine st_sld (p' := 890) (x := xs 2) rfl rfl (by decide) (by decide +kernel) (congrArg xs (by decide)) ?_
    refine st_aload (p' := 891) rfl rfl rfl ?_
    refine st_inv (p' := 894) (av := [.ref 0, .int (xs 1), .int (xs 2), .ref 104]) (s' := [.int r]) rfl rfl a1 rfl rfl rfl rfl rfl ?_
    refine st_istore (p' := 896) (l' := [(5, .int r), (4, .int 0), (3, .ref 104), (2, .ref 82), (1, .ref 0), (0, .float 0)]) rfl rfl (by decide) rfl ?_
    refine st_aload (p' := 897) rfl rfl rfl ?_
    refine st_aloadF (p' := 898) rfl rfl rfl ?_
    refine st_iload (p' := 900) rfl rfl rfl ?_
    refine st_push (p' := 901) rfl rfl ?_
    refine st_ii (p' := 902) (z := 1) rfl rfl (by decide +kernel) ?_
    refine st_sld (p' := 903) (x := xs 1) rfl rfl (by decide) (by decide +kernel) (congrArg xs (by decide)) ?_
    refine st_aloadF (p' := 904) rfl rfl rfl ?_
    refine st_iload (p' := 906) rfl rfl rfl ?_
    refine st_push (p' := 907) rfl rfl ?_
    refine st_ii (p' := 908) (z := 2) rfl rfl (by decide +kernel) ?_
    refine st_sld (p' := 909) (x := xs 2) rfl rfl (by decide) (by decide +kernel) (congrArg xs (by decide)) ?_
    refine st_inv (p' := 912) (av := [.ref 82, .int (xs 1), .int (xs 2)]) (s' := [.int b]) rfl rfl a2 rfl rfl (q_recv (g1 ..)) rfl rfl ?_
    refine st_istore (p' := 914) (l' := [(6, .int b), (5, .int r), (4, .int 0), (3, .ref 104), (2, .ref 82), (1, .ref 0), (0, .float 0)]) rfl rfl (by decide) rfl ?_
    refine st_aload (p' := 915) rfl rfl rfl ?_
    refine st_inv (p' := 918) (av := [.ref 82]) (s' := [.int r]) rfl rfl a3 rfl rfl (q_recv (g2 ..)) rfl rfl ?_
    refine st_iload (p' := 920) rfl rfl rfl ?_
    refine st_icT (p' := 925) rfl q_eqr rfl ?_
    refine st_iload (p' := 927) rfl rfl rfl ?_
    refine st_ifF (p' := 930) rfl (q_nz' z_r) rfl ?_
    refine st_aload (p' := 931) rfl rfl rfl ?_
    refine st_push (p' := 932) rfl rfl ?_
    refine st_lld (p' := 933) (j := 0) (v := .long b.toInt64) rfl rfl (g3 z_r) (by decide) (by decide) rfl rfl ?_
    refine st_iload (p' := 935) rfl rfl rfl ?_
    refine st_i (p' := 936) (v := .long b.toInt64) rfl rfl rfl ?_
    refine st_ll (p' := 937) (v := .int 0) rfl rfl (q_cmp _) ?_
    refine st_ifT (p' := 942) rfl (by decide +kernel) rfl ?_
    refine st_goto rfl ?_
    refine st_iinc (p' := 2119) (l' := [(4, .int 5), (6, .int b), (5, .int r), (3, .ref 104), (2, .ref 82), (1, .ref 0), (0, .float 0)]) (z := 5) rfl rfl (by decide) rfl (by decide) rfl ?_
    refine st_goto rfl ?_
    refine st_iload (p' := 25) rfl rfl rfl ?_
    refine st_aloadF (p' := 26) rfl rfl rfl ?_
    refine st_slen (p' := 27) (q := 5) rfl rfl (by decide) ?_
    refine st_push (p' := 28) rfl rfl ?_
    refine st_ii (p' := 29) (z := 0) rfl rfl (by decide +kernel) ?_
    refine st_icT (p' := 2122) rfl (by decide +kernel) rfl ?_
    refine st_push (p' := 2123) rfl rfl ?_
    exact st_ret_i rfl
  · refine st_iload (p' := 25) rfl rfl rfl ?_
    refine st_aloadF (p' := 26) rfl rfl rfl ?_
    refine st_slen (p' := 27) (q := 5) rfl rfl (by decide) ?_
    refine st_push (p' := 28) rfl rfl ?_
    refine st_ii (p' := 29) (z := 0) rfl rfl (by decide +kernel) ?_
    refine st_icF (p' := 32) rfl (by decide +kernel) rfl ?_
    refine st_aloadF (p' := 33) rfl rfl rfl ?_
    refine st_iload (p' := 35) rfl rfl rfl ?_
    refine st_sld (p' := 36) (x := xs 0) rfl rfl (by decide) (by decide +kernel) (congrArg xs (by decide)) ?_
    refine st_push (p' := 38) rfl rfl ?_
    refine st_ii (p' := 39) (z := 9) rfl rfl hk ?_
    refine st_tsw (p' := 877) rfl (by decide +kernel) ?_
    refine st_aload (p' := 878) rfl rfl rfl ?_
    refine st_aloadF (p' := 879) rfl rfl rfl ?_
    refine st_iload (p' := 881) rfl rfl rfl ?_
    refine st_push (p' := 882) rfl rfl ?_
    refine st_ii (p' := 883) (z := 1) rfl rfl (by decide +kernel) ?_
    refine st_sld (p' := 884) (x := xs 1) rfl rfl (by decide) (by decide +kernel) (congrArg xs (by decide)) ?_
    refine st_aloadF (p' := 885) rfl rfl rfl ?_
    refine st_iload (p' := 887) rfl rfl rfl ?_
    refine st_push (p' := 888) rfl rfl ?_
    refine st_ii (p' := 889) (z := 2) rfl rfl (by decide +kernel) ?_
    refine st_sld (p' := 890) (x := xs 2) rfl rfl (by decide) (by decide +kernel) (congrArg xs (by decide)) ?_
    refine st_aload (p' := 891) rfl rfl rfl ?_
    refine st_inv (p' := 894) (av := [.ref 0, .int (xs 1), .int (xs 2), .ref 104]) (s' := [.int r]) rfl rfl a1 rfl rfl rfl rfl rfl ?_
    refine st_istore (p' := 896) (l' := [(5, .int r), (4, .int 0), (3, .ref 104), (2, .ref 82), (1, .ref 0), (0, .float 0)]) rfl rfl (by decide) rfl ?_
    refine st_aload (p' := 897) rfl rfl rfl ?_
    refine st_aloadF (p' := 898) rfl rfl rfl ?_
    refine st_iload (p' := 900) rfl rfl rfl ?_
    refine st_push (p' := 901) rfl rfl ?_
    refine st_ii (p' := 902) (z := 1) rfl rfl (by decide +kernel) ?_
    refine st_sld (p' := 903) (x := xs 1) rfl rfl (by decide) (by decide +kernel) (congrArg xs (by decide)) ?_
    refine st_aloadF (p' := 904) rfl rfl rfl ?_
    refine st_iload (p' := 906) rfl rfl rfl ?_
    refine st_push (p' := 907) rfl rfl ?_
    refine st_ii (p' := 908) (z := 2) rfl rfl (by decide +kernel) ?_
    refine st_sld (p' := 909) (x := xs 2) rfl rfl (by decide) (by decide +kernel) (congrArg xs (by decide)) ?_
    refine st_inv (p' := 912) (av := [.ref 82, .int (xs 1), .int (xs 2)]) (s' := [.int b]) rfl rfl a2 rfl rfl (q_recv (g1 ..)) rfl rfl ?_
    refine st_istore (p' := 914) (l' := [(6, .int b), (5, .int r), (4, .int 0), (3, .ref 104), (2, .ref 82), (1, .ref 0), (0, .float 0)]) rfl rfl (by decide) rfl ?_
    refine st_aload (p' := 915) rfl rfl rfl ?_
    refine st_inv (p' := 918) (av := [.ref 82]) (s' := [.int r]) rfl rfl a3 rfl rfl (q_recv (g2 ..)) rfl rfl ?_
    refine st_iload (p' := 920) rfl rfl rfl ?_
    refine st_icT (p' := 925) rfl q_eqr rfl ?_
    refine st_iload (p' := 927) rfl rfl rfl ?_
    refine st_ifT (p' := 942) rfl (q_nz z_r) rfl ?_
    refine st_goto rfl ?_
    refine st_iinc (p' := 2119) (l' := [(4, .int 5), (6, .int b), (5, .int r), (3, .ref 104), (2, .ref 82), (1, .ref 0), (0, .float 0)]) (z := 5) rfl rfl (by decide) rfl (by decide) rfl ?_
    refine st_goto rfl ?_
    refine st_iload (p' := 25) rfl rfl rfl ?_
    refine st_aloadF (p' := 26) rfl rfl rfl ?_
    refine st_slen (p' := 27) (q := 5) rfl rfl (by decide) ?_
    refine st_push (p' := 28) rfl rfl ?_
    refine st_ii (p' := 29) (z := 0) rfl rfl (by decide +kernel) ?_
    refine st_icT (p' := 2122) rfl (by decide +kernel) rfl ?_
    refine st_push (p' := 2123) rfl rfl ?_
    exact st_ret_i rfl
theorem law_bounds (xs : Nat → Int32) (hk : xs 0 &&& 31 = 10) (ha : agree 302 252 [.ref 0, .int (xs 1), .int (xs 2), .ref 104] [.ref 82, .int (xs 1), .int (xs 2)]) : LawOk xs := by
  obtain ⟨r, b, h1, h2, f1, f2, a1, g1, a2, g2, a3, g3, g4, g5⟩ := ha
  refine ⟨h2, ?_, g4, g5⟩
  by_cases z_r : r = 0
  · refine st_iload (p' := 25) rfl rfl rfl ?_
    refine st_aloadF (p' := 26) rfl rfl rfl ?_
    refine st_slen (p' := 27) (q := 5) rfl rfl (by decide) ?_
    refine st_push (p' := 28) rfl rfl ?_
    refine st_ii (p' := 29) (z := 0) rfl rfl (by decide +kernel) ?_
    refine st_icF (p' := 32) rfl (by decide +kernel) rfl ?_
    refine st_aloadF (p' := 33) rfl rfl rfl ?_
    refine st_iload (p' := 35) rfl rfl rfl ?_
    refine st_sld (p' := 36) (x := xs 0) rfl rfl (by decide) (by decide +kernel) (congrArg xs (by decide)) ?_
    refine st_push (p' := 38) rfl rfl ?_
    refine st_ii (p' := 39) (z := 10) rfl rfl hk ?_
    refine st_tsw (p' := 945) rfl (by decide +kernel) ?_
    refine st_aload (p' := 946) rfl rfl rfl ?_
    refine st_aloadF (p' := 947) rfl rfl rfl ?_
    refine st_iload (p' := 949) rfl rfl rfl ?_
    refine st_push (p' := 950) rfl rfl ?_
    refine st_ii (p' := 951) (z := 1) rfl rfl (by decide +kernel) ?_
    refine st_sld (p' := 952) (x := xs 1) rfl rfl (by decide) (by decide +kernel) (congrArg xs (by decide)) ?_
    refine st_aloadF (p' := 953) rfl rfl rfl ?_
    refine st_iload (p' := 955) rfl rfl rfl ?_
    refine st_push (p' := 956) rfl rfl ?_
    refine st_ii (p' := 957) (z := 2) rfl rfl (by decide +kernel) ?_
    refine st_sld (p' := 958) (x := xs 2) rfl rfl (by decide) (by decide +kernel) (congrArg xs (by decide)) ?_
    refine st_aload (p' := 959) rfl rfl rfl ?_
    refine st_inv (p' := 962) (av := [.ref 0, .int (xs 1), .int (xs 2), .ref 104]) (s' := [.int r]) rfl rfl a1 rfl rfl rfl rfl rfl ?_
    refine st_istore (p' := 964) (l' := [(5, .int r), (4, .int 0), (3, .ref 104), (2, .ref 82), (1, .ref 0), (0, .float 0)]) rfl rfl (by decide) rfl ?_
    refine st_aload (p' := 965) rfl rfl rfl ?_
    refine st_aloadF (p' := 966) rfl rfl rfl ?_
    refine st_iload (p' := 968) rfl rfl rfl ?_
    refine st_push (p' := 969) rfl rfl ?_
    refine st_ii (p' := 970) (z := 1) rfl rfl (by decide +kernel) ?_
    refine st_sld (p' := 971) (x := xs 1) rfl rfl (by decide) (by decide +kernel) (congrArg xs (by decide)) ?_
    refine st_aloadF (p' := 972) rfl rfl rfl ?_
    refine st_iload (p' := 974) rfl rfl rfl ?_
    refine st_push (p' := 975) rfl rfl ?_
    refine st_ii (p' := 976) (z := 2) rfl rfl (by decide +kernel) ?_
    refine st_sld (p' := 977) (x := xs 2) rfl rfl (by decide) (by decide +kernel) (congrArg xs (by decide)) ?_
    refine st_inv (p' := 980) (av := [.ref 82, .int (xs 1), .int (xs 2)]) (s' := [.int b]) rfl rfl a2 rfl rfl (q_recv (g1 ..)) rfl rfl ?_
    refine st_istore (p' := 982) (l' := [(6, .int b), (5, .int r), (4, .int 0), (3, .ref 104), (2, .ref 82), (1, .ref 0), (0, .float 0)]) rfl rfl (by decide) rfl ?_
    refine st_aload (p' := 983) rfl rfl rfl ?_
    refine st_inv (p' := 986) (av := [.ref 82]) (s' := [.int r]) rfl rfl a3 rfl rfl (q_recv (g2 ..)) rfl rfl ?_
    refine st_iload (p' := 988) rfl rfl rfl ?_
    refine st_icT (p' := 993) rfl q_eqr rfl ?_
    refine st_iload (p' := 995) rfl rfl rfl ?_
    refine st_ifF (p' := 998) rfl (q_nz' z_r) rfl ?_
    refine st_aload (p' := 999) rfl rfl rfl ?_
    refine st_push (p' := 1000) rfl rfl ?_
    refine st_lld (p' := 1001) (j := 0) (v := .long b.toInt64) rfl rfl (g3 z_r) (by decide) (by decide) rfl rfl ?_
    refine st_iload (p' := 1003) rfl rfl rfl ?_
    refine st_i (p' := 1004) (v := .long b.toInt64) rfl rfl rfl ?_
    refine st_ll (p' := 1005) (v := .int 0) rfl rfl (q_cmp _) ?_
    refine st_ifT (p' := 1010) rfl (by decide +kernel) rfl ?_
    refine st_goto rfl ?_
    refine st_iinc (p' := 2119) (l' := [(4, .int 5), (6, .int b), (5, .int r), (3, .ref 104), (2, .ref 82), (1, .ref 0), (0, .float 0)]) (z := 5) rfl rfl (by decide) rfl (by decide) rfl ?_
    refine st_goto rfl ?_
    refine st_iload (p' := 25) rfl rfl rfl ?_
    refine st_aloadF (p' := 26) rfl rfl rfl ?_
    refine st_slen (p' := 27) (q := 5) rfl rfl (by decide) ?_
    refine st_push (p' := 28) rfl rfl ?_
    refine st_ii (p' := 29) (z := 0) rfl rfl (by decide +kernel) ?_
    refine st_icT (p' := 2122) rfl (by decide +kernel) rfl ?_
    refine st_push (p' := 2123) rfl rfl ?_
    exact st_ret_i rfl
  · refine st_iload (p' := 25) rfl rfl rfl ?_
    refine st_aloadF (p' := 26) rfl rfl rfl ?_
    refine st_slen (p' := 27) (q := 5) rfl rfl (by decide) ?_
    refine st_push (p' := 28) rfl rfl ?_
    refine st_ii (p' := 29) (z := 0) rfl rfl (by decide +kernel) ?_
    refine st_icF (p' := 32) rfl (by decide +kernel) rfl ?_
    refine st_aloadF (p' := 33) rfl rfl rfl ?_
    refine st_iload (p' := 35) rfl rfl rfl ?_
    refine st_sld (p' := 36) (x := xs 0) rfl rfl (by decide) (by decide +kernel) (congrArg xs (by decide)) ?_
    refine st_push (p' := 38) rfl rfl ?_
    refine st_ii (p' := 39) (z := 10) rfl rfl hk ?_
    refine st_tsw (p' := 945) rfl (by decide +kernel) ?_
    refine st_aload (p' := 946) rfl rfl rfl ?_
    refine st_aloadF (p' := 947) rfl rfl rfl ?_
    refine st_iload (p' := 949) rfl rfl rfl ?_
    refine st_push (p' := 950) rfl rfl ?_
    refine st_ii (p' := 951) (z := 1) rfl rfl (by decide +kernel) ?_
    refine st_sld (p' := 952) (x := xs 1) rfl rfl (by decide) (by decide +kernel) (congrArg xs (by decide)) ?_
    refine st_aloadF (p' := 953) rfl rfl rfl ?_
    refine st_iload (p' := 955) rfl rfl rfl ?_
    refine st_push (p' := 956) rfl rfl ?_
    refine st_ii (p' := 957) (z := 2) rfl rfl (by decide +kernel) ?_
    refine st_sld (p' := 958) (x := xs 2) rfl rfl (by decide) (by decide +kernel) (congrArg xs (by decide)) ?_
    refine st_aload (p' := 959) rfl rfl rfl ?_
    refine st_inv (p' := 962) (av := [.ref 0, .int (xs 1), .int (xs 2), .ref 104]) (s' := [.int r]) rfl rfl a1 rfl rfl rfl rfl rfl ?_
    refine st_istore (p' := 964) (l' := [(5, .int r), (4, .int 0), (3, .ref 104), (2, .ref 82), (1, .ref 0), (0, .float 0)]) rfl rfl (by decide) rfl ?_
    refine st_aload (p' := 965) rfl rfl rfl ?_
    refine st_aloadF (p' := 966) rfl rfl rfl ?_
    refine st_iload (p' := 968) rfl rfl rfl ?_
    refine st_push (p' := 969) rfl rfl ?_
    refine st_ii (p' := 970) (z := 1) rfl rfl (by decide +kernel) ?_
    refine st_sld (p' := 971) (x := xs 1) rfl rfl (by decide) (by decide +kernel) (congrArg xs (by decide)) ?_
    refine st_aloadF (p' := 972) rfl rfl rfl ?_
    refine st_iload (p' := 974) rfl rfl rfl ?_
    refine st_push (p' := 975) rfl rfl ?_
    refine st_ii (p' := 976) (z := 2) rfl rfl (by decide +kernel) ?_
    refine st_sld (p' := 977) (x := xs 2) rfl rfl (by decide) (by decide +kernel) (congrArg xs (by decide)) ?_
    refine st_inv (p' := 980) (av := [.ref 82, .int (xs 1), .int (xs 2)]) (s' := [.int b]) rfl rfl a2 rfl rfl (q_recv (g1 ..)) rfl rfl ?_
    refine st_istore (p' := 982) (l' := [(6, .int b), (5, .int r), (4, .int 0), (3, .ref 104), (2, .ref 82), (1, .ref 0), (0, .float 0)]) rfl rfl (by decide) rfl ?_
    refine st_aload (p' := 983) rfl rfl rfl ?_
    refine st_inv (p' := 986) (av := [.ref 82]) (s' := [.int r]) rfl rfl a3 rfl rfl (q_recv (g2 ..)) rfl rfl ?_
    refine st_iload (p' := 988) rfl rfl rfl ?_
    refine st_icT (p' := 993) rfl q_eqr rfl ?_
    refine st_iload (p' := 995) rfl rfl rfl ?_
    refine st_ifT (p' := 1010) rfl (q_nz z_r) rfl ?_
    refine st_goto rfl ?_
    refine st_iinc (p' := 2119) (l' := [(4, .int 5), (6, .int b), (5, .int r), (3, .ref 104), (2, .ref 82), (1, .ref 0), (0, .float 0)]) (z := 5) rfl rfl (by decide) rfl (by decide) rfl ?_
    refine st_goto rfl ?_
    refine st_iload (p' := 25) rfl rfl rfl ?_
    refine st_aloadF (p' := 26) rfl rfl rfl ?_
    refine st_slen (p' := 27) (q := 5) rfl rfl (by decide) ?_
    refine st_push (p' := 28) rfl rfl ?_
    refine st_ii (p' := 29) (z := 0) rfl rfl (by decide +kernel) ?_
    refine st_icT (p' := 2122) rfl (by decide +kernel) rfl ?_
    refine st_push (p' := 2123) rfl rfl ?_
    exact st_ret_i rfl
theorem law_link (xs : Nat → Int32) (hk : xs 0 &&& 31 = 11) (ha : ∀ b0 : Int32, (b0 = 0 ∨ b0 = 1) → agree 303 253 [.ref 0, .int (xs 1), .int b0, .ref 104] [.ref 82, .int (xs 1), .int b0]) : LawOk xs := by
  by_cases z_xs2 : (xs 2) = 0
  · obtain ⟨r, b, h1, h2, f1, f2, a1, g1, a2, g2, a3, g3, g4, g5⟩ := ha 0 (.inl rfl)
    refine ⟨h2, ?_, g4, g5⟩
    by_cases z_r : r = 0
    · refine st_iload (p' := 25) rfl rfl rfl ?_
      refine st_aloadF (p' := 26) rfl rfl rfl ?_
      refine st_slen (p' := 27) (q := 5) rfl rfl (by decide) ?_
      refine st_push (p' := 28) rfl rfl ?_
      refine st_ii (p' := 29) (z := 0) rfl rfl (by decide +kernel) ?_
      refine st_icF (p' := 32) rfl (by decide +kernel) rfl ?_
      refine st_aloadF (p' := 33) rfl rfl rfl ?_
      refine st_iload (p' := 35) rfl rfl rfl ?_
      refine st_sld (p' := 36) (x := xs 0) rfl rfl (by decide) (by decide +kernel) (congrArg xs (by decide)) ?_
      refine st_push (p' := 38) rfl rfl ?_
      refine st_ii (p' := 39) (z := 11) rfl rfl hk ?_
      refine st_tsw (p' := 1013) rfl (by decide +kernel) ?_
      refine st_aload (p' := 1014) rfl rfl rfl ?_
      refine st_aloadF (p' := 1015) rfl rfl rfl ?_
      refine st_iload (p' := 1017) rfl rfl rfl ?_
      refine st_push (p' := 1018) rfl rfl ?_
      refine st_ii (p' := 1019) (z := 1) rfl rfl (by decide +kernel) ?_
      refine st_sld (p' := 1020) (x := xs 1) rfl rfl (by decide) (by decide +kernel) (congrArg xs (by decide)) ?_
      refine st_aloadF (p' := 1021) rfl rfl rfl ?_
      refine st_iload (p' := 1023) rfl rfl rfl ?_
      refine st_push (p' := 1024) rfl rfl ?_
      refine st_ii (p' := 1025) (z := 2) rfl rfl (by decide +kernel) ?_
      refine st_sld (p' := 1026) (x := xs 2) rfl rfl (by decide) (by decide +kernel) (congrArg xs (by decide)) ?_
      refine st_ifT (p' := 1033) rfl (q_z z_xs2) rfl ?_
      refine st_push (p' := 1034) rfl rfl ?_
      refine st_aload (p' := 1035) rfl rfl rfl ?_
      refine st_inv (p' := 1038) (av := [.ref 0, .int (xs 1), .int 0, .ref 104]) (s' := [.int r]) rfl rfl a1 rfl rfl rfl rfl rfl ?_
      refine st_istore (p' := 1040) (l' := [(5, .int r), (4, .int 0), (3, .ref 104), (2, .ref 82), (1, .ref 0), (0, .float 0)]) rfl rfl (by decide) rfl ?_
      refine st_aload (p' := 1041) rfl rfl rfl ?_
      refine st_aloadF (p' := 1042) rfl rfl rfl ?_
      refine st_iload (p' := 1044) rfl rfl rfl ?_
      refine st_push (p' := 1045) rfl rfl ?_
      refine st_ii (p' := 1046) (z := 1) rfl rfl (by decide +kernel) ?_
      refine st_sld (p' := 1047) (x := xs 1) rfl rfl (by decide) (by decide +kernel) (congrArg xs (by decide)) ?_
      refine st_aloadF (p' := 1048) rfl rfl rfl ?_
      refine st_iload (p' := 1050) rfl rfl rfl ?_
      refine st_push (p' := 1051) rfl rfl ?_
      refine st_ii (p' := 1052) (z := 2) rfl rfl (by decide +kernel) ?_
      refine st_sld (p' := 1053) (x := xs 2) rfl rfl (by decide) (by decide +kernel) (congrArg xs (by decide)) ?_
      refine st_ifT (p' := 1060) rfl (q_z z_xs2) rfl ?_
      refine st_push (p' := 1061) rfl rfl ?_
      refine st_inv (p' := 1064) (av := [.ref 82, .int (xs 1), .int 0]) (s' := [.int b]) rfl rfl a2 rfl rfl (q_recv (g1 ..)) rfl rfl ?_
      refine st_istore (p' := 1066) (l' := [(6, .int b), (5, .int r), (4, .int 0), (3, .ref 104), (2, .ref 82), (1, .ref 0), (0, .float 0)]) rfl rfl (by decide) rfl ?_
      refine st_aload (p' := 1067) rfl rfl rfl ?_
      refine st_inv (p' := 1070) (av := [.ref 82]) (s' := [.int r]) rfl rfl a3 rfl rfl (q_recv (g2 ..)) rfl rfl ?_
      refine st_iload (p' := 1072) rfl rfl rfl ?_
      refine st_icT (p' := 1077) rfl q_eqr rfl ?_
      refine st_iload (p' := 1079) rfl rfl rfl ?_
      refine st_ifF (p' := 1082) rfl (q_nz' z_r) rfl ?_
      refine st_aload (p' := 1083) rfl rfl rfl ?_
      refine st_push (p' := 1084) rfl rfl ?_
      refine st_lld (p' := 1085) (j := 0) (v := .long b.toInt64) rfl rfl (g3 z_r) (by decide) (by decide) rfl rfl ?_
      refine st_iload (p' := 1087) rfl rfl rfl ?_
      refine st_i (p' := 1088) (v := .long b.toInt64) rfl rfl rfl ?_
      refine st_ll (p' := 1089) (v := .int 0) rfl rfl (q_cmp _) ?_
      refine st_ifT (p' := 1094) rfl (by decide +kernel) rfl ?_
      refine st_goto rfl ?_
      refine st_iinc (p' := 2119) (l' := [(4, .int 5), (6, .int b), (5, .int r), (3, .ref 104), (2, .ref 82), (1, .ref 0), (0, .float 0)]) (z := 5) rfl rfl (by decide) rfl (by decide) rfl ?_
      refine st_goto rfl ?_
      refine st_iload (p' := 25) rfl rfl rfl ?_
      refine st_aloadF (p' := 26) rfl rfl rfl ?_
      refine st_slen (p' := 27) (q := 5) rfl rfl (by decide) ?_
      refine st_push (p' := 28) rfl rfl ?_
      refine st_ii (p' := 29) (z := 0) rfl rfl (by decide +kernel) ?_
      refine st_icT (p' := 2122) rfl (by decide +kernel) rfl ?_
      refine st_push (p' := 2123) rfl rfl ?_
      exact st_ret_i rfl
    · refine st_iload (p' := 25) rfl rfl rfl ?_
      refine st_aloadF (p' := 26) rfl rfl rfl ?_
      refine st_slen (p' := 27) (q := 5) rfl rfl (by decide) ?_
      refine st_push (p' := 28) rfl rfl ?_
      refine st_ii (p' := 29) (z := 0) rfl rfl (by decide +kernel) ?_
      refine st_icF (p' := 32) rfl (by decide +kernel) rfl ?_
      refine st_aloadF (p' := 33) rfl rfl rfl ?_
      refine st_iload (p' := 35) rfl rfl rfl ?_
      refine st_sld (p' := 36) (x := xs 0) rfl rfl (by decide) (by decide +kernel) (congrArg xs (by decide)) ?_
      refine st_push (p' := 38) rfl rfl ?_
      refine st_ii (p' := 39) (z := 11) rfl rfl hk ?_
      refine st_tsw (p' := 1013) rfl (by decide +kernel) ?_
      refine st_aload (p' := 1014) rfl rfl rfl ?_
      refine st_aloadF (p' := 1015) rfl rfl rfl ?_
      refine st_iload (p' := 1017) rfl rfl rfl ?_
      refine st_push (p' := 1018) rfl rfl ?_
      refine st_ii (p' := 1019) (z := 1) rfl rfl (by decide +kernel) ?_
      refine st_sld (p' := 1020) (x := xs 1) rfl rfl (by decide) (by decide +kernel) (congrArg xs (by decide)) ?_
      refine st_aloadF (p' := 1021) rfl rfl rfl ?_
      refine st_iload (p' := 1023) rfl rfl rfl ?_
      refine st_push (p' := 1024) rfl rfl ?_
      refine st_ii (p' := 1025) (z := 2) rfl rfl (by decide +kernel) ?_
      refine st_sld (p' := 1026) (x := xs 2) rfl rfl (by decide) (by decide +kernel) (congrArg xs (by decide)) ?_
      refine st_ifT (p' := 1033) rfl (q_z z_xs2) rfl ?_
      refine st_push (p' := 1034) rfl rfl ?_
      refine st_aload (p' := 1035) rfl rfl rfl ?_
      refine st_inv (p' := 1038) (av := [.ref 0, .int (xs 1), .int 0, .ref 104]) (s' := [.int r]) rfl rfl a1 rfl rfl rfl rfl rfl ?_
      refine st_istore (p' := 1040) (l' := [(5, .int r), (4, .int 0), (3, .ref 104), (2, .ref 82), (1, .ref 0), (0, .float 0)]) rfl rfl (by decide) rfl ?_
      refine st_aload (p' := 1041) rfl rfl rfl ?_
      refine st_aloadF (p' := 1042) rfl rfl rfl ?_
      refine st_iload (p' := 1044) rfl rfl rfl ?_
      refine st_push (p' := 1045) rfl rfl ?_
      refine st_ii (p' := 1046) (z := 1) rfl rfl (by decide +kernel) ?_
      refine st_sld (p' := 1047) (x := xs 1) rfl rfl (by decide) (by decide +kernel) (congrArg xs (by decide)) ?_
      refine st_aloadF (p' := 1048) rfl rfl rfl ?_
      refine st_iload (p' := 1050) rfl rfl rfl ?_
      refine st_push (p' := 1051) rfl rfl ?_
      refine st_ii (p' := 1052) (z := 2) rfl rfl (by decide +kernel) ?_
      refine st_sld (p' := 1053) (x := xs 2) rfl rfl (by decide) (by decide +kernel) (congrArg xs (by decide)) ?_
      refine st_ifT (p' := 1060) rfl (q_z z_xs2) rfl ?_
      refine st_push (p' := 1061) rfl rfl ?_
      refine st_inv (p' := 1064) (av := [.ref 82, .int (xs 1), .int 0]) (s' := [.int b]) rfl rfl a2 rfl rfl (q_recv (g1 ..)) rfl rfl ?_
      refine st_istore (p' := 1066) (l' := [(6, .int b), (5, .int r), (4, .int 0), (3, .ref 104), (2, .ref 82), (1, .ref 0), (0, .float 0)]) rfl rfl (by decide) rfl ?_
      refine st_aload (p' := 1067) rfl rfl rfl ?_
      refine st_inv (p' := 1070) (av := [.ref 82]) (s' := [.int r]) rfl rfl a3 rfl rfl (q_recv (g2 ..)) rfl rfl ?_
      refine st_iload (p' := 1072) rfl rfl rfl ?_
      refine st_icT (p' := 1077) rfl q_eqr rfl ?_
      refine st_iload (p' := 1079) rfl rfl rfl ?_
      refine st_ifT (p' := 1094) rfl (q_nz z_r) rfl ?_
      refine st_goto rfl ?_
      refine st_iinc (p' := 2119) (l' := [(4, .int 5), (6, .int b), (5, .int r), (3, .ref 104), (2, .ref 82), (1, .ref 0), (0, .float 0)]) (z := 5) rfl rfl (by decide) rfl (by decide) rfl ?_
      refine st_goto rfl ?_
      refine st_iload (p' := 25) rfl rfl rfl ?_
      refine st_aloadF (p' := 26) rfl rfl rfl ?_
      refine st_slen (p' := 27) (q := 5) rfl rfl (by decide) ?_
      refine st_push (p' := 28) rfl rfl ?_
      refine st_ii (p' := 29) (z := 0) rfl rfl (by decide +kernel) ?_
      refine st_icT (p' := 2122) rfl (by decide +kernel) rfl ?_
      refine st_push (p' := 2123) rfl rfl ?_
      exact st_ret_i rfl
  · obtain ⟨r, b, h1, h2, f1, f2, a1, g1, a2, g2, a3, g3, g4, g5⟩ := ha 1 (.inr rfl)
    refine ⟨h2, ?_, g4, g5⟩
    by_cases z_r : r = 0
    · refine st_iload (p' := 25) rfl rfl rfl ?_
      refine st_aloadF (p' := 26) rfl rfl rfl ?_
      refine st_slen (p' := 27) (q := 5) rfl rfl (by decide) ?_
      refine st_push (p' := 28) rfl rfl ?_
      refine st_ii (p' := 29) (z := 0) rfl rfl (by decide +kernel) ?_
      refine st_icF (p' := 32) rfl (by decide +kernel) rfl ?_
      refine st_aloadF (p' := 33) rfl rfl rfl ?_
      refine st_iload (p' := 35) rfl rfl rfl ?_
      refine st_sld (p' := 36) (x := xs 0) rfl rfl (by decide) (by decide +kernel) (congrArg xs (by decide)) ?_
      refine st_push (p' := 38) rfl rfl ?_
      refine st_ii (p' := 39) (z := 11) rfl rfl hk ?_
      refine st_tsw (p' := 1013) rfl (by decide +kernel) ?_
      refine st_aload (p' := 1014) rfl rfl rfl ?_
      refine st_aloadF (p' := 1015) rfl rfl rfl ?_
      refine st_iload (p' := 1017) rfl rfl rfl ?_
      refine st_push (p' := 1018) rfl rfl ?_
      refine st_ii (p' := 1019) (z := 1) rfl rfl (by decide +kernel) ?_
      refine st_sld (p' := 1020) (x := xs 1) rfl rfl (by decide) (by decide +kernel) (congrArg xs (by decide)) ?_
      refine st_aloadF (p' := 1021) rfl rfl rfl ?_
      refine st_iload (p' := 1023) rfl rfl rfl ?_
      refine st_push (p' := 1024) rfl rfl ?_
      refine st_ii (p' := 1025) (z := 2) rfl rfl (by decide +kernel) ?_
      refine st_sld (p' := 1026) (x := xs 2) rfl rfl (by decide) (by decide +kernel) (congrArg xs (by decide)) ?_
      refine st_ifF (p' := 1029) rfl (q_z' z_xs2) rfl ?_
      refine st_push (p' := 1030) rfl rfl ?_
      refine st_goto rfl ?_
      refine st_aload (p' := 1035) rfl rfl rfl ?_
      refine st_inv (p' := 1038) (av := [.ref 0, .int (xs 1), .int 1, .ref 104]) (s' := [.int r]) rfl rfl a1 rfl rfl rfl rfl rfl ?_
      refine st_istore (p' := 1040) (l' := [(5, .int r), (4, .int 0), (3, .ref 104), (2, .ref 82), (1, .ref 0), (0, .float 0)]) rfl rfl (by decide) rfl ?_
      refine st_aload (p' := 1041) rfl rfl rfl ?_
      refine st_aloadF (p' := 1042) rfl rfl rfl ?_
      refine st_iload (p' := 1044) rfl rfl rfl ?_
      refine st_push (p' := 1045) rfl rfl ?_
      refine st_ii (p' := 1046) (z := 1) rfl rfl (by decide +kernel) ?_
      refine st_sld (p' := 1047) (x := xs 1) rfl rfl (by decide) (by decide +kernel) (congrArg xs (by decide)) ?_
      refine st_aloadF (p' := 1048) rfl rfl rfl ?_
      refine st_iload (p' := 1050) rfl rfl rfl ?_
      refine st_push (p' := 1051) rfl rfl ?_
      refine st_ii (p' := 1052) (z := 2) rfl rfl (by decide +kernel) ?_
      refine st_sld (p' := 1053) (x := xs 2) rfl rfl (by decide) (by decide +kernel) (congrArg xs (by decide)) ?_
      refine st_ifF (p' := 1056) rfl (q_z' z_xs2) rfl ?_
      refine st_push (p' := 1057) rfl rfl ?_
      refine st_goto rfl ?_
      refine st_inv (p' := 1064) (av := [.ref 82, .int (xs 1), .int 1]) (s' := [.int b]) rfl rfl a2 rfl rfl (q_recv (g1 ..)) rfl rfl ?_
      refine st_istore (p' := 1066) (l' := [(6, .int b), (5, .int r), (4, .int 0), (3, .ref 104), (2, .ref 82), (1, .ref 0), (0, .float 0)]) rfl rfl (by decide) rfl ?_
      refine st_aload (p' := 1067) rfl rfl rfl ?_
      refine st_inv (p' := 1070) (av := [.ref 82]) (s' := [.int r]) rfl rfl a3 rfl rfl (q_recv (g2 ..)) rfl rfl ?_
      refine st_iload (p' := 1072) rfl rfl rfl ?_
      refine st_icT (p' := 1077) rfl q_eqr rfl ?_
      refine st_iload (p' := 1079) rfl rfl rfl ?_
      refine st_ifF (p' := 1082) rfl (q_nz' z_r) rfl ?_
      refine st_aload (p' := 1083) rfl rfl rfl ?_
      refine st_push (p' := 1084) rfl rfl ?_
      refine st_lld (p' := 1085) (j := 0) (v := .long b.toInt64) rfl rfl (g3 z_r) (by decide) (by decide) rfl rfl ?_
      refine st_iload (p' := 1087) rfl rfl rfl ?_
      refine st_i (p' := 1088) (v := .long b.toInt64) rfl rfl rfl ?_
      refine st_ll (p' := 1089) (v := .int 0) rfl rfl (q_cmp _) ?_
      refine st_ifT (p' := 1094) rfl (by decide +kernel) rfl ?_
      refine st_goto rfl ?_
      refine st_iinc (p' := 2119) (l' := [(4, .int 5), (6, .int b), (5, .int r), (3, .ref 104), (2, .ref 82), (1, .ref 0), (0, .float 0)]) (z := 5) rfl rfl (by decide) rfl (by decide) rfl ?_
      refine st_goto rfl ?_
      refine st_iload (p' := 25) rfl rfl rfl ?_
      refine st_aloadF (p' := 26) rfl rfl rfl ?_
      refine st_slen (p' := 27) (q := 5) rfl rfl (by decide) ?_
      refine st_push (p' := 28) rfl rfl ?_
      refine st_ii (p' := 29) (z := 0) rfl rfl (by decide +kernel) ?_
      refine st_icT (p' := 2122) rfl (by decide +kernel) rfl ?_
      refine st_push (p' := 2123) rfl rfl ?_
      exact st_ret_i rfl
    · refine st_iload (p' := 25) rfl rfl rfl ?_
      refine st_aloadF (p' := 26) rfl rfl rfl ?_
      refine st_slen (p' := 27) (q := 5) rfl rfl (by decide) ?_
      refine st_push (p' := 28) rfl rfl ?_
      refine st_ii (p' := 29) (z := 0) rfl rfl (by decide +kernel) ?_
      refine st_icF (p' := 32) rfl (by decide +kernel) rfl ?_
      refine st_aloadF (p' := 33) rfl rfl rfl ?_
      refine st_iload (p' := 35) rfl rfl rfl ?_
      refine st_sld (p' := 36) (x := xs 0) rfl rfl (by decide) (by decide +kernel) (congrArg xs (by decide)) ?_
      refine st_push (p' := 38) rfl rfl ?_
      refine st_ii (p' := 39) (z := 11) rfl rfl hk ?_
      refine st_tsw (p' := 1013) rfl (by decide +kernel) ?_
      refine st_aload (p' := 1014) rfl rfl rfl ?_
      refine st_aloadF (p' := 1015) rfl rfl rfl ?_
      refine st_iload (p' := 1017) rfl rfl rfl ?_
      refine st_push (p' := 1018) rfl rfl ?_
      refine st_ii (p' := 1019) (z := 1) rfl rfl (by decide +kernel) ?_
      refine st_sld (p' := 1020) (x := xs 1) rfl rfl (by decide) (by decide +kernel) (congrArg xs (by decide)) ?_
      refine st_aloadF (p' := 1021) rfl rfl rfl ?_
      refine st_iload (p' := 1023) rfl rfl rfl ?_
      refine st_push (p' := 1024) rfl rfl ?_
      refine st_ii (p' := 1025) (z := 2) rfl rfl (by decide +kernel) ?_
      refine st_sld (p' := 1026) (x := xs 2) rfl rfl (by decide) (by decide +kernel) (congrArg xs (by decide)) ?_
      refine st_ifF (p' := 1029) rfl (q_z' z_xs2) rfl ?_
      refine st_push (p' := 1030) rfl rfl ?_
      refine st_goto rfl ?_
      refine st_aload (p' := 1035) rfl rfl rfl ?_
      refine st_inv (p' := 1038) (av := [.ref 0, .int (xs 1), .int 1, .ref 104]) (s' := [.int r]) rfl rfl a1 rfl rfl rfl rfl rfl ?_
      refine st_istore (p' := 1040) (l' := [(5, .int r), (4, .int 0), (3, .ref 104), (2, .ref 82), (1, .ref 0), (0, .float 0)]) rfl rfl (by decide) rfl ?_
      refine st_aload (p' := 1041) rfl rfl rfl ?_
      refine st_aloadF (p' := 1042) rfl rfl rfl ?_
      refine st_iload (p' := 1044) rfl rfl rfl ?_
      refine st_push (p' := 1045) rfl rfl ?_
      refine st_ii (p' := 1046) (z := 1) rfl rfl (by decide +kernel) ?_
      refine st_sld (p' := 1047) (x := xs 1) rfl rfl (by decide) (by decide +kernel) (congrArg xs (by decide)) ?_
      refine st_aloadF (p' := 1048) rfl rfl rfl ?_
      refine st_iload (p' := 1050) rfl rfl rfl ?_
      refine st_push (p' := 1051) rfl rfl ?_
      refine st_ii (p' := 1052) (z := 2) rfl rfl (by decide +kernel) ?_
      refine st_sld (p' := 1053) (x := xs 2) rfl rfl (by decide) (by decide +kernel) (congrArg xs (by decide)) ?_
      refine st_ifF (p' := 1056) rfl (q_z' z_xs2) rfl ?_
      refine st_push (p' := 1057) rfl rfl ?_
      refine st_goto rfl ?_
      refine st_inv (p' := 1064) (av := [.ref 82, .int (xs 1), .int 1]) (s' := [.int b]) rfl rfl a2 rfl rfl (q_recv (g1 ..)) rfl rfl ?_
      refine st_istore (p' := 1066) (l' := [(6, .int b), (5, .int r), (4, .int 0), (3, .ref 104), (2, .ref 82), (1, .ref 0), (0, .float 0)]) rfl rfl (by decide) rfl ?_
      refine st_aload (p' := 1067) rfl rfl rfl ?_
      refine st_inv (p' := 1070) (av := [.ref 82]) (s' := [.int r]) rfl rfl a3 rfl rfl (q_recv (g2 ..)) rfl rfl ?_
      refine st_iload (p' := 1072) rfl rfl rfl ?_
      refine st_icT (p' := 1077) rfl q_eqr rfl ?_
      refine st_iload (p' := 1079) rfl rfl rfl ?_
      refine st_ifT (p' := 1094) rfl (q_nz z_r) rfl ?_
      refine st_goto rfl ?_
      refine st_iinc (p' := 2119) (l' := [(4, .int 5), (6, .int b), (5, .int r), (3, .ref 104), (2, .ref 82), (1, .ref 0), (0, .float 0)]) (z := 5) rfl rfl (by decide) rfl (by decide) rfl ?_
      refine st_goto rfl ?_
      refine st_iload (p' := 25) rfl rfl rfl ?_
      refine st_aloadF (p' := 26) rfl rfl rfl ?_
      refine st_slen (p' := 27) (q := 5) rfl rfl (by decide) ?_
      refine st_push (p' := 28) rfl rfl ?_
      refine st_ii (p' := 29) (z := 0) rfl rfl (by decide +kernel) ?_
      refine st_icT (p' := 2122) rfl (by decide +kernel) rfl ?_
      refine st_push (p' := 2123) rfl rfl ?_
      exact st_ret_i rfl
theorem law_ofSection (xs : Nat → Int32) (hk : xs 0 &&& 31 = 12) (ha : agree 304 255 [.ref 0, .int (xs 1), .int (xs 2), .ref 104] [.ref 82, .int (xs 1), .int (xs 2)]) : LawOk xs := by
  obtain ⟨r, b, h1, h2, f1, f2, a1, g1, a2, g2, a3, g3, g4, g5⟩ := ha
  refine ⟨h2, ?_, g4, g5⟩
  by_cases z_r : r = 0
  · refine st_iload (p' := 25) rfl rfl rfl ?_
    refine st_aloadF (p' := 26) rfl rfl rfl ?_
    refine st_slen (p' := 27) (q := 5) rfl rfl (by decide) ?_
    refine st_push (p' := 28) rfl rfl ?_
    refine st_ii (p' := 29) (z := 0) rfl rfl (by decide +kernel) ?_
    refine st_icF (p' := 32) rfl (by decide +kernel) rfl ?_
    refine st_aloadF (p' := 33) rfl rfl rfl ?_
    refine st_iload (p' := 35) rfl rfl rfl ?_
    refine st_sld (p' := 36) (x := xs 0) rfl rfl (by decide) (by decide +kernel) (congrArg xs (by decide)) ?_
    refine st_push (p' := 38) rfl rfl ?_
    refine st_ii (p' := 39) (z := 12) rfl rfl hk ?_
    refine st_tsw (p' := 1097) rfl (by decide +kernel) ?_
    refine st_aload (p' := 1098) rfl rfl rfl ?_
    refine st_aloadF (p' := 1099) rfl rfl rfl ?_
    refine st_iload (p' := 1101) rfl rfl rfl ?_
    refine st_push (p' := 1102) rfl rfl ?_
    refine st_ii (p' := 1103) (z := 1) rfl rfl (by decide +kernel) ?_
    refine st_sld (p' := 1104) (x := xs 1) rfl rfl (by decide) (by decide +kernel) (congrArg xs (by decide)) ?_
    refine st_aloadF (p' := 1105) rfl rfl rfl ?_
    refine st_iload (p' := 1107) rfl rfl rfl ?_
    refine st_push (p' := 1108) rfl rfl ?_
    refine st_ii (p' := 1109) (z := 2) rfl rfl (by decide +kernel) ?_
    refine st_sld (p' := 1110) (x := xs 2) rfl rfl (by decide) (by decide +kernel) (congrArg xs (by decide)) ?_
    refine st_aload (p' := 1111) rfl rfl rfl ?_
    refine st_inv (p' := 1114) (av := [.ref 0, .int (xs 1), .int (xs 2), .ref 104]) (s' := [.int r]) rfl rfl a1 rfl rfl rfl rfl rfl ?_
    refine st_istore (p' := 1116) (l' := [(5, .int r), (4, .int 0), (3, .ref 104), (2, .ref 82), (1, .ref 0), (0, .float 0)]) rfl rfl (by decide) rfl ?_
    refine st_aload (p' := 1117) rfl rfl rfl ?_
    refine st_aloadF (p' := 1118) rfl rfl rfl ?_
    refine st_iload (p' := 1120) rfl rfl rfl ?_
    refine st_push (p' := 1121) rfl rfl ?_
    refine st_ii (p' := 1122) (z := 1) rfl rfl (by decide +kernel) ?_
    refine st_sld (p' := 1123) (x := xs 1) rfl rfl (by decide) (by decide +kernel) (congrArg xs (by decide)) ?_
    refine st_aloadF (p' := 1124) rfl rfl rfl ?_
    refine st_iload (p' := 1126) rfl rfl rfl ?_
    refine st_push (p' := 1127) rfl rfl ?_
    refine st_ii (p' := 1128) (z := 2) rfl rfl (by decide +kernel) ?_
    refine st_sld (p' := 1129) (x := xs 2) rfl rfl (by decide) (by decide +kernel) (congrArg xs (by decide)) ?_
    refine st_inv (p' := 1132) (av := [.ref 82, .int (xs 1), .int (xs 2)]) (s' := [.int b]) rfl rfl a2 rfl rfl (q_recv (g1 ..)) rfl rfl ?_
    refine st_istore (p' := 1134) (l' := [(6, .int b), (5, .int r), (4, .int 0), (3, .ref 104), (2, .ref 82), (1, .ref 0), (0, .float 0)]) rfl rfl (by decide) rfl ?_
    refine st_aload (p' := 1135) rfl rfl rfl ?_
    refine st_inv (p' := 1138) (av := [.ref 82]) (s' := [.int r]) rfl rfl a3 rfl rfl (q_recv (g2 ..)) rfl rfl ?_
    refine st_iload (p' := 1140) rfl rfl rfl ?_
    refine st_icT (p' := 1145) rfl q_eqr rfl ?_
    refine st_iload (p' := 1147) rfl rfl rfl ?_
    refine st_ifF (p' := 1150) rfl (q_nz' z_r) rfl ?_
    refine st_aload (p' := 1151) rfl rfl rfl ?_
    refine st_push (p' := 1152) rfl rfl ?_
    refine st_lld (p' := 1153) (j := 0) (v := .long b.toInt64) rfl rfl (g3 z_r) (by decide) (by decide) rfl rfl ?_
    refine st_iload (p' := 1155) rfl rfl rfl ?_
    refine st_i (p' := 1156) (v := .long b.toInt64) rfl rfl rfl ?_
    refine st_ll (p' := 1157) (v := .int 0) rfl rfl (q_cmp _) ?_
    refine st_ifT (p' := 1162) rfl (by decide +kernel) rfl ?_
    refine st_goto rfl ?_
    refine st_iinc (p' := 2119) (l' := [(4, .int 5), (6, .int b), (5, .int r), (3, .ref 104), (2, .ref 82), (1, .ref 0), (0, .float 0)]) (z := 5) rfl rfl (by decide) rfl (by decide) rfl ?_
    refine st_goto rfl ?_
    refine st_iload (p' := 25) rfl rfl rfl ?_
    refine st_aloadF (p' := 26) rfl rfl rfl ?_
    refine st_slen (p' := 27) (q := 5) rfl rfl (by decide) ?_
    refine st_push (p' := 28) rfl rfl ?_
    refine st_ii (p' := 29) (z := 0) rfl rfl (by decide +kernel) ?_
    refine st_icT (p' := 2122) rfl (by decide +kernel) rfl ?_
    refine st_push (p' := 2123) rfl rfl ?_
    exact st_ret_i rfl
  · refine st_iload (p' := 25) rfl rfl rfl ?_
    refine st_aloadF (p' := 26) rfl rfl rfl ?_
    refine st_slen (p' := 27) (q := 5) rfl rfl (by decide) ?_
    refine st_push (p' := 28) rfl rfl ?_
    refine st_ii (p' := 29) (z := 0) rfl rfl (by decide +kernel) ?_
    refine st_icF (p' := 32) rfl (by decide +kernel) rfl ?_
    refine st_aloadF (p' := 33) rfl rfl rfl ?_
    refine st_iload (p' := 35) rfl rfl rfl ?_
    refine st_sld (p' := 36) (x := xs 0) rfl rfl (by decide) (by decide +kernel) (congrArg xs (by decide)) ?_
    refine st_push (p' := 38) rfl rfl ?_
    refine st_ii (p' := 39) (z := 12) rfl rfl hk ?_
    refine st_tsw (p' := 1097) rfl (by decide +kernel) ?_
    refine st_aload (p' := 1098) rfl rfl rfl ?_
    refine st_aloadF (p' := 1099) rfl rfl rfl ?_
    refine st_iload (p' := 1101) rfl rfl rfl ?_
    refine st_push (p' := 1102) rfl rfl ?_
    refine st_ii (p' := 1103) (z := 1) rfl rfl (by decide +kernel) ?_
    refine st_sld (p' := 1104) (x := xs 1) rfl rfl (by decide) (by decide +kernel) (congrArg xs (by decide)) ?_
    refine st_aloadF (p' := 1105) rfl rfl rfl ?_
    refine st_iload (p' := 1107) rfl rfl rfl ?_
    refine st_push (p' := 1108) rfl rfl ?_
    refine st_ii (p' := 1109) (z := 2) rfl rfl (by decide +kernel) ?_
    refine st_sld (p' := 1110) (x := xs 2) rfl rfl (by decide) (by decide +kernel) (congrArg xs (by decide)) ?_
    refine st_aload (p' := 1111) rfl rfl rfl ?_
    refine st_inv (p' := 1114) (av := [.ref 0, .int (xs 1), .int (xs 2), .ref 104]) (s' := [.int r]) rfl rfl a1 rfl rfl rfl rfl rfl ?_
    refine st_istore (p' := 1116) (l' := [(5, .int r), (4, .int 0), (3, .ref 104), (2, .ref 82), (1, .ref 0), (0, .float 0)]) rfl rfl (by decide) rfl ?_
    refine st_aload (p' := 1117) rfl rfl rfl ?_
    refine st_aloadF (p' := 1118) rfl rfl rfl ?_
    refine st_iload (p' := 1120) rfl rfl rfl ?_
    refine st_push (p' := 1121) rfl rfl ?_
    refine st_ii (p' := 1122) (z := 1) rfl rfl (by decide +kernel) ?_
    refine st_sld (p' := 1123) (x := xs 1) rfl rfl (by decide) (by decide +kernel) (congrArg xs (by decide)) ?_
    refine st_aloadF (p' := 1124) rfl rfl rfl ?_
    refine st_iload (p' := 1126) rfl rfl rfl ?_
    refine st_push (p' := 1127) rfl rfl ?_
    refine st_ii (p' := 1128) (z := 2) rfl rfl (by decide +kernel) ?_
    refine st_sld (p' := 1129) (x := xs 2) rfl rfl (by decide) (by decide +kernel) (congrArg xs (by decide)) ?_
    refine st_inv (p' := 1132) (av := [.ref 82, .int (xs 1), .int (xs 2)]) (s' := [.int b]) rfl rfl a2 rfl rfl (q_recv (g1 ..)) rfl rfl ?_
    refine st_istore (p' := 1134) (l' := [(6, .int b), (5, .int r), (4, .int 0), (3, .ref 104), (2, .ref 82), (1, .ref 0), (0, .float 0)]) rfl rfl (by decide) rfl ?_
    refine st_aload (p' := 1135) rfl rfl rfl ?_
    refine st_inv (p' := 1138) (av := [.ref 82]) (s' := [.int r]) rfl rfl a3 rfl rfl (q_recv (g2 ..)) rfl rfl ?_
    refine st_iload (p' := 1140) rfl rfl rfl ?_
    refine st_icT (p' := 1145) rfl q_eqr rfl ?_
    refine st_iload (p' := 1147) rfl rfl rfl ?_
    refine st_ifT (p' := 1162) rfl (q_nz z_r) rfl ?_
    refine st_goto rfl ?_
    refine st_iinc (p' := 2119) (l' := [(4, .int 5), (6, .int b), (5, .int r), (3, .ref 104), (2, .ref 82), (1, .ref 0), (0, .float 0)]) (z := 5) rfl rfl (by decide) rfl (by decide) rfl ?_
    refine st_goto rfl ?_
    refine st_iload (p' := 25) rfl rfl rfl ?_
    refine st_aloadF (p' := 26) rfl rfl rfl ?_
    refine st_slen (p' := 27) (q := 5) rfl rfl (by decide) ?_
    refine st_push (p' := 28) rfl rfl ?_
    refine st_ii (p' := 29) (z := 0) rfl rfl (by decide +kernel) ?_
    refine st_icT (p' := 2122) rfl (by decide +kernel) rfl ?_
    refine st_push (p' := 2123) rfl rfl ?_
    exact st_ret_i rfl
theorem law_ofName (xs : Nat → Int32) (hk : xs 0 &&& 31 = 13) (ha : agree 305 257 [.ref 0, .int (xs 1), .int (xs 2), .ref 104] [.ref 82, .int (xs 1), .int (xs 2)]) : LawOk xs := by
  obtain ⟨r, b, h1, h2, f1, f2, a1, g1, a2, g2, a3, g3, g4, g5⟩ := ha
  refine ⟨h2, ?_, g4, g5⟩
  by_cases z_r : r = 0
  · refine st_iload (p' := 25) rfl rfl rfl ?_
    refine st_aloadF (p' := 26) rfl rfl rfl ?_
    refine st_slen (p' := 27) (q := 5) rfl rfl (by decide) ?_
    refine st_push (p' := 28) rfl rfl ?_
    refine st_ii (p' := 29) (z := 0) rfl rfl (by decide +kernel) ?_
    refine st_icF (p' := 32) rfl (by decide +kernel) rfl ?_
    refine st_aloadF (p' := 33) rfl rfl rfl ?_
    refine st_iload (p' := 35) rfl rfl rfl ?_
    refine st_sld (p' := 36) (x := xs 0) rfl rfl (by decide) (by decide +kernel) (congrArg xs (by decide)) ?_
    refine st_push (p' := 38) rfl rfl ?_
    refine st_ii (p' := 39) (z := 13) rfl rfl hk ?_
    refine st_tsw (p' := 1165) rfl (by decide +kernel) ?_
    refine st_aload (p' := 1166) rfl rfl rfl ?_
    refine st_aloadF (p' := 1167) rfl rfl rfl ?_
    refine st_iload (p' := 1169) rfl rfl rfl ?_
    refine st_push (p' := 1170) rfl rfl ?_
    refine st_ii (p' := 1171) (z := 1) rfl rfl (by decide +kernel) ?_
    refine st_sld (p' := 1172) (x := xs 1) rfl rfl (by decide) (by decide +kernel) (congrArg xs (by decide)) ?_
    refine st_aloadF (p' := 1173) rfl rfl rfl ?_
    refine st_iload (p' := 1175) rfl rfl rfl ?_
    refine st_push (p' := 1176) rfl rfl ?_
    refine st_ii (p' := 1177) (z := 2) rfl rfl (by decide +kernel) ?_
    refine st_sld (p' := 1178) (x := xs 2) rfl rfl (by decide) (by decide +kernel) (congrArg xs (by decide)) ?_
    refine st_aload (p' := 1179) rfl rfl rfl ?_
    refine st_inv (p' := 1182) (av := [.ref 0, .int (xs 1), .int (xs 2), .ref 104]) (s' := [.int r]) rfl rfl a1 rfl rfl rfl rfl rfl ?_
    refine st_istore (p' := 1184) (l' := [(5, .int r), (4, .int 0), (3, .ref 104), (2, .ref 82), (1, .ref 0), (0, .float 0)]) rfl rfl (by decide) rfl ?_
    refine st_aload (p' := 1185) rfl rfl rfl ?_
    refine st_aloadF (p' := 1186) rfl rfl rfl ?_
    refine st_iload (p' := 1188) rfl rfl rfl ?_
    refine st_push (p' := 1189) rfl rfl ?_
    refine st_ii (p' := 1190) (z := 1) rfl rfl (by decide +kernel) ?_
    refine st_sld (p' := 1191) (x := xs 1) rfl rfl (by decide) (by decide +kernel) (congrArg xs (by decide)) ?_
    refine st_aloadF (p' := 1192) rfl rfl rfl ?_
    refine st_iload (p' := 1194) rfl rfl rfl ?_
    refine st_push (p' := 1195) rfl rfl ?_
    refine st_ii (p' := 1196) (z := 2) rfl rfl (by decide +kernel) ?_
    refine st_sld (p' := 1197) (x := xs 2) rfl rfl (by decide) (by decide +kernel) (congrArg xs (by decide)) ?_
    refine st_inv (p' := 1200) (av := [.ref 82, .int (xs 1), .int (xs 2)]) (s' := [.int b]) rfl rfl a2 rfl rfl (q_recv (g1 ..)) rfl rfl ?_
    refine st_istore (p' := 1202) (l' := [(6, .int b), (5, .int r), (4, .int 0), (3, .ref 104), (2, .ref 82), (1, .ref 0), (0, .float 0)]) rfl rfl (by decide) rfl ?_
    refine st_aload (p' := 1203) rfl rfl rfl ?_
    refine st_inv (p' := 1206) (av := [.ref 82]) (s' := [.int r]) rfl rfl a3 rfl rfl (q_recv (g2 ..)) rfl rfl ?_
    refine st_iload (p' := 1208) rfl rfl rfl ?_
    refine st_icT (p' := 1213) rfl q_eqr rfl ?_
    refine st_iload (p' := 1215) rfl rfl rfl ?_
    refine st_ifF (p' := 1218) rfl (q_nz' z_r) rfl ?_
    refine st_aload (p' := 1219) rfl rfl rfl ?_
    refine st_push (p' := 1220) rfl rfl ?_
    refine st_lld (p' := 1221) (j := 0) (v := .long b.toInt64) rfl rfl (g3 z_r) (by decide) (by decide) rfl rfl ?_
    refine st_iload (p' := 1223) rfl rfl rfl ?_
    refine st_i (p' := 1224) (v := .long b.toInt64) rfl rfl rfl ?_
    refine st_ll (p' := 1225) (v := .int 0) rfl rfl (q_cmp _) ?_
    refine st_ifT (p' := 1230) rfl (by decide +kernel) rfl ?_
    refine st_goto rfl ?_
    refine st_iinc (p' := 2119) (l' := [(4, .int 5), (6, .int b), (5, .int r), (3, .ref 104), (2, .ref 82), (1, .ref 0), (0, .float 0)]) (z := 5) rfl rfl (by decide) rfl (by decide) rfl ?_
    refine st_goto rfl ?_
    refine st_iload (p' := 25) rfl rfl rfl ?_
    refine st_aloadF (p' := 26) rfl rfl rfl ?_
    refine st_slen (p' := 27) (q := 5) rfl rfl (by decide) ?_
    refine st_push (p' := 28) rfl rfl ?_
    refine st_ii (p' := 29) (z := 0) rfl rfl (by decide +kernel) ?_
    refine st_icT (p' := 2122) rfl (by decide +kernel) rfl ?_
    refine st_push (p' := 2123) rfl rfl ?_
    exact st_ret_i rfl
  · refine st_iload (p' := 25) rfl rfl rfl ?_
    refine st_aloadF (p' := 26) rfl rfl rfl ?_
    refine st_slen (p' := 27) (q := 5) rfl rfl (by decide) ?_
    refine st_push (p' := 28) rfl rfl ?_
    refine st_ii (p' := 29) (z := 0) rfl rfl (by decide +kernel) ?_
    refine st_icF (p' := 32) rfl (by decide +kernel) rfl ?_
    refine st_aloadF (p' := 33) rfl rfl rfl ?_
    refine st_iload (p' := 35) rfl rfl rfl ?_
    refine st_sld (p' := 36) (x := xs 0) rfl rfl (by decide) (by decide +kernel) (congrArg xs (by decide)) ?_
    refine st_push (p' := 38) rfl rfl ?_
    refine st_ii (p' := 39) (z := 13) rfl rfl hk ?_
    refine st_tsw (p' := 1165) rfl (by decide +kernel) ?_
    refine st_aload (p' := 1166) rfl rfl rfl ?_
    refine st_aloadF (p' := 1167) rfl rfl rfl ?_
    refine st_iload (p' := 1169) rfl rfl rfl ?_
    refine st_push (p' := 1170) rfl rfl ?_
    refine st_ii (p' := 1171) (z := 1) rfl rfl (by decide +kernel) ?_
    refine st_sld (p' := 1172) (x := xs 1) rfl rfl (by decide) (by decide +kernel) (congrArg xs (by decide)) ?_
    refine st_aloadF (p' := 1173) rfl rfl rfl ?_
    refine st_iload (p' := 1175) rfl rfl rfl ?_
    refine st_push (p' := 1176) rfl rfl ?_
    refine st_ii (p' := 1177) (z := 2) rfl rfl (by decide +kernel) ?_
    refine st_sld (p' := 1178) (x := xs 2) rfl rfl (by decide) (by decide +kernel) (congrArg xs (by decide)) ?_
    refine st_aload (p' := 1179) rfl rfl rfl ?_
    refine st_inv (p' := 1182) (av := [.ref 0, .int (xs 1), .int (xs 2), .ref 104]) (s' := [.int r]) rfl rfl a1 rfl rfl rfl rfl rfl ?_
    refine st_istore (p' := 1184) (l' := [(5, .int r), (4, .int 0), (3, .ref 104), (2, .ref 82), (1, .ref 0), (0, .float 0)]) rfl rfl (by decide) rfl ?_
    refine st_aload (p' := 1185) rfl rfl rfl ?_
    refine st_aloadF (p' := 1186) rfl rfl rfl ?_
    refine st_iload (p' := 1188) rfl rfl rfl ?_
    refine st_push (p' := 1189) rfl rfl ?_
    refine st_ii (p' := 1190) (z := 1) rfl rfl (by decide +kernel) ?_
    refine st_sld (p' := 1191) (x := xs 1) rfl rfl (by decide) (by decide +kernel) (congrArg xs (by decide)) ?_
    refine st_aloadF (p' := 1192) rfl rfl rfl ?_
    refine st_iload (p' := 1194) rfl rfl rfl ?_
    refine st_push (p' := 1195) rfl rfl ?_
    refine st_ii (p' := 1196) (z := 2) rfl rfl (by decide +kernel) ?_
    refine st_sld (p' := 1197) (x := xs 2) rfl rfl (by decide) (by decide +kernel) (congrArg xs (by decide)) ?_
    refine st_inv (p' := 1200) (av := [.ref 82, .int (xs 1), .int (xs 2)]) (s' := [.int b]) rfl rfl a2 rfl rfl (q_recv (g1 ..)) rfl rfl ?_
    refine st_istore (p' := 1202) (l' := [(6, .int b), (5, .int r), (4, .int 0), (3, .ref 104), (2, .ref 82), (1, .ref 0), (0, .float 0)]) rfl rfl (by decide) rfl ?_
    refine st_aload (p' := 1203) rfl rfl rfl ?_
    refine st_inv (p' := 1206) (av := [.ref 82]) (s' := [.int r]) rfl rfl a3 rfl rfl (q_recv (g2 ..)) rfl rfl ?_
    refine st_iload (p' := 1208) rfl rfl rfl ?_
    refine st_icT (p' := 1213) rfl q_eqr rfl ?_
    refine st_iload (p' := 1215) rfl rfl rfl ?_
    refine st_ifT (p' := 1230) rfl (q_nz z_r) rfl ?_
    refine st_goto rfl ?_
    refine st_iinc (p' := 2119) (l' := [(4, .int 5), (6, .int b), (5, .int r), (3, .ref 104), (2, .ref 82), (1, .ref 0), (0, .float 0)]) (z := 5) rfl rfl (by decide) rfl (by decide) rfl ?_
    refine st_goto rfl ?_
    refine st_iload (p' := 25) rfl rfl rfl ?_
    refine st_aloadF (p' := 26) rfl rfl rfl ?_
    refine st_slen (p' := 27) (q := 5) rfl rfl (by decide) ?_
    refine st_push (p' := 28) rfl rfl ?_
    refine st_ii (p' := 29) (z := 0) rfl rfl (by decide +kernel) ?_
    refine st_icT (p' := 2122) rfl (by decide +kernel) rfl ?_
    refine st_push (p' := 2123) rfl rfl ?_
    exact st_ret_i rfl
theorem law_fault (xs : Nat → Int32) (hk : xs 0 &&& 31 = 14) (ha : agree 306 258 [.ref 0, .int (xs 1), .int (xs 2), .ref 104] [.ref 82, .int (xs 1), .int (xs 2)]) : LawOk xs := by
  obtain ⟨r, b, h1, h2, f1, f2, a1, g1, a2, g2, a3, g3, g4, g5⟩ := ha
  refine ⟨h2, ?_, g4, g5⟩
  by_cases z_r : r = 0
  · refine st_iload (p' := 25) rfl rfl rfl ?_
    refine st_aloadF (p' := 26) rfl rfl rfl ?_
    refine st_slen (p' := 27) (q := 5) rfl rfl (by decide) ?_
    refine st_push (p' := 28) rfl rfl ?_
    refine st_ii (p' := 29) (z := 0) rfl rfl (by decide +kernel) ?_
    refine st_icF (p' := 32) rfl (by decide +kernel) rfl ?_
    refine st_aloadF (p' := 33) rfl rfl rfl ?_
    refine st_iload (p' := 35) rfl rfl rfl ?_
    refine st_sld (p' := 36) (x := xs 0) rfl rfl (by decide) (by decide +kernel) (congrArg xs (by decide)) ?_
    refine st_push (p' := 38) rfl rfl ?_
    refine st_ii (p' := 39) (z := 14) rfl rfl hk ?_
    refine st_tsw (p' := 1233) rfl (by decide +kernel) ?_
    refine st_aload (p' := 1234) rfl rfl rfl ?_
    refine st_aloadF (p' := 1235) rfl rfl rfl ?_
    refine st_iload (p' := 1237) rfl rfl rfl ?_
    refine st_push (p' := 1238) rfl rfl ?_
    refine st_ii (p' := 1239) (z := 1) rfl rfl (by decide +kernel) ?_
    refine st_sld (p' := 1240) (x := xs 1) rfl rfl (by decide) (by decide +kernel) (congrArg xs (by decide)) ?_
    refine st_aloadF (p' := 1241) rfl rfl rfl ?_
    refine st_iload (p' := 1243) rfl rfl rfl ?_
    refine st_push (p' := 1244) rfl rfl ?_
    refine st_ii (p' := 1245) (z := 2) rfl rfl (by decide +kernel) ?_
    refine st_sld (p' := 1246) (x := xs 2) rfl rfl (by decide) (by decide +kernel) (congrArg xs (by decide)) ?_
    refine st_aload (p' := 1247) rfl rfl rfl ?_
    refine st_inv (p' := 1250) (av := [.ref 0, .int (xs 1), .int (xs 2), .ref 104]) (s' := [.int r]) rfl rfl a1 rfl rfl rfl rfl rfl ?_
    refine st_istore (p' := 1252) (l' := [(5, .int r), (4, .int 0), (3, .ref 104), (2, .ref 82), (1, .ref 0), (0, .float 0)]) rfl rfl (by decide) rfl ?_
    refine st_aload (p' := 1253) rfl rfl rfl ?_
    refine st_aloadF (p' := 1254) rfl rfl rfl ?_
    refine st_iload (p' := 1256) rfl rfl rfl ?_
    refine st_push (p' := 1257) rfl rfl ?_
    refine st_ii (p' := 1258) (z := 1) rfl rfl (by decide +kernel) ?_
    refine st_sld (p' := 1259) (x := xs 1) rfl rfl (by decide) (by decide +kernel) (congrArg xs (by decide)) ?_
    refine st_aloadF (p' := 1260) rfl rfl rfl ?_
    refine st_iload (p' := 1262) rfl rfl rfl ?_
    refine st_push (p' := 1263) rfl rfl ?_
    refine st_ii (p' := 1264) (z := 2) rfl rfl (by decide +kernel) ?_
    refine st_sld (p' := 1265) (x := xs 2) rfl rfl (by decide) (by decide +kernel) (congrArg xs (by decide)) ?_
    refine st_inv (p' := 1268) (av := [.ref 82, .int (xs 1), .int (xs 2)]) (s' := [.int b]) rfl rfl a2 rfl rfl (q_recv (g1 ..)) rfl rfl ?_
    refine st_istore (p' := 1270) (l' := [(6, .int b), (5, .int r), (4, .int 0), (3, .ref 104), (2, .ref 82), (1, .ref 0), (0, .float 0)]) rfl rfl (by decide) rfl ?_
    refine st_aload (p' := 1271) rfl rfl rfl ?_
    refine st_inv (p' := 1274) (av := [.ref 82]) (s' := [.int r]) rfl rfl a3 rfl rfl (q_recv (g2 ..)) rfl rfl ?_
    refine st_iload (p' := 1276) rfl rfl rfl ?_
    refine st_icT (p' := 1281) rfl q_eqr rfl ?_
    refine st_iload (p' := 1283) rfl rfl rfl ?_
    refine st_ifF (p' := 1286) rfl (q_nz' z_r) rfl ?_
    refine st_aload (p' := 1287) rfl rfl rfl ?_
    refine st_push (p' := 1288) rfl rfl ?_
    refine st_lld (p' := 1289) (j := 0) (v := .long b.toInt64) rfl rfl (g3 z_r) (by decide) (by decide) rfl rfl ?_
    refine st_iload (p' := 1291) rfl rfl rfl ?_
    refine st_i (p' := 1292) (v := .long b.toInt64) rfl rfl rfl ?_
    refine st_ll (p' := 1293) (v := .int 0) rfl rfl (q_cmp _) ?_
    refine st_ifT (p' := 1298) rfl (by decide +kernel) rfl ?_
    refine st_goto rfl ?_
    refine st_iinc (p' := 2119) (l' := [(4, .int 5), (6, .int b), (5, .int r), (3, .ref 104), (2, .ref 82), (1, .ref 0), (0, .float 0)]) (z := 5) rfl rfl (by decide) rfl (by decide) rfl ?_
    refine st_goto rfl ?_
    refine st_iload (p' := 25) rfl rfl rfl ?_
    refine st_aloadF (p' := 26) rfl rfl rfl ?_
    refine st_slen (p' := 27) (q := 5) rfl rfl (by decide) ?_
    refine st_push (p' := 28) rfl rfl ?_
    refine st_ii (p' := 29) (z := 0) rfl rfl (by decide +kernel) ?_
    refine st_icT (p' := 2122) rfl (by decide +kernel) rfl ?_
    refine st_push (p' := 2123) rfl rfl ?_
    exact st_ret_i rfl
  · refine st_iload (p' := 25) rfl rfl rfl ?_
    refine st_aloadF (p' := 26) rfl rfl rfl ?_
    refine st_slen (p' := 27) (q := 5) rfl rfl (by decide) ?_
    refine st_push (p' := 28) rfl rfl ?_
    refine st_ii (p' := 29) (z := 0) rfl rfl (by decide +kernel) ?_
    refine st_icF (p' := 32) rfl (by decide +kernel) rfl ?_
    refine st_aloadF (p' := 33) rfl rfl rfl ?_
    refine st_iload (p' := 35) rfl rfl rfl ?_
    refine st_sld (p' := 36) (x := xs 0) rfl rfl (by decide) (by decide +kernel) (congrArg xs (by decide)) ?_
    refine st_push (p' := 38) rfl rfl ?_
    refine st_ii (p' := 39) (z := 14) rfl rfl hk ?_
    refine st_tsw (p' := 1233) rfl (by decide +kernel) ?_
    refine st_aload (p' := 1234) rfl rfl rfl ?_
    refine st_aloadF (p' := 1235) rfl rfl rfl ?_
    refine st_iload (p' := 1237) rfl rfl rfl ?_
    refine st_push (p' := 1238) rfl rfl ?_
    refine st_ii (p' := 1239) (z := 1) rfl rfl (by decide +kernel) ?_
    refine st_sld (p' := 1240) (x := xs 1) rfl rfl (by decide) (by decide +kernel) (congrArg xs (by decide)) ?_
    refine st_aloadF (p' := 1241) rfl rfl rfl ?_
    refine st_iload (p' := 1243) rfl rfl rfl ?_
    refine st_push (p' := 1244) rfl rfl ?_
    refine st_ii (p' := 1245) (z := 2) rfl rfl (by decide +kernel) ?_
    refine st_sld (p' := 1246) (x := xs 2) rfl rfl (by decide) (by decide +kernel) (congrArg xs (by decide)) ?_
    refine st_aload (p' := 1247) rfl rfl rfl ?_
    refine st_inv (p' := 1250) (av := [.ref 0, .int (xs 1), .int (xs 2), .ref 104]) (s' := [.int r]) rfl rfl a1 rfl rfl rfl rfl rfl ?_
    refine st_istore (p' := 1252) (l' := [(5, .int r), (4, .int 0), (3, .ref 104), (2, .ref 82), (1, .ref 0), (0, .float 0)]) rfl rfl (by decide) rfl ?_
    refine st_aload (p' := 1253) rfl rfl rfl ?_
    refine st_aloadF (p' := 1254) rfl rfl rfl ?_
    refine st_iload (p' := 1256) rfl rfl rfl ?_
    refine st_push (p' := 1257) rfl rfl ?_
    refine st_ii (p' := 1258) (z := 1) rfl rfl (by decide +kernel) ?_
    refine st_sld (p' := 1259) (x := xs 1) rfl rfl (by decide) (by decide +kernel) (congrArg xs (by decide)) ?_
    refine st_aloadF (p' := 1260) rfl rfl rfl ?_
    refine st_iload (p' := 1262) rfl rfl rfl ?_
    refine st_push (p' := 1263) rfl rfl ?_
    refine st_ii (p' := 1264) (z := 2) rfl rfl (by decide +kernel) ?_
    refine st_sld (p' := 1265) (x := xs 2) rfl rfl (by decide) (by decide +kernel) (congrArg xs (by decide)) ?_
    refine st_inv (p' := 1268) (av := [.ref 82, .int (xs 1), .int (xs 2)]) (s' := [.int b]) rfl rfl a2 rfl rfl (q_recv (g1 ..)) rfl rfl ?_
    refine st_istore (p' := 1270) (l' := [(6, .int b), (5, .int r), (4, .int 0), (3, .ref 104), (2, .ref 82), (1, .ref 0), (0, .float 0)]) rfl rfl (by decide) rfl ?_
    refine st_aload (p' := 1271) rfl rfl rfl ?_
    refine st_inv (p' := 1274) (av := [.ref 82]) (s' := [.int r]) rfl rfl a3 rfl rfl (q_recv (g2 ..)) rfl rfl ?_
    refine st_iload (p' := 1276) rfl rfl rfl ?_
    refine st_icT (p' := 1281) rfl q_eqr rfl ?_
    refine st_iload (p' := 1283) rfl rfl rfl ?_
    refine st_ifT (p' := 1298) rfl (q_nz z_r) rfl ?_
    refine st_goto rfl ?_
    refine st_iinc (p' := 2119) (l' := [(4, .int 5), (6, .int b), (5, .int r), (3, .ref 104), (2, .ref 82), (1, .ref 0), (0, .float 0)]) (z := 5) rfl rfl (by decide) rfl (by decide) rfl ?_
    refine st_goto rfl ?_
    refine st_iload (p' := 25) rfl rfl rfl ?_
    refine st_aloadF (p' := 26) rfl rfl rfl ?_
    refine st_slen (p' := 27) (q := 5) rfl rfl (by decide) ?_
    refine st_push (p' := 28) rfl rfl ?_
    refine st_ii (p' := 29) (z := 0) rfl rfl (by decide +kernel) ?_
    refine st_icT (p' := 2122) rfl (by decide +kernel) rfl ?_
    refine st_push (p' := 2123) rfl rfl ?_
    exact st_ret_i rfl
theorem law_wordAt (xs : Nat → Int32) (hk : xs 0 &&& 31 = 15) (ha : agree 307 259 [.ref 0, .int (xs 1), .ref 104] [.ref 82, .int (xs 1)]) : LawOk xs := by
  obtain ⟨r, b, h1, h2, f1, f2, a1, g1, a2, g2, a3, g3, g4, g5⟩ := ha
  refine ⟨h2, ?_, g4, g5⟩
  by_cases z_r : r = 0
  · refine st_iload (p' := 25) rfl rfl rfl ?_
    refine st_aloadF (p' := 26) rfl rfl rfl ?_
    refine st_slen (p' := 27) (q := 5) rfl rfl (by decide) ?_
    refine st_push (p' := 28) rfl rfl ?_
    refine st_ii (p' := 29) (z := 0) rfl rfl (by decide +kernel) ?_
    refine st_icF (p' := 32) rfl (by decide +kernel) rfl ?_
    refine st_aloadF (p' := 33) rfl rfl rfl ?_
    refine st_iload (p' := 35) rfl rfl rfl ?_
    refine st_sld (p' := 36) (x := xs 0) rfl rfl (by decide) (by decide +kernel) (congrArg xs (by decide)) ?_
    refine st_push (p' := 38) rfl rfl ?_
    refine st_ii (p' := 39) (z := 15) rfl rfl hk ?_
    refine st_tsw (p' := 1301) rfl (by decide +kernel) ?_
    refine st_aload (p' := 1302) rfl rfl rfl ?_
    refine st_aloadF (p' := 1303) rfl rfl rfl ?_
    refine st_iload (p' := 1305) rfl rfl rfl ?_
    refine st_push (p' := 1306) rfl rfl ?_
    refine st_ii (p' := 1307) (z := 1) rfl rfl (by decide +kernel) ?_
    refine st_sld (p' := 1308) (x := xs 1) rfl rfl (by decide) (by decide +kernel) (congrArg xs (by decide)) ?_
    refine st_aload (p' := 1309) rfl rfl rfl ?_
    refine st_inv (p' := 1312) (av := [.ref 0, .int (xs 1), .ref 104]) (s' := [.int r]) rfl rfl a1 rfl rfl rfl rfl rfl ?_
    refine st_istore (p' := 1314) (l' := [(5, .int r), (4, .int 0), (3, .ref 104), (2, .ref 82), (1, .ref 0), (0, .float 0)]) rfl rfl (by decide) rfl ?_
    refine st_aload (p' := 1315) rfl rfl rfl ?_
    refine st_aloadF (p' := 1316) rfl rfl rfl ?_
    refine st_iload (p' := 1318) rfl rfl rfl ?_
    refine st_push (p' := 1319) rfl rfl ?_
    refine st_ii (p' := 1320) (z := 1) rfl rfl (by decide +kernel) ?_
    refine st_sld (p' := 1321) (x := xs 1) rfl rfl (by decide) (by decide +kernel) (congrArg xs (by decide)) ?_
    refine st_inv (p' := 1324) (av := [.ref 82, .int (xs 1)]) (s' := [.int b]) rfl rfl a2 rfl rfl (q_recv (g1 ..)) rfl rfl ?_
    refine st_istore (p' := 1326) (l' := [(6, .int b), (5, .int r), (4, .int 0), (3, .ref 104), (2, .ref 82), (1, .ref 0), (0, .float 0)]) rfl rfl (by decide) rfl ?_
    refine st_aload (p' := 1327) rfl rfl rfl ?_
    refine st_inv (p' := 1330) (av := [.ref 82]) (s' := [.int r]) rfl rfl a3 rfl rfl (q_recv (g2 ..)) rfl rfl ?_
    refine st_iload (p' := 1332) rfl rfl rfl ?_
    refine st_icT (p' := 1337) rfl q_eqr rfl ?_
    refine st_iload (p' := 1339) rfl rfl rfl ?_
    refine st_ifF (p' := 1342) rfl (q_nz' z_r) rfl ?_
    refine st_aload (p' := 1343) rfl rfl rfl ?_
    refine st_push (p' := 1344) rfl rfl ?_
    refine st_lld (p' := 1345) (j := 0) (v := .long b.toInt64) rfl rfl (g3 z_r) (by decide) (by decide) rfl rfl ?_
    refine st_iload (p' := 1347) rfl rfl rfl ?_
    refine st_i (p' := 1348) (v := .long b.toInt64) rfl rfl rfl ?_
    refine st_ll (p' := 1349) (v := .int 0) rfl rfl (q_cmp _) ?_
    refine st_ifT (p' := 1354) rfl (by decide +kernel) rfl ?_
    refine st_goto rfl ?_
    refine st_iinc (p' := 2119) (l' := [(4, .int 5), (6, .int b), (5, .int r), (3, .ref 104), (2, .ref 82), (1, .ref 0), (0, .float 0)]) (z := 5) rfl rfl (by decide) rfl (by decide) rfl ?_
    refine st_goto rfl ?_
    refine st_iload (p' := 25) rfl rfl rfl ?_
    refine st_aloadF (p' := 26) rfl rfl rfl ?_
    refine st_slen (p' := 27) (q := 5) rfl rfl (by decide) ?_
    refine st_push (p' := 28) rfl rfl ?_
    refine st_ii (p' := 29) (z := 0) rfl rfl (by decide +kernel) ?_
    refine st_icT (p' := 2122) rfl (by decide +kernel) rfl ?_
    refine st_push (p' := 2123) rfl rfl ?_
    exact st_ret_i rfl
  · refine st_iload (p' := 25) rfl rfl rfl ?_
    refine st_aloadF (p' := 26) rfl rfl rfl ?_
    refine st_slen (p' := 27) (q := 5) rfl rfl (by decide) ?_
    refine st_push (p' := 28) rfl rfl ?_
    refine st_ii (p' := 29) (z := 0) rfl rfl (by decide +kernel) ?_
    refine st_icF (p' := 32) rfl (by decide +kernel) rfl ?_
    refine st_aloadF (p' := 33) rfl rfl rfl ?_
    refine st_iload (p' := 35) rfl rfl rfl ?_
    refine st_sld (p' := 36) (x := xs 0) rfl rfl (by decide) (by decide +kernel) (congrArg xs (by decide)) ?_
    refine st_push (p' := 38) rfl rfl ?_
    refine st_ii (p' := 39) (z := 15) rfl rfl hk ?_
    refine st_tsw (p' := 1301) rfl (by decide +kernel) ?_
    refine st_aload (p' := 1302) rfl rfl rfl ?_
    refine st_aloadF (p' := 1303) rfl rfl rfl ?_
    refine st_iload (p' := 1305) rfl rfl rfl ?_
    refine st_push (p' := 1306) rfl rfl ?_
    refine st_ii (p' := 1307) (z := 1) rfl rfl (by decide +kernel) ?_
    refine st_sld (p' := 1308) (x := xs 1) rfl rfl (by decide) (by decide +kernel) (congrArg xs (by decide)) ?_
    refine st_aload (p' := 1309) rfl rfl rfl ?_
    refine st_inv (p' := 1312) (av := [.ref 0, .int (xs 1), .ref 104]) (s' := [.int r]) rfl rfl a1 rfl rfl rfl rfl rfl ?_
    refine st_istore (p' := 1314) (l' := [(5, .int r), (4, .int 0), (3, .ref 104), (2, .ref 82), (1, .ref 0), (0, .float 0)]) rfl rfl (by decide) rfl ?_
    refine st_aload (p' := 1315) rfl rfl rfl ?_
    refine st_aloadF (p' := 1316) rfl rfl rfl ?_
    refine st_iload (p' := 1318) rfl rfl rfl ?_
    refine st_push (p' := 1319) rfl rfl ?_
    refine st_ii (p' := 1320) (z := 1) rfl rfl (by decide +kernel) ?_
    refine st_sld (p' := 1321) (x := xs 1) rfl rfl (by decide) (by decide +kernel) (congrArg xs (by decide)) ?_
    refine st_inv (p' := 1324) (av := [.ref 82, .int (xs 1)]) (s' := [.int b]) rfl rfl a2 rfl rfl (q_recv (g1 ..)) rfl rfl ?_
    refine st_istore (p' := 1326) (l' := [(6, .int b), (5, .int r), (4, .int 0), (3, .ref 104), (2, .ref 82), (1, .ref 0), (0, .float 0)]) rfl rfl (by decide) rfl ?_
    refine st_aload (p' := 1327) rfl rfl rfl ?_
    refine st_inv (p' := 1330) (av := [.ref 82]) (s' := [.int r]) rfl rfl a3 rfl rfl (q_recv (g2 ..)) rfl rfl ?_
    refine st_iload (p' := 1332) rfl rfl rfl ?_
    refine st_icT (p' := 1337) rfl q_eqr rfl ?_
    refine st_iload (p' := 1339) rfl rfl rfl ?_
    refine st_ifT (p' := 1354) rfl (q_nz z_r) rfl ?_
    refine st_goto rfl ?_
    refine st_iinc (p' := 2119) (l' := [(4, .int 5), (6, .int b), (5, .int r), (3, .ref 104), (2, .ref 82), (1, .ref 0), (0, .float 0)]) (z := 5) rfl rfl (by decide) rfl (by decide) rfl ?_
    refine st_goto rfl ?_
    refine st_iload (p' := 25) rfl rfl rfl ?_
    refine st_aloadF (p' := 26) rfl rfl rfl ?_
    refine st_slen (p' := 27) (q := 5) rfl rfl (by decide) ?_
    refine st_push (p' := 28) rfl rfl ?_
    refine st_ii (p' := 29) (z := 0) rfl rfl (by decide +kernel) ?_
    refine st_icT (p' := 2122) rfl (by decide +kernel) rfl ?_
    refine st_push (p' := 2123) rfl rfl ?_
    exact st_ret_i rfl
theorem law_publish (xs : Nat → Int32) (hk : xs 0 &&& 31 = 16) (ha : agree 308 262 [.ref 0, .int (xs 1), .ref 104] [.ref 82, .int (xs 1)]) : LawOk xs := by
  obtain ⟨r, b, h1, h2, f1, f2, a1, g1, a2, g2, a3, g3, g4, g5⟩ := ha
  refine ⟨h2, ?_, g4, g5⟩
  by_cases z_r : r = 0
  · refine st_iload (p' := 25) rfl rfl rfl ?_
    refine st_aloadF (p' := 26) rfl rfl rfl ?_
    refine st_slen (p' := 27) (q := 5) rfl rfl (by decide) ?_
    refine st_push (p' := 28) rfl rfl ?_
    refine st_ii (p' := 29) (z := 0) rfl rfl (by decide +kernel) ?_
    refine st_icF (p' := 32) rfl (by decide +kernel) rfl ?_
    refine st_aloadF (p' := 33) rfl rfl rfl ?_
    refine st_iload (p' := 35) rfl rfl rfl ?_
    refine st_sld (p' := 36) (x := xs 0) rfl rfl (by decide) (by decide +kernel) (congrArg xs (by decide)) ?_
    refine st_push (p' := 38) rfl rfl ?_
    refine st_ii (p' := 39) (z := 16) rfl rfl hk ?_
    refine st_tsw (p' := 1357) rfl (by decide +kernel) ?_
    refine st_aload (p' := 1358) rfl rfl rfl ?_
    refine st_aloadF (p' := 1359) rfl rfl rfl ?_
    refine st_iload (p' := 1361) rfl rfl rfl ?_
    refine st_push (p' := 1362) rfl rfl ?_
    refine st_ii (p' := 1363) (z := 1) rfl rfl (by decide +kernel) ?_
    refine st_sld (p' := 1364) (x := xs 1) rfl rfl (by decide) (by decide +kernel) (congrArg xs (by decide)) ?_
    refine st_aload (p' := 1365) rfl rfl rfl ?_
    refine st_inv (p' := 1368) (av := [.ref 0, .int (xs 1), .ref 104]) (s' := [.int r]) rfl rfl a1 rfl rfl rfl rfl rfl ?_
    refine st_istore (p' := 1370) (l' := [(5, .int r), (4, .int 0), (3, .ref 104), (2, .ref 82), (1, .ref 0), (0, .float 0)]) rfl rfl (by decide) rfl ?_
    refine st_aload (p' := 1371) rfl rfl rfl ?_
    refine st_aloadF (p' := 1372) rfl rfl rfl ?_
    refine st_iload (p' := 1374) rfl rfl rfl ?_
    refine st_push (p' := 1375) rfl rfl ?_
    refine st_ii (p' := 1376) (z := 1) rfl rfl (by decide +kernel) ?_
    refine st_sld (p' := 1377) (x := xs 1) rfl rfl (by decide) (by decide +kernel) (congrArg xs (by decide)) ?_
    refine st_inv (p' := 1380) (av := [.ref 82, .int (xs 1)]) (s' := [.int b]) rfl rfl a2 rfl rfl (q_recv (g1 ..)) rfl rfl ?_
    refine st_istore (p' := 1382) (l' := [(6, .int b), (5, .int r), (4, .int 0), (3, .ref 104), (2, .ref 82), (1, .ref 0), (0, .float 0)]) rfl rfl (by decide) rfl ?_
    refine st_aload (p' := 1383) rfl rfl rfl ?_
    refine st_inv (p' := 1386) (av := [.ref 82]) (s' := [.int r]) rfl rfl a3 rfl rfl (q_recv (g2 ..)) rfl rfl ?_
    refine st_iload (p' := 1388) rfl rfl rfl ?_
    refine st_icT (p' := 1393) rfl q_eqr rfl ?_
    refine st_iload (p' := 1395) rfl rfl rfl ?_
    refine st_ifF (p' := 1398) rfl (q_nz' z_r) rfl ?_
    refine st_aload (p' := 1399) rfl rfl rfl ?_
    refine st_push (p' := 1400) rfl rfl ?_
    refine st_lld (p' := 1401) (j := 0) (v := .long b.toInt64) rfl rfl (g3 z_r) (by decide) (by decide) rfl rfl ?_
    refine st_iload (p' := 1403) rfl rfl rfl ?_
    refine st_i (p' := 1404) (v := .long b.toInt64) rfl rfl rfl ?_
    refine st_ll (p' := 1405) (v := .int 0) rfl rfl (q_cmp _) ?_
    refine st_ifT (p' := 1410) rfl (by decide +kernel) rfl ?_
    refine st_goto rfl ?_
    refine st_iinc (p' := 2119) (l' := [(4, .int 5), (6, .int b), (5, .int r), (3, .ref 104), (2, .ref 82), (1, .ref 0), (0, .float 0)]) (z := 5) rfl rfl (by decide) rfl (by decide) rfl ?_
    refine st_goto rfl ?_
    refine st_iload (p' := 25) rfl rfl rfl ?_
    refine st_aloadF (p' := 26) rfl rfl rfl ?_
    refine st_slen (p' := 27) (q := 5) rfl rfl (by decide) ?_
    refine st_push (p' := 28) rfl rfl ?_
    refine st_ii (p' := 29) (z := 0) rfl rfl (by decide +kernel) ?_
    refine st_icT (p' := 2122) rfl (by decide +kernel) rfl ?_
    refine st_push (p' := 2123) rfl rfl ?_
    exact st_ret_i rfl
  · refine st_iload (p' := 25) rfl rfl rfl ?_
    refine st_aloadF (p' := 26) rfl rfl rfl ?_
    refine st_slen (p' := 27) (q := 5) rfl rfl (by decide) ?_
    refine st_push (p' := 28) rfl rfl ?_
    refine st_ii (p' := 29) (z := 0) rfl rfl (by decide +kernel) ?_
    refine st_icF (p' := 32) rfl (by decide +kernel) rfl ?_
    refine st_aloadF (p' := 33) rfl rfl rfl ?_
    refine st_iload (p' := 35) rfl rfl rfl ?_
    refine st_sld (p' := 36) (x := xs 0) rfl rfl (by decide) (by decide +kernel) (congrArg xs (by decide)) ?_
    refine st_push (p' := 38) rfl rfl ?_
    refine st_ii (p' := 39) (z := 16) rfl rfl hk ?_
    refine st_tsw (p' := 1357) rfl (by decide +kernel) ?_
    refine st_aload (p' := 1358) rfl rfl rfl ?_
    refine st_aloadF (p' := 1359) rfl rfl rfl ?_
    refine st_iload (p' := 1361) rfl rfl rfl ?_
    refine st_push (p' := 1362) rfl rfl ?_
    refine st_ii (p' := 1363) (z := 1) rfl rfl (by decide +kernel) ?_
    refine st_sld (p' := 1364) (x := xs 1) rfl rfl (by decide) (by decide +kernel) (congrArg xs (by decide)) ?_
    refine st_aload (p' := 1365) rfl rfl rfl ?_
    refine st_inv (p' := 1368) (av := [.ref 0, .int (xs 1), .ref 104]) (s' := [.int r]) rfl rfl a1 rfl rfl rfl rfl rfl ?_
    refine st_istore (p' := 1370) (l' := [(5, .int r), (4, .int 0), (3, .ref 104), (2, .ref 82), (1, .ref 0), (0, .float 0)]) rfl rfl (by decide) rfl ?_
    refine st_aload (p' := 1371) rfl rfl rfl ?_
    refine st_aloadF (p' := 1372) rfl rfl rfl ?_
    refine st_iload (p' := 1374) rfl rfl rfl ?_
    refine st_push (p' := 1375) rfl rfl ?_
    refine st_ii (p' := 1376) (z := 1) rfl rfl (by decide +kernel) ?_
    refine st_sld (p' := 1377) (x := xs 1) rfl rfl (by decide) (by decide +kernel) (congrArg xs (by decide)) ?_
    refine st_inv (p' := 1380) (av := [.ref 82, .int (xs 1)]) (s' := [.int b]) rfl rfl a2 rfl rfl (q_recv (g1 ..)) rfl rfl ?_
    refine st_istore (p' := 1382) (l' := [(6, .int b), (5, .int r), (4, .int 0), (3, .ref 104), (2, .ref 82), (1, .ref 0), (0, .float 0)]) rfl rfl (by decide) rfl ?_
    refine st_aload (p' := 1383) rfl rfl rfl ?_
    refine st_inv (p' := 1386) (av := [.ref 82]) (s' := [.int r]) rfl rfl a3 rfl rfl (q_recv (g2 ..)) rfl rfl ?_
    refine st_iload (p' := 1388) rfl rfl rfl ?_
    refine st_icT (p' := 1393) rfl q_eqr rfl ?_
    refine st_iload (p' := 1395) rfl rfl rfl ?_
    refine st_ifT (p' := 1410) rfl (q_nz z_r) rfl ?_
    refine st_goto rfl ?_
    refine st_iinc (p' := 2119) (l' := [(4, .int 5), (6, .int b), (5, .int r), (3, .ref 104), (2, .ref 82), (1, .ref 0), (0, .float 0)]) (z := 5) rfl rfl (by decide) rfl (by decide) rfl ?_
    refine st_goto rfl ?_
    refine st_iload (p' := 25) rfl rfl rfl ?_
    refine st_aloadF (p' := 26) rfl rfl rfl ?_
    refine st_slen (p' := 27) (q := 5) rfl rfl (by decide) ?_
    refine st_push (p' := 28) rfl rfl ?_
    refine st_ii (p' := 29) (z := 0) rfl rfl (by decide +kernel) ?_
    refine st_icT (p' := 2122) rfl (by decide +kernel) rfl ?_
    refine st_push (p' := 2123) rfl rfl ?_
    exact st_ret_i rfl
