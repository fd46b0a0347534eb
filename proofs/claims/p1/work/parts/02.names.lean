-- ===== PART A: goes FIRST, ahead of the names: the tables' words, and 'selects' of the private methods out of them =====
/-- a private method of a class that the tables say can be made, by its rows of tables_1 -/
def lw_okq (q : MethodName × Nat) : Prop := (q.1.cls ≠ "java/lang/invoke/MethodHandle" ∧ q.1.cls ≠ "java/lang/invoke/VarHandle") ∧ Cond.instantiable q.1.cls q.2 ∈ tables_1 ∧ Cond.privateMethod q.1 ∈ tables_1 ∧ Cond.instanceMethod q.1 ∈ tables_1
theorem lw_p0 : lw_okq (⟨"LinkHarbour$Settling", "forget", "()V"⟩, 10) := ⟨⟨by decide +kernel, by decide +kernel⟩, List.mem_of_getElem? (i := 234) (by decide +kernel), List.mem_of_getElem? (i := 240) (by decide +kernel), List.mem_of_getElem? (i := 241) (by decide +kernel)⟩
theorem lw_p1 : lw_okq (⟨"LinkHarbour$LibraryTable", "loaded", "()I"⟩, 16) := ⟨⟨by decide +kernel, by decide +kernel⟩, List.mem_of_getElem? (i := 122) (by decide +kernel), List.mem_of_getElem? (i := 468) (by decide +kernel), List.mem_of_getElem? (i := 469) (by decide +kernel)⟩
theorem lw_p2 : lw_okq (⟨"java/lang/Throwable", "fillInStackTrace", "(I)Ljava/lang/Throwable;"⟩, 6) := ⟨⟨by decide +kernel, by decide +kernel⟩, List.mem_of_getElem? (i := 572) (by decide +kernel), List.mem_of_getElem? (i := 570) (by decide +kernel), List.mem_of_getElem? (i := 571) (by decide +kernel)⟩
theorem lw_p3 : lw_okq (⟨"LinkHarbour", "mixObjects", "(J)J"⟩, 9) := ⟨⟨by decide +kernel, by decide +kernel⟩, List.mem_of_getElem? (i := 25) (by decide +kernel), List.mem_of_getElem? (i := 606) (by decide +kernel), List.mem_of_getElem? (i := 607) (by decide +kernel)⟩
theorem lw_p4 : lw_okq (⟨"LinkHarbour", "mixSections", "(J)J"⟩, 9) := ⟨⟨by decide +kernel, by decide +kernel⟩, List.mem_of_getElem? (i := 25) (by decide +kernel), List.mem_of_getElem? (i := 652) (by decide +kernel), List.mem_of_getElem? (i := 653) (by decide +kernel)⟩
theorem lw_p5 : lw_okq (⟨"LinkHarbour", "mixNames", "(J)J"⟩, 9) := ⟨⟨by decide +kernel, by decide +kernel⟩, List.mem_of_getElem? (i := 25) (by decide +kernel), List.mem_of_getElem? (i := 689) (by decide +kernel), List.mem_of_getElem? (i := 690) (by decide +kernel)⟩
theorem lw_p6 : lw_okq (⟨"LinkHarbour", "mixFaults", "(J)J"⟩, 9) := ⟨⟨by decide +kernel, by decide +kernel⟩, List.mem_of_getElem? (i := 25) (by decide +kernel), List.mem_of_getElem? (i := 725) (by decide +kernel), List.mem_of_getElem? (i := 726) (by decide +kernel)⟩
theorem lw_p7 : lw_okq (⟨"LinkHarbour", "mixLibrary", "(JI)J"⟩, 9) := ⟨⟨by decide +kernel, by decide +kernel⟩, List.mem_of_getElem? (i := 25) (by decide +kernel), List.mem_of_getElem? (i := 748) (by decide +kernel), List.mem_of_getElem? (i := 749) (by decide +kernel)⟩
theorem lw_p8 : lw_okq (⟨"LinkHarbour$LibraryTable", "fillRow", "(I)I"⟩, 16) := ⟨⟨by decide +kernel, by decide +kernel⟩, List.mem_of_getElem? (i := 122) (by decide +kernel), List.mem_of_getElem? (i := 800) (by decide +kernel), List.mem_of_getElem? (i := 801) (by decide +kernel)⟩
theorem lw_p9 : lw_okq (⟨"LinkHarbour$LibraryTable", "neededNow", "(I)I"⟩, 16) := ⟨⟨by decide +kernel, by decide +kernel⟩, List.mem_of_getElem? (i := 122) (by decide +kernel), List.mem_of_getElem? (i := 804) (by decide +kernel), List.mem_of_getElem? (i := 805) (by decide +kernel)⟩
theorem lw_p10 : lw_okq (⟨"LinkHarbour$Taking", "takeAll", "(I)V"⟩, 7) := ⟨⟨by decide +kernel, by decide +kernel⟩, List.mem_of_getElem? (i := 206) (by decide +kernel), List.mem_of_getElem? (i := 900) (by decide +kernel), List.mem_of_getElem? (i := 901) (by decide +kernel)⟩
theorem lw_p11 : lw_okq (⟨"LinkHarbour$Taking", "add", "(I)V"⟩, 7) := ⟨⟨by decide +kernel, by decide +kernel⟩, List.mem_of_getElem? (i := 206) (by decide +kernel), List.mem_of_getElem? (i := 905) (by decide +kernel), List.mem_of_getElem? (i := 906) (by decide +kernel)⟩
theorem lw_p12 : lw_okq (⟨"LinkHarbour$Taking", "takeGroup", "(II)V"⟩, 7) := ⟨⟨by decide +kernel, by decide +kernel⟩, List.mem_of_getElem? (i := 206) (by decide +kernel), List.mem_of_getElem? (i := 918) (by decide +kernel), List.mem_of_getElem? (i := 919) (by decide +kernel)⟩
theorem lw_p13 : lw_okq (⟨"LinkHarbour$Taking", "takeWanted", "(I)V"⟩, 7) := ⟨⟨by decide +kernel, by decide +kernel⟩, List.mem_of_getElem? (i := 206) (by decide +kernel), List.mem_of_getElem? (i := 927) (by decide +kernel), List.mem_of_getElem? (i := 928) (by decide +kernel)⟩
theorem lw_p14 : lw_okq (⟨"LinkHarbour$Settling", "weigh", "(II)V"⟩, 10) := ⟨⟨by decide +kernel, by decide +kernel⟩, List.mem_of_getElem? (i := 234) (by decide +kernel), List.mem_of_getElem? (i := 944) (by decide +kernel), List.mem_of_getElem? (i := 945) (by decide +kernel)⟩
theorem lw_p15 : lw_okq (⟨"LinkHarbour$Settling", "adopt", "(III)V"⟩, 10) := ⟨⟨by decide +kernel, by decide +kernel⟩, List.mem_of_getElem? (i := 234) (by decide +kernel), List.mem_of_getElem? (i := 966) (by decide +kernel), List.mem_of_getElem? (i := 967) (by decide +kernel)⟩
def lw_privs_1 : List (MethodName × Nat) := [(⟨"LinkHarbour$Settling", "forget", "()V"⟩, 10), (⟨"LinkHarbour$LibraryTable", "loaded", "()I"⟩, 16), (⟨"java/lang/Throwable", "fillInStackTrace", "(I)Ljava/lang/Throwable;"⟩, 6), (⟨"LinkHarbour", "mixObjects", "(J)J"⟩, 9), (⟨"LinkHarbour", "mixSections", "(J)J"⟩, 9), (⟨"LinkHarbour", "mixNames", "(J)J"⟩, 9), (⟨"LinkHarbour", "mixFaults", "(J)J"⟩, 9), (⟨"LinkHarbour", "mixLibrary", "(JI)J"⟩, 9), (⟨"LinkHarbour$LibraryTable", "fillRow", "(I)I"⟩, 16), (⟨"LinkHarbour$LibraryTable", "neededNow", "(I)I"⟩, 16), (⟨"LinkHarbour$Taking", "takeAll", "(I)V"⟩, 7), (⟨"LinkHarbour$Taking", "add", "(I)V"⟩, 7), (⟨"LinkHarbour$Taking", "takeGroup", "(II)V"⟩, 7), (⟨"LinkHarbour$Taking", "takeWanted", "(I)V"⟩, 7), (⟨"LinkHarbour$Settling", "weigh", "(II)V"⟩, 10), (⟨"LinkHarbour$Settling", "adopt", "(III)V"⟩, 10)]
theorem lw_r1 : ∀ q ∈ lw_privs_1, lw_okq q := List.forall_mem_cons.mpr ⟨lw_p0, List.forall_mem_cons.mpr ⟨lw_p1, List.forall_mem_cons.mpr ⟨lw_p2, List.forall_mem_cons.mpr ⟨lw_p3, List.forall_mem_cons.mpr ⟨lw_p4, List.forall_mem_cons.mpr ⟨lw_p5, List.forall_mem_cons.mpr ⟨lw_p6, List.forall_mem_cons.mpr ⟨lw_p7, List.forall_mem_cons.mpr ⟨lw_p8, List.forall_mem_cons.mpr ⟨lw_p9, List.forall_mem_cons.mpr ⟨lw_p10, List.forall_mem_cons.mpr ⟨lw_p11, List.forall_mem_cons.mpr ⟨lw_p12, List.forall_mem_cons.mpr ⟨lw_p13, List.forall_mem_cons.mpr ⟨lw_p14, List.forall_mem_cons.mpr ⟨lw_p15, fun _ h => absurd h List.not_mem_nil⟩⟩⟩⟩⟩⟩⟩⟩⟩⟩⟩⟩⟩⟩⟩⟩
theorem lw_p16 : lw_okq (⟨"LinkHarbour$Reaching", "forget", "()V"⟩, 9) := ⟨⟨by decide +kernel, by decide +kernel⟩, List.mem_of_getElem? (i := 275) (by decide +kernel), List.mem_of_getElem? (i := 986) (by decide +kernel), List.mem_of_getElem? (i := 987) (by decide +kernel)⟩
theorem lw_p17 : lw_okq (⟨"LinkHarbour$Reaching", "reachSection", "(I)V"⟩, 9) := ⟨⟨by decide +kernel, by decide +kernel⟩, List.mem_of_getElem? (i := 275) (by decide +kernel), List.mem_of_getElem? (i := 1001) (by decide +kernel), List.mem_of_getElem? (i := 1002) (by decide +kernel)⟩
theorem lw_p18 : lw_okq (⟨"LinkHarbour$Reaching", "reachName", "(I)V"⟩, 9) := ⟨⟨by decide +kernel, by decide +kernel⟩, List.mem_of_getElem? (i := 275) (by decide +kernel), List.mem_of_getElem? (i := 1005) (by decide +kernel), List.mem_of_getElem? (i := 1006) (by decide +kernel)⟩
theorem lw_p19 : lw_okq (⟨"LinkHarbour$Reaching", "follow", "(IZ)V"⟩, 9) := ⟨⟨by decide +kernel, by decide +kernel⟩, List.mem_of_getElem? (i := 275) (by decide +kernel), List.mem_of_getElem? (i := 1019) (by decide +kernel), List.mem_of_getElem? (i := 1020) (by decide +kernel)⟩
theorem lw_p20 : lw_okq (⟨"LinkHarbour$SectionTable", "hasPiece", "(II)Z"⟩, 9) := ⟨⟨by decide +kernel, by decide +kernel⟩, List.mem_of_getElem? (i := 71) (by decide +kernel), List.mem_of_getElem? (i := 1028) (by decide +kernel), List.mem_of_getElem? (i := 1029) (by decide +kernel)⟩
theorem lw_p21 : lw_okq (⟨"LinkHarbour$Layout", "orderSections", "()V"⟩, 13) := ⟨⟨by decide +kernel, by decide +kernel⟩, List.mem_of_getElem? (i := 309) (by decide +kernel), List.mem_of_getElem? (i := 1044) (by decide +kernel), List.mem_of_getElem? (i := 1045) (by decide +kernel)⟩
theorem lw_p22 : lw_okq (⟨"LinkHarbour$Layout", "append", "(I)V"⟩, 13) := ⟨⟨by decide +kernel, by decide +kernel⟩, List.mem_of_getElem? (i := 309) (by decide +kernel), List.mem_of_getElem? (i := 1052) (by decide +kernel), List.mem_of_getElem? (i := 1053) (by decide +kernel)⟩
theorem lw_p23 : lw_okq (⟨"LinkHarbour$Layout", "placeSections", "()V"⟩, 13) := ⟨⟨by decide +kernel, by decide +kernel⟩, List.mem_of_getElem? (i := 309) (by decide +kernel), List.mem_of_getElem? (i := 1060) (by decide +kernel), List.mem_of_getElem? (i := 1061) (by decide +kernel)⟩
theorem lw_p24 : lw_okq (⟨"LinkHarbour$Layout", "wordsAhead", "(II)I"⟩, 13) := ⟨⟨by decide +kernel, by decide +kernel⟩, List.mem_of_getElem? (i := 309) (by decide +kernel), List.mem_of_getElem? (i := 1068) (by decide +kernel), List.mem_of_getElem? (i := 1069) (by decide +kernel)⟩
theorem lw_p25 : lw_okq (⟨"LinkHarbour$Layout", "placeCommons", "()V"⟩, 13) := ⟨⟨by decide +kernel, by decide +kernel⟩, List.mem_of_getElem? (i := 309) (by decide +kernel), List.mem_of_getElem? (i := 1076) (by decide +kernel), List.mem_of_getElem? (i := 1077) (by decide +kernel)⟩
theorem lw_p26 : lw_okq (⟨"LinkHarbour$Layout", "addressNames", "()V"⟩, 13) := ⟨⟨by decide +kernel, by decide +kernel⟩, List.mem_of_getElem? (i := 309) (by decide +kernel), List.mem_of_getElem? (i := 1092) (by decide +kernel), List.mem_of_getElem? (i := 1093) (by decide +kernel)⟩
theorem lw_p27 : lw_okq (⟨"LinkHarbour$Layout", "lengthenAll", "(I)Z"⟩, 13) := ⟨⟨by decide +kernel, by decide +kernel⟩, List.mem_of_getElem? (i := 309) (by decide +kernel), List.mem_of_getElem? (i := 1101) (by decide +kernel), List.mem_of_getElem? (i := 1102) (by decide +kernel)⟩
theorem lw_p28 : lw_okq (⟨"LinkHarbour$Layout", "lengthenIn", "(II)Z"⟩, 13) := ⟨⟨by decide +kernel, by decide +kernel⟩, List.mem_of_getElem? (i := 309) (by decide +kernel), List.mem_of_getElem? (i := 1105) (by decide +kernel), List.mem_of_getElem? (i := 1106) (by decide +kernel)⟩
theorem lw_p29 : lw_okq (⟨"LinkHarbour$Link", "tellFaults", "(I)V"⟩, 9) := ⟨⟨by decide +kernel, by decide +kernel⟩, List.mem_of_getElem? (i := 187) (by decide +kernel), List.mem_of_getElem? (i := 1118) (by decide +kernel), List.mem_of_getElem? (i := 1119) (by decide +kernel)⟩
theorem lw_p30 : lw_okq (⟨"LinkHarbour$Link", "tellFaultsOf", "(III)V"⟩, 9) := ⟨⟨by decide +kernel, by decide +kernel⟩, List.mem_of_getElem? (i := 187) (by decide +kernel), List.mem_of_getElem? (i := 1145) (by decide +kernel), List.mem_of_getElem? (i := 1146) (by decide +kernel)⟩
theorem lw_p31 : lw_okq (⟨"LinkHarbour", "addReference", "(IIIIZ)I"⟩, 9) := ⟨⟨by decide +kernel, by decide +kernel⟩, List.mem_of_getElem? (i := 25) (by decide +kernel), List.mem_of_getElem? (i := 1232) (by decide +kernel), List.mem_of_getElem? (i := 1233) (by decide +kernel)⟩
def lw_privs_2 : List (MethodName × Nat) := [(⟨"LinkHarbour$Reaching", "forget", "()V"⟩, 9), (⟨"LinkHarbour$Reaching", "reachSection", "(I)V"⟩, 9), (⟨"LinkHarbour$Reaching", "reachName", "(I)V"⟩, 9), (⟨"LinkHarbour$Reaching", "follow", "(IZ)V"⟩, 9), (⟨"LinkHarbour$SectionTable", "hasPiece", "(II)Z"⟩, 9), (⟨"LinkHarbour$Layout", "orderSections", "()V"⟩, 13), (⟨"LinkHarbour$Layout", "append", "(I)V"⟩, 13), (⟨"LinkHarbour$Layout", "placeSections", "()V"⟩, 13), (⟨"LinkHarbour$Layout", "wordsAhead", "(II)I"⟩, 13), (⟨"LinkHarbour$Layout", "placeCommons", "()V"⟩, 13), (⟨"LinkHarbour$Layout", "addressNames", "()V"⟩, 13), (⟨"LinkHarbour$Layout", "lengthenAll", "(I)Z"⟩, 13), (⟨"LinkHarbour$Layout", "lengthenIn", "(II)Z"⟩, 13), (⟨"LinkHarbour$Link", "tellFaults", "(I)V"⟩, 9), (⟨"LinkHarbour$Link", "tellFaultsOf", "(III)V"⟩, 9), (⟨"LinkHarbour", "addReference", "(IIIIZ)I"⟩, 9)]
theorem lw_r2 : ∀ q ∈ lw_privs_2, lw_okq q := List.forall_mem_cons.mpr ⟨lw_p16, List.forall_mem_cons.mpr ⟨lw_p17, List.forall_mem_cons.mpr ⟨lw_p18, List.forall_mem_cons.mpr ⟨lw_p19, List.forall_mem_cons.mpr ⟨lw_p20, List.forall_mem_cons.mpr ⟨lw_p21, List.forall_mem_cons.mpr ⟨lw_p22, List.forall_mem_cons.mpr ⟨lw_p23, List.forall_mem_cons.mpr ⟨lw_p24, List.forall_mem_cons.mpr ⟨lw_p25, List.forall_mem_cons.mpr ⟨lw_p26, List.forall_mem_cons.mpr ⟨lw_p27, List.forall_mem_cons.mpr ⟨lw_p28, List.forall_mem_cons.mpr ⟨lw_p29, List.forall_mem_cons.mpr ⟨lw_p30, List.forall_mem_cons.mpr ⟨lw_p31, fun _ h => absurd h List.not_mem_nil⟩⟩⟩⟩⟩⟩⟩⟩⟩⟩⟩⟩⟩⟩⟩⟩
theorem lw_p32 : lw_okq (⟨"LinkHarbour$Link", "writePiece", "(LLinkHarbour$Image;III)V"⟩, 9) := ⟨⟨by decide +kernel, by decide +kernel⟩, List.mem_of_getElem? (i := 187) (by decide +kernel), List.mem_of_getElem? (i := 1333) (by decide +kernel), List.mem_of_getElem? (i := 1334) (by decide +kernel)⟩
theorem lw_p33 : lw_okq (⟨"LinkHarbour$LibraryTable", "load", "(I)V"⟩, 16) := ⟨⟨by decide +kernel, by decide +kernel⟩, List.mem_of_getElem? (i := 122) (by decide +kernel), List.mem_of_getElem? (i := 1392) (by decide +kernel), List.mem_of_getElem? (i := 1393) (by decide +kernel)⟩
theorem lw_p34 : lw_okq (⟨"LinkHarbour$LibraryTable", "makeGlobal", "(I)V"⟩, 16) := ⟨⟨by decide +kernel, by decide +kernel⟩, List.mem_of_getElem? (i := 122) (by decide +kernel), List.mem_of_getElem? (i := 1398) (by decide +kernel), List.mem_of_getElem? (i := 1399) (by decide +kernel)⟩
theorem lw_p35 : lw_okq (⟨"LinkHarbour$LibraryTable", "initialise", "(II)V"⟩, 16) := ⟨⟨by decide +kernel, by decide +kernel⟩, List.mem_of_getElem? (i := 122) (by decide +kernel), List.mem_of_getElem? (i := 1403) (by decide +kernel), List.mem_of_getElem? (i := 1404) (by decide +kernel)⟩
theorem lw_p36 : lw_okq (⟨"LinkHarbour$LibraryTable", "finish", "(I)V"⟩, 16) := ⟨⟨by decide +kernel, by decide +kernel⟩, List.mem_of_getElem? (i := 122) (by decide +kernel), List.mem_of_getElem? (i := 1423) (by decide +kernel), List.mem_of_getElem? (i := 1424) (by decide +kernel)⟩
theorem lw_p37 : lw_okq (⟨"LinkHarbourModel", "no", "(I)I"⟩, 30) := ⟨⟨by decide +kernel, by decide +kernel⟩, List.mem_of_getElem? (i := 1471) (by decide +kernel), List.mem_of_getElem? (i := 1590) (by decide +kernel), List.mem_of_getElem? (i := 1591) (by decide +kernel)⟩
theorem lw_p38 : lw_okq (⟨"LinkHarbourModel", "isObject", "(I)Z"⟩, 30) := ⟨⟨by decide +kernel, by decide +kernel⟩, List.mem_of_getElem? (i := 1471) (by decide +kernel), List.mem_of_getElem? (i := 1598) (by decide +kernel), List.mem_of_getElem? (i := 1599) (by decide +kernel)⟩
theorem lw_p39 : lw_okq (⟨"LinkHarbourModel", "isSection", "(I)Z"⟩, 30) := ⟨⟨by decide +kernel, by decide +kernel⟩, List.mem_of_getElem? (i := 1471) (by decide +kernel), List.mem_of_getElem? (i := 1612) (by decide +kernel), List.mem_of_getElem? (i := 1613) (by decide +kernel)⟩
theorem lw_p40 : lw_okq (⟨"LinkHarbourModel", "add", "(IIIIZ)I"⟩, 30) := ⟨⟨by decide +kernel, by decide +kernel⟩, List.mem_of_getElem? (i := 1471) (by decide +kernel), List.mem_of_getElem? (i := 1616) (by decide +kernel), List.mem_of_getElem? (i := 1617) (by decide +kernel)⟩
theorem lw_p41 : lw_okq (⟨"LinkHarbourModel", "defineNow", "(IIIIIZ)I"⟩, 30) := ⟨⟨by decide +kernel, by decide +kernel⟩, List.mem_of_getElem? (i := 1471) (by decide +kernel), List.mem_of_getElem? (i := 1635) (by decide +kernel), List.mem_of_getElem? (i := 1636) (by decide +kernel)⟩
theorem lw_p42 : lw_okq (⟨"LinkHarbourModel", "definitions", "(I)I"⟩, 30) := ⟨⟨by decide +kernel, by decide +kernel⟩, List.mem_of_getElem? (i := 1471) (by decide +kernel), List.mem_of_getElem? (i := 1643) (by decide +kernel), List.mem_of_getElem? (i := 1644) (by decide +kernel)⟩
theorem lw_p43 : lw_okq (⟨"LinkHarbourModel", "ofObjectNow", "(II)I"⟩, 30) := ⟨⟨by decide +kernel, by decide +kernel⟩, List.mem_of_getElem? (i := 1471) (by decide +kernel), List.mem_of_getElem? (i := 1659) (by decide +kernel), List.mem_of_getElem? (i := 1660) (by decide +kernel)⟩
theorem lw_p44 : lw_okq (⟨"LinkHarbourModel", "sectionsOf", "(I)I"⟩, 30) := ⟨⟨by decide +kernel, by decide +kernel⟩, List.mem_of_getElem? (i := 1471) (by decide +kernel), List.mem_of_getElem? (i := 1663) (by decide +kernel), List.mem_of_getElem? (i := 1664) (by decide +kernel)⟩
theorem lw_p45 : lw_okq (⟨"LinkHarbourModel", "itemOf", "(I)I"⟩, 30) := ⟨⟨by decide +kernel, by decide +kernel⟩, List.mem_of_getElem? (i := 1471) (by decide +kernel), List.mem_of_getElem? (i := 1667) (by decide +kernel), List.mem_of_getElem? (i := 1668) (by decide +kernel)⟩
theorem lw_p46 : lw_okq (⟨"LinkHarbourModel$Linked", "endOf", "(I)I"⟩, 25) := ⟨⟨by decide +kernel, by decide +kernel⟩, List.mem_of_getElem? (i := 1682) (by decide +kernel), List.mem_of_getElem? (i := 1688) (by decide +kernel), List.mem_of_getElem? (i := 1689) (by decide +kernel)⟩
theorem lw_p47 : lw_okq (⟨"LinkHarbourModel$Linked", "take", "(III)V"⟩, 25) := ⟨⟨by decide +kernel, by decide +kernel⟩, List.mem_of_getElem? (i := 1682) (by decide +kernel), List.mem_of_getElem? (i := 1692) (by decide +kernel), List.mem_of_getElem? (i := 1693) (by decide +kernel)⟩
def lw_privs_3 : List (MethodName × Nat) := [(⟨"LinkHarbour$Link", "writePiece", "(LLinkHarbour$Image;III)V"⟩, 9), (⟨"LinkHarbour$LibraryTable", "load", "(I)V"⟩, 16), (⟨"LinkHarbour$LibraryTable", "makeGlobal", "(I)V"⟩, 16), (⟨"LinkHarbour$LibraryTable", "initialise", "(II)V"⟩, 16), (⟨"LinkHarbour$LibraryTable", "finish", "(I)V"⟩, 16), (⟨"LinkHarbourModel", "no", "(I)I"⟩, 30), (⟨"LinkHarbourModel", "isObject", "(I)Z"⟩, 30), (⟨"LinkHarbourModel", "isSection", "(I)Z"⟩, 30), (⟨"LinkHarbourModel", "add", "(IIIIZ)I"⟩, 30), (⟨"LinkHarbourModel", "defineNow", "(IIIIIZ)I"⟩, 30), (⟨"LinkHarbourModel", "definitions", "(I)I"⟩, 30), (⟨"LinkHarbourModel", "ofObjectNow", "(II)I"⟩, 30), (⟨"LinkHarbourModel", "sectionsOf", "(I)I"⟩, 30), (⟨"LinkHarbourModel", "itemOf", "(I)I"⟩, 30), (⟨"LinkHarbourModel$Linked", "endOf", "(I)I"⟩, 25), (⟨"LinkHarbourModel$Linked", "take", "(III)V"⟩, 25)]
theorem lw_r3 : ∀ q ∈ lw_privs_3, lw_okq q := List.forall_mem_cons.mpr ⟨lw_p32, List.forall_mem_cons.mpr ⟨lw_p33, List.forall_mem_cons.mpr ⟨lw_p34, List.forall_mem_cons.mpr ⟨lw_p35, List.forall_mem_cons.mpr ⟨lw_p36, List.forall_mem_cons.mpr ⟨lw_p37, List.forall_mem_cons.mpr ⟨lw_p38, List.forall_mem_cons.mpr ⟨lw_p39, List.forall_mem_cons.mpr ⟨lw_p40, List.forall_mem_cons.mpr ⟨lw_p41, List.forall_mem_cons.mpr ⟨lw_p42, List.forall_mem_cons.mpr ⟨lw_p43, List.forall_mem_cons.mpr ⟨lw_p44, List.forall_mem_cons.mpr ⟨lw_p45, List.forall_mem_cons.mpr ⟨lw_p46, List.forall_mem_cons.mpr ⟨lw_p47, fun _ h => absurd h List.not_mem_nil⟩⟩⟩⟩⟩⟩⟩⟩⟩⟩⟩⟩⟩⟩⟩⟩
theorem lw_p48 : lw_okq (⟨"LinkHarbourModel$Linked", "isDrawn", "(I)Z"⟩, 25) := ⟨⟨by decide +kernel, by decide +kernel⟩, List.mem_of_getElem? (i := 1682) (by decide +kernel), List.mem_of_getElem? (i := 1697) (by decide +kernel), List.mem_of_getElem? (i := 1698) (by decide +kernel)⟩
theorem lw_p49 : lw_okq (⟨"LinkHarbourModel$Linked", "isWanted", "(I)Z"⟩, 25) := ⟨⟨by decide +kernel, by decide +kernel⟩, List.mem_of_getElem? (i := 1682) (by decide +kernel), List.mem_of_getElem? (i := 1701) (by decide +kernel), List.mem_of_getElem? (i := 1702) (by decide +kernel)⟩
theorem lw_p50 : lw_okq (⟨"LinkHarbourModel$Linked", "nameAt", "(II)I"⟩, 25) := ⟨⟨by decide +kernel, by decide +kernel⟩, List.mem_of_getElem? (i := 1682) (by decide +kernel), List.mem_of_getElem? (i := 1705) (by decide +kernel), List.mem_of_getElem? (i := 1706) (by decide +kernel)⟩
theorem lw_p51 : lw_okq (⟨"LinkHarbourModel$Linked", "settle", "(I)V"⟩, 25) := ⟨⟨by decide +kernel, by decide +kernel⟩, List.mem_of_getElem? (i := 1682) (by decide +kernel), List.mem_of_getElem? (i := 1709) (by decide +kernel), List.mem_of_getElem? (i := 1710) (by decide +kernel)⟩
theorem lw_p52 : lw_okq (⟨"LinkHarbourModel$Linked", "firstWith", "(II)I"⟩, 25) := ⟨⟨by decide +kernel, by decide +kernel⟩, List.mem_of_getElem? (i := 1682) (by decide +kernel), List.mem_of_getElem? (i := 1713) (by decide +kernel), List.mem_of_getElem? (i := 1714) (by decide +kernel)⟩
theorem lw_p53 : lw_okq (⟨"LinkHarbourModel$Linked", "fault", "(IIII)V"⟩, 25) := ⟨⟨by decide +kernel, by decide +kernel⟩, List.mem_of_getElem? (i := 1682) (by decide +kernel), List.mem_of_getElem? (i := 1718) (by decide +kernel), List.mem_of_getElem? (i := 1719) (by decide +kernel)⟩
theorem lw_p54 : lw_okq (⟨"LinkHarbourModel$Linked", "reachAll", "()V"⟩, 25) := ⟨⟨by decide +kernel, by decide +kernel⟩, List.mem_of_getElem? (i := 1682) (by decide +kernel), List.mem_of_getElem? (i := 1725) (by decide +kernel), List.mem_of_getElem? (i := 1726) (by decide +kernel)⟩
theorem lw_p55 : lw_okq (⟨"LinkHarbourModel$Linked", "reachName", "(I)Z"⟩, 25) := ⟨⟨by decide +kernel, by decide +kernel⟩, List.mem_of_getElem? (i := 1682) (by decide +kernel), List.mem_of_getElem? (i := 1729) (by decide +kernel), List.mem_of_getElem? (i := 1730) (by decide +kernel)⟩
theorem lw_p56 : lw_okq (⟨"LinkHarbourModel$Linked", "sectionOf", "(I)I"⟩, 25) := ⟨⟨by decide +kernel, by decide +kernel⟩, List.mem_of_getElem? (i := 1682) (by decide +kernel), List.mem_of_getElem? (i := 1733) (by decide +kernel), List.mem_of_getElem? (i := 1734) (by decide +kernel)⟩
theorem lw_p57 : lw_okq (⟨"LinkHarbourModel$Linked", "layOut", "()V"⟩, 25) := ⟨⟨by decide +kernel, by decide +kernel⟩, List.mem_of_getElem? (i := 1682) (by decide +kernel), List.mem_of_getElem? (i := 1737) (by decide +kernel), List.mem_of_getElem? (i := 1738) (by decide +kernel)⟩
theorem lw_p58 : lw_okq (⟨"LinkHarbourModel$Linked", "place", "()V"⟩, 25) := ⟨⟨by decide +kernel, by decide +kernel⟩, List.mem_of_getElem? (i := 1682) (by decide +kernel), List.mem_of_getElem? (i := 1741) (by decide +kernel), List.mem_of_getElem? (i := 1742) (by decide +kernel)⟩
theorem lw_p59 : lw_okq (⟨"LinkHarbourModel$Linked", "wordsUpTo", "(II)I"⟩, 25) := ⟨⟨by decide +kernel, by decide +kernel⟩, List.mem_of_getElem? (i := 1682) (by decide +kernel), List.mem_of_getElem? (i := 1748) (by decide +kernel), List.mem_of_getElem? (i := 1749) (by decide +kernel)⟩
theorem lw_p60 : lw_okq (⟨"LinkHarbourModel$Linked", "wordsOf", "(II)I"⟩, 25) := ⟨⟨by decide +kernel, by decide +kernel⟩, List.mem_of_getElem? (i := 1682) (by decide +kernel), List.mem_of_getElem? (i := 1752) (by decide +kernel), List.mem_of_getElem? (i := 1753) (by decide +kernel)⟩
theorem lw_p61 : lw_okq (⟨"LinkHarbourModel$Linked", "standsFor", "(I)I"⟩, 25) := ⟨⟨by decide +kernel, by decide +kernel⟩, List.mem_of_getElem? (i := 1682) (by decide +kernel), List.mem_of_getElem? (i := 1756) (by decide +kernel), List.mem_of_getElem? (i := 1757) (by decide +kernel)⟩
theorem lw_p62 : lw_okq (⟨"LinkHarbourModel$Linked", "write", "()V"⟩, 25) := ⟨⟨by decide +kernel, by decide +kernel⟩, List.mem_of_getElem? (i := 1682) (by decide +kernel), List.mem_of_getElem? (i := 1761) (by decide +kernel), List.mem_of_getElem? (i := 1762) (by decide +kernel)⟩
theorem lw_p63 : lw_okq (⟨"LinkHarbourModel$Linked", "writePiece", "(III)V"⟩, 25) := ⟨⟨by decide +kernel, by decide +kernel⟩, List.mem_of_getElem? (i := 1682) (by decide +kernel), List.mem_of_getElem? (i := 1765) (by decide +kernel), List.mem_of_getElem? (i := 1766) (by decide +kernel)⟩
def lw_privs_4 : List (MethodName × Nat) := [(⟨"LinkHarbourModel$Linked", "isDrawn", "(I)Z"⟩, 25), (⟨"LinkHarbourModel$Linked", "isWanted", "(I)Z"⟩, 25), (⟨"LinkHarbourModel$Linked", "nameAt", "(II)I"⟩, 25), (⟨"LinkHarbourModel$Linked", "settle", "(I)V"⟩, 25), (⟨"LinkHarbourModel$Linked", "firstWith", "(II)I"⟩, 25), (⟨"LinkHarbourModel$Linked", "fault", "(IIII)V"⟩, 25), (⟨"LinkHarbourModel$Linked", "reachAll", "()V"⟩, 25), (⟨"LinkHarbourModel$Linked", "reachName", "(I)Z"⟩, 25), (⟨"LinkHarbourModel$Linked", "sectionOf", "(I)I"⟩, 25), (⟨"LinkHarbourModel$Linked", "layOut", "()V"⟩, 25), (⟨"LinkHarbourModel$Linked", "place", "()V"⟩, 25), (⟨"LinkHarbourModel$Linked", "wordsUpTo", "(II)I"⟩, 25), (⟨"LinkHarbourModel$Linked", "wordsOf", "(II)I"⟩, 25), (⟨"LinkHarbourModel$Linked", "standsFor", "(I)I"⟩, 25), (⟨"LinkHarbourModel$Linked", "write", "()V"⟩, 25), (⟨"LinkHarbourModel$Linked", "writePiece", "(III)V"⟩, 25)]
theorem lw_r4 : ∀ q ∈ lw_privs_4, lw_okq q := List.forall_mem_cons.mpr ⟨lw_p48, List.forall_mem_cons.mpr ⟨lw_p49, List.forall_mem_cons.mpr ⟨lw_p50, List.forall_mem_cons.mpr ⟨lw_p51, List.forall_mem_cons.mpr ⟨lw_p52, List.forall_mem_cons.mpr ⟨lw_p53, List.forall_mem_cons.mpr ⟨lw_p54, List.forall_mem_cons.mpr ⟨lw_p55, List.forall_mem_cons.mpr ⟨lw_p56, List.forall_mem_cons.mpr ⟨lw_p57, List.forall_mem_cons.mpr ⟨lw_p58, List.forall_mem_cons.mpr ⟨lw_p59, List.forall_mem_cons.mpr ⟨lw_p60, List.forall_mem_cons.mpr ⟨lw_p61, List.forall_mem_cons.mpr ⟨lw_p62, List.forall_mem_cons.mpr ⟨lw_p63, fun _ h => absurd h List.not_mem_nil⟩⟩⟩⟩⟩⟩⟩⟩⟩⟩⟩⟩⟩⟩⟩⟩
theorem lw_p64 : lw_okq (⟨"LinkHarbourModel$Linked", "longOf", "(I)I"⟩, 25) := ⟨⟨by decide +kernel, by decide +kernel⟩, List.mem_of_getElem? (i := 1682) (by decide +kernel), List.mem_of_getElem? (i := 1861) (by decide +kernel), List.mem_of_getElem? (i := 1862) (by decide +kernel)⟩
theorem lw_p65 : lw_okq (⟨"LinkHarbourModel", "ofSectionNow", "(II)I"⟩, 30) := ⟨⟨by decide +kernel, by decide +kernel⟩, List.mem_of_getElem? (i := 1471) (by decide +kernel), List.mem_of_getElem? (i := 1869) (by decide +kernel), List.mem_of_getElem? (i := 1870) (by decide +kernel)⟩
theorem lw_p66 : lw_okq (⟨"LinkHarbourModel", "ofNameNow", "(II)I"⟩, 30) := ⟨⟨by decide +kernel, by decide +kernel⟩, List.mem_of_getElem? (i := 1471) (by decide +kernel), List.mem_of_getElem? (i := 1877) (by decide +kernel), List.mem_of_getElem? (i := 1878) (by decide +kernel)⟩
theorem lw_p67 : lw_okq (⟨"LinkHarbourModel$Linked", "ofName", "(II)I"⟩, 25) := ⟨⟨by decide +kernel, by decide +kernel⟩, List.mem_of_getElem? (i := 1682) (by decide +kernel), List.mem_of_getElem? (i := 1881) (by decide +kernel), List.mem_of_getElem? (i := 1882) (by decide +kernel)⟩
theorem lw_p68 : lw_okq (⟨"LinkHarbourModel", "isLibrary", "(I)Z"⟩, 30) := ⟨⟨by decide +kernel, by decide +kernel⟩, List.mem_of_getElem? (i := 1471) (by decide +kernel), List.mem_of_getElem? (i := 1901) (by decide +kernel), List.mem_of_getElem? (i := 1902) (by decide +kernel)⟩
theorem lw_p69 : lw_okq (⟨"LinkHarbourModel", "rowOf", "(I)[I"⟩, 30) := ⟨⟨by decide +kernel, by decide +kernel⟩, List.mem_of_getElem? (i := 1471) (by decide +kernel), List.mem_of_getElem? (i := 1905) (by decide +kernel), List.mem_of_getElem? (i := 1906) (by decide +kernel)⟩
theorem lw_p70 : lw_okq (⟨"LinkHarbourModel", "isLoaded", "(I)Z"⟩, 30) := ⟨⟨by decide +kernel, by decide +kernel⟩, List.mem_of_getElem? (i := 1471) (by decide +kernel), List.mem_of_getElem? (i := 1916) (by decide +kernel), List.mem_of_getElem? (i := 1917) (by decide +kernel)⟩
theorem lw_p71 : lw_okq (⟨"LinkHarbourModel", "baseNow", "()I"⟩, 30) := ⟨⟨by decide +kernel, by decide +kernel⟩, List.mem_of_getElem? (i := 1471) (by decide +kernel), List.mem_of_getElem? (i := 1920) (by decide +kernel), List.mem_of_getElem? (i := 1921) (by decide +kernel)⟩
theorem lw_p72 : lw_okq (⟨"LinkHarbourModel", "go", "(III)I"⟩, 30) := ⟨⟨by decide +kernel, by decide +kernel⟩, List.mem_of_getElem? (i := 1471) (by decide +kernel), List.mem_of_getElem? (i := 1924) (by decide +kernel), List.mem_of_getElem? (i := 1925) (by decide +kernel)⟩
theorem lw_p73 : lw_okq (⟨"LinkHarbourModel", "goesNow", "(I)I"⟩, 30) := ⟨⟨by decide +kernel, by decide +kernel⟩, List.mem_of_getElem? (i := 1471) (by decide +kernel), List.mem_of_getElem? (i := 1932) (by decide +kernel), List.mem_of_getElem? (i := 1933) (by decide +kernel)⟩
theorem lw_p74 : lw_okq (⟨"LinkHarbourModel", "canCall", "(II)Z"⟩, 30) := ⟨⟨by decide +kernel, by decide +kernel⟩, List.mem_of_getElem? (i := 1471) (by decide +kernel), List.mem_of_getElem? (i := 1943) (by decide +kernel), List.mem_of_getElem? (i := 1944) (by decide +kernel)⟩
theorem lw_p75 : lw_okq (⟨"LinkHarbourModel", "find", "(II)I"⟩, 30) := ⟨⟨by decide +kernel, by decide +kernel⟩, List.mem_of_getElem? (i := 1471) (by decide +kernel), List.mem_of_getElem? (i := 1947) (by decide +kernel), List.mem_of_getElem? (i := 1948) (by decide +kernel)⟩
theorem lw_p76 : lw_okq (⟨"LinkHarbourModel", "ofBindingNow", "(III)I"⟩, 30) := ⟨⟨by decide +kernel, by decide +kernel⟩, List.mem_of_getElem? (i := 1471) (by decide +kernel), List.mem_of_getElem? (i := 1955) (by decide +kernel), List.mem_of_getElem? (i := 1956) (by decide +kernel)⟩
theorem lw_p77 : lw_okq (⟨"LinkHarbourModel", "ofLibraryNow", "(II)I"⟩, 30) := ⟨⟨by decide +kernel, by decide +kernel⟩, List.mem_of_getElem? (i := 1471) (by decide +kernel), List.mem_of_getElem? (i := 1963) (by decide +kernel), List.mem_of_getElem? (i := 1964) (by decide +kernel)⟩
theorem lw_p78 : lw_okq (⟨"LinkHarbourModel", "exports", "(I)I"⟩, 30) := ⟨⟨by decide +kernel, by decide +kernel⟩, List.mem_of_getElem? (i := 1471) (by decide +kernel), List.mem_of_getElem? (i := 1967) (by decide +kernel), List.mem_of_getElem? (i := 1968) (by decide +kernel)⟩
theorem lw_p79 : lw_okq (⟨"LinkHarbourModel", "manyNow", "(I)I"⟩, 30) := ⟨⟨by decide +kernel, by decide +kernel⟩, List.mem_of_getElem? (i := 1471) (by decide +kernel), List.mem_of_getElem? (i := 1978) (by decide +kernel), List.mem_of_getElem? (i := 1979) (by decide +kernel)⟩
def lw_privs_5 : List (MethodName × Nat) := [(⟨"LinkHarbourModel$Linked", "longOf", "(I)I"⟩, 25), (⟨"LinkHarbourModel", "ofSectionNow", "(II)I"⟩, 30), (⟨"LinkHarbourModel", "ofNameNow", "(II)I"⟩, 30), (⟨"LinkHarbourModel$Linked", "ofName", "(II)I"⟩, 25), (⟨"LinkHarbourModel", "isLibrary", "(I)Z"⟩, 30), (⟨"LinkHarbourModel", "rowOf", "(I)[I"⟩, 30), (⟨"LinkHarbourModel", "isLoaded", "(I)Z"⟩, 30), (⟨"LinkHarbourModel", "baseNow", "()I"⟩, 30), (⟨"LinkHarbourModel", "go", "(III)I"⟩, 30), (⟨"LinkHarbourModel", "goesNow", "(I)I"⟩, 30), (⟨"LinkHarbourModel", "canCall", "(II)Z"⟩, 30), (⟨"LinkHarbourModel", "find", "(II)I"⟩, 30), (⟨"LinkHarbourModel", "ofBindingNow", "(III)I"⟩, 30), (⟨"LinkHarbourModel", "ofLibraryNow", "(II)I"⟩, 30), (⟨"LinkHarbourModel", "exports", "(I)I"⟩, 30), (⟨"LinkHarbourModel", "manyNow", "(I)I"⟩, 30)]
theorem lw_r5 : ∀ q ∈ lw_privs_5, lw_okq q := List.forall_mem_cons.mpr ⟨lw_p64, List.forall_mem_cons.mpr ⟨lw_p65, List.forall_mem_cons.mpr ⟨lw_p66, List.forall_mem_cons.mpr ⟨lw_p67, List.forall_mem_cons.mpr ⟨lw_p68, List.forall_mem_cons.mpr ⟨lw_p69, List.forall_mem_cons.mpr ⟨lw_p70, List.forall_mem_cons.mpr ⟨lw_p71, List.forall_mem_cons.mpr ⟨lw_p72, List.forall_mem_cons.mpr ⟨lw_p73, List.forall_mem_cons.mpr ⟨lw_p74, List.forall_mem_cons.mpr ⟨lw_p75, List.forall_mem_cons.mpr ⟨lw_p76, List.forall_mem_cons.mpr ⟨lw_p77, List.forall_mem_cons.mpr ⟨lw_p78, List.forall_mem_cons.mpr ⟨lw_p79, fun _ h => absurd h List.not_mem_nil⟩⟩⟩⟩⟩⟩⟩⟩⟩⟩⟩⟩⟩⟩⟩⟩
theorem lw_p80 : lw_okq (⟨"LinkHarbourModel$Linked", "reachedSections", "()I"⟩, 25) := ⟨⟨by decide +kernel, by decide +kernel⟩, List.mem_of_getElem? (i := 1682) (by decide +kernel), List.mem_of_getElem? (i := 1982) (by decide +kernel), List.mem_of_getElem? (i := 1983) (by decide +kernel)⟩
theorem lw_p81 : lw_okq (⟨"LinkHarbourModel$Linked", "allLong", "()I"⟩, 25) := ⟨⟨by decide +kernel, by decide +kernel⟩, List.mem_of_getElem? (i := 1682) (by decide +kernel), List.mem_of_getElem? (i := 1986) (by decide +kernel), List.mem_of_getElem? (i := 1987) (by decide +kernel)⟩
theorem lw_p82 : lw_okq (⟨"LinkHarbourModel", "wouldBindNow", "(II)I"⟩, 30) := ⟨⟨by decide +kernel, by decide +kernel⟩, List.mem_of_getElem? (i := 1471) (by decide +kernel), List.mem_of_getElem? (i := 2010) (by decide +kernel), List.mem_of_getElem? (i := 2011) (by decide +kernel)⟩
def lw_privs_6 : List (MethodName × Nat) := [(⟨"LinkHarbourModel$Linked", "reachedSections", "()I"⟩, 25), (⟨"LinkHarbourModel$Linked", "allLong", "()I"⟩, 25), (⟨"LinkHarbourModel", "wouldBindNow", "(II)I"⟩, 30)]
theorem lw_r6 : ∀ q ∈ lw_privs_6, lw_okq q := List.forall_mem_cons.mpr ⟨lw_p80, List.forall_mem_cons.mpr ⟨lw_p81, List.forall_mem_cons.mpr ⟨lw_p82, fun _ h => absurd h List.not_mem_nil⟩⟩⟩
def lw_privs : List (MethodName × Nat) := lw_privs_1 ++ (lw_privs_2 ++ (lw_privs_3 ++ (lw_privs_4 ++ (lw_privs_5 ++ (lw_privs_6)))))
def lw_tbl : List Cond := k2_sels lw_privs ++ tables_1
theorem lw_privs_ok : ∀ q ∈ lw_privs, lw_okq q := by
  show ∀ q ∈ lw_privs_1 ++ (lw_privs_2 ++ (lw_privs_3 ++ (lw_privs_4 ++ (lw_privs_5 ++ (lw_privs_6))))), lw_okq q
  exact List.forall_mem_append.mpr ⟨lw_r1, List.forall_mem_append.mpr ⟨lw_r2, List.forall_mem_append.mpr ⟨lw_r3, List.forall_mem_append.mpr ⟨lw_r4, List.forall_mem_append.mpr ⟨lw_r5, lw_r6⟩⟩⟩⟩⟩
/-- the streams that the claim lets the run draw from -/
abbrev lw_cs : List Choice := [Jvm.Choice.named "NaN.bits"]
theorem lw_bits : nanBits ∈ lw_cs := by first | decide | exact List.mem_cons_self | simp [lw_cs, nanBits]

def RX0 : String := "LinkHarbour$FaultList"
def TX0 : u_T := fun k => match k with
  | 0 => ("LinkHarbour$FaultList", "parts", "[I", true)
  | _ => ("LinkHarbour$FaultList", "count", "I", false)
def tyX0 : Nat → FieldType := fun k => match k with
  | 0 => .array .int
  | _ => .int
theorem nmX0 : ∀ a, a < 2 → ∀ b, b < 2 → a ≠ b → (TX0 a).2.1 ≠ (TX0 b).2.1 := by decide +kernel
theorem tyX0_ok : ∀ k, k < 2 → parseFieldDescriptor (TX0 k).2.2.1 = some (tyX0 k) := by decide +kernel
abbrev cX0_init : ByteArray := prog_2_method_1_code
def yX0_init : MethodName := ⟨RX0, "<init>", "()V"⟩
abbrev cX0_count : ByteArray := prog_2_method_2_code
def yX0_count : MethodName := ⟨RX0, "count", "()I"⟩
abbrev cX0_forget : ByteArray := prog_2_method_3_code
def yX0_forget : MethodName := ⟨RX0, "forget", "()V"⟩
abbrev cX0_add : ByteArray := prog_2_method_4_code
def yX0_add : MethodName := ⟨RX0, "add", "(IIII)V"⟩
abbrev cX0_part : ByteArray := prog_2_method_5_code
def yX0_part : MethodName := ⟨RX0, "part", "(II)I"⟩
def RX1 : String := "LinkHarbour$Image"
def TX1 : u_T := fun k => match k with
  | _ => ("LinkHarbour$Image", "words", "[I", false)
def tyX1 : Nat → FieldType := fun k => match k with
  | _ => .array .int
theorem nmX1 : ∀ a, a < 1 → ∀ b, b < 1 → a ≠ b → (TX1 a).2.1 ≠ (TX1 b).2.1 := by decide +kernel
theorem tyX1_ok : ∀ k, k < 1 → parseFieldDescriptor (TX1 k).2.2.1 = some (tyX1 k) := by decide +kernel
abbrev cX1_init : ByteArray := prog_3_method_1_code
def yX1_init : MethodName := ⟨RX1, "<init>", "()V"⟩
abbrev cX1_clearUpTo : ByteArray := prog_3_method_2_code
def yX1_clearUpTo : MethodName := ⟨RX1, "clearUpTo", "(I)V"⟩
abbrev cX1_put : ByteArray := prog_3_method_3_code
def yX1_put : MethodName := ⟨RX1, "put", "(II)V"⟩
abbrev cX1_read : ByteArray := prog_3_method_4_code
def yX1_read : MethodName := ⟨RX1, "read", "(I)I"⟩
def RX2 : String := "LinkHarbour$ItemRow"
def TX2 : u_T := fun k => match k with
  | 0 => ("LinkHarbour$ItemRow", "sets", "[I", true)
  | 1 => ("LinkHarbour$ItemRow", "kinds", "[I", true)
  | _ => ("LinkHarbour$ItemRow", "count", "I", false)
def tyX2 : Nat → FieldType := fun k => match k with
  | 0 => .array .int
  | 1 => .array .int
  | _ => .int
theorem nmX2 : ∀ a, a < 3 → ∀ b, b < 3 → a ≠ b → (TX2 a).2.1 ≠ (TX2 b).2.1 := by decide +kernel
theorem tyX2_ok : ∀ k, k < 3 → parseFieldDescriptor (TX2 k).2.2.1 = some (tyX2 k) := by decide +kernel
abbrev cX2_init : ByteArray := prog_4_method_1_code
def yX2_init : MethodName := ⟨RX2, "<init>", "()V"⟩
abbrev cX2_count : ByteArray := prog_4_method_2_code
def yX2_count : MethodName := ⟨RX2, "count", "()I"⟩
abbrev cX2_isFull : ByteArray := prog_4_method_3_code
def yX2_isFull : MethodName := ⟨RX2, "isFull", "()Z"⟩
abbrev cX2_add : ByteArray := prog_4_method_4_code
def yX2_add : MethodName := ⟨RX2, "add", "(II)I"⟩
abbrev cX2_removeAll : ByteArray := prog_4_method_5_code
def yX2_removeAll : MethodName := ⟨RX2, "removeAll", "()I"⟩
abbrev cX2_hasAny : ByteArray := prog_4_method_6_code
def yX2_hasAny : MethodName := ⟨RX2, "hasAny", "(I)Z"⟩
abbrev cX2_itemOf : ByteArray := prog_4_method_7_code
def yX2_itemOf : MethodName := ⟨RX2, "itemOf", "(I)I"⟩
abbrev cX2_set : ByteArray := prog_4_method_8_code
def yX2_set : MethodName := ⟨RX2, "set", "(I)I"⟩
abbrev cX2_isPlain : ByteArray := prog_4_method_9_code
def yX2_isPlain : MethodName := ⟨RX2, "isPlain", "(I)Z"⟩
abbrev cX2_joinsAhead : ByteArray := prog_4_method_10_code
def yX2_joinsAhead : MethodName := ⟨RX2, "joinsAhead", "(I)Z"⟩
abbrev cX2_groupEnd : ByteArray := prog_4_method_11_code
def yX2_groupEnd : MethodName := ⟨RX2, "groupEnd", "(I)I"⟩
def RX3 : String := "LinkHarbour$Layout"
def TX3 : u_T := fun k => match k with
  | 0 => ("LinkHarbour$Layout", "sections", "LLinkHarbour$SectionTable;", true)
  | 1 => ("LinkHarbour$Layout", "taking", "LLinkHarbour$Taking;", true)
  | 2 => ("LinkHarbour$Layout", "settling", "LLinkHarbour$Settling;", true)
  | 3 => ("LinkHarbour$Layout", "reaching", "LLinkHarbour$Reaching;", true)
  | 4 => ("LinkHarbour$Layout", "order", "[I", true)
  | 5 => ("LinkHarbour$Layout", "laid", "I", false)
  | 6 => ("LinkHarbour$Layout", "addressOf", "[I", true)
  | 7 => ("LinkHarbour$Layout", "wordsOf", "[I", true)
  | 8 => ("LinkHarbour$Layout", "longsOf", "[I", true)
  | 9 => ("LinkHarbour$Layout", "width", "[I", true)
  | 10 => ("LinkHarbour$Layout", "addressOfName", "[I", true)
  | 11 => ("LinkHarbour$Layout", "size", "I", false)
  | _ => ("LinkHarbour$Layout", "used", "I", false)
def tyX3 : Nat → FieldType := fun k => match k with
  | 0 => .object "LinkHarbour$SectionTable"
  | 1 => .object "LinkHarbour$Taking"
  | 2 => .object "LinkHarbour$Settling"
  | 3 => .object "LinkHarbour$Reaching"
  | 4 => .array .int
  | 5 => .int
  | 6 => .array .int
  | 7 => .array .int
  | 8 => .array .int
  | 9 => .array .int
  | 10 => .array .int
  | 11 => .int
  | _ => .int
theorem nmX3 : ∀ a, a < 13 → ∀ b, b < 13 → a ≠ b → (TX3 a).2.1 ≠ (TX3 b).2.1 := by decide +kernel
theorem tyX3_ok : ∀ k, k < 13 → parseFieldDescriptor (TX3 k).2.2.1 = some (tyX3 k) := by decide +kernel
abbrev cX3_init : ByteArray := prog_5_method_1_code
def yX3_init : MethodName := ⟨RX3, "<init>", "(LLinkHarbour$SectionTable;LLinkHarbour$Taking;LLinkHarbour$Settling;LLinkHarbour$Reaching;)V"⟩
abbrev cX3_size : ByteArray := prog_5_method_2_code
def yX3_size : MethodName := ⟨RX3, "size", "()I"⟩
abbrev cX3_used : ByteArray := prog_5_method_3_code
def yX3_used : MethodName := ⟨RX3, "used", "()I"⟩
abbrev cX3_laid : ByteArray := prog_5_method_4_code
def yX3_laid : MethodName := ⟨RX3, "laid", "()I"⟩
abbrev cX3_sectionAt : ByteArray := prog_5_method_5_code
def yX3_sectionAt : MethodName := ⟨RX3, "sectionAt", "(I)I"⟩
abbrev cX3_addressOf : ByteArray := prog_5_method_6_code
def yX3_addressOf : MethodName := ⟨RX3, "addressOf", "(I)I"⟩
abbrev cX3_wordsOf : ByteArray := prog_5_method_7_code
def yX3_wordsOf : MethodName := ⟨RX3, "wordsOf", "(I)I"⟩
abbrev cX3_longsOf : ByteArray := prog_5_method_8_code
def yX3_longsOf : MethodName := ⟨RX3, "longsOf", "(I)I"⟩
abbrev cX3_countLongs : ByteArray := prog_5_method_9_code
def yX3_countLongs : MethodName := ⟨RX3, "countLongs", "()I"⟩
abbrev cX3_addressOfName : ByteArray := prog_5_method_10_code
def yX3_addressOfName : MethodName := ⟨RX3, "addressOfName", "(I)I"⟩
abbrev cX3_standsFor : ByteArray := prog_5_method_11_code
def yX3_standsFor : MethodName := ⟨RX3, "standsFor", "(I)I"⟩
abbrev cX3_width : ByteArray := prog_5_method_12_code
def yX3_width : MethodName := ⟨RX3, "width", "(II)I"⟩
abbrev cX3_layOut : ByteArray := prog_5_method_13_code
def yX3_layOut : MethodName := ⟨RX3, "layOut", "(I)V"⟩
abbrev cX3_orderSections : ByteArray := prog_5_method_14_code
def yX3_orderSections : MethodName := ⟨RX3, "orderSections", "()V"⟩
abbrev cX3_append : ByteArray := prog_5_method_15_code
def yX3_append : MethodName := ⟨RX3, "append", "(I)V"⟩
abbrev cX3_placeSections : ByteArray := prog_5_method_16_code
def yX3_placeSections : MethodName := ⟨RX3, "placeSections", "()V"⟩
abbrev cX3_placeCommons : ByteArray := prog_5_method_17_code
def yX3_placeCommons : MethodName := ⟨RX3, "placeCommons", "()V"⟩
abbrev cX3_addressNames : ByteArray := prog_5_method_18_code
def yX3_addressNames : MethodName := ⟨RX3, "addressNames", "()V"⟩
abbrev cX3_wordsAhead : ByteArray := prog_5_method_19_code
def yX3_wordsAhead : MethodName := ⟨RX3, "wordsAhead", "(II)I"⟩
abbrev cX3_lengthenAll : ByteArray := prog_5_method_20_code
def yX3_lengthenAll : MethodName := ⟨RX3, "lengthenAll", "(I)Z"⟩
abbrev cX3_lengthenIn : ByteArray := prog_5_method_21_code
def yX3_lengthenIn : MethodName := ⟨RX3, "lengthenIn", "(II)Z"⟩
def RX4 : String := "LinkHarbour$LibraryTable"
def TX4 : u_T := fun k => match k with
  | 0 => ("LinkHarbour$LibraryTable", "sizeOf", "[I", true)
  | 1 => ("LinkHarbour$LibraryTable", "needsOf", "[I", true)
  | 2 => ("LinkHarbour$LibraryTable", "exportsOf", "[I", true)
  | 3 => ("LinkHarbour$LibraryTable", "importsOf", "[I", true)
  | 4 => ("LinkHarbour$LibraryTable", "addressOf", "[I", true)
  | 5 => ("LinkHarbour$LibraryTable", "openedOf", "[I", true)
  | 6 => ("LinkHarbour$LibraryTable", "baseOf", "[I", true)
  | 7 => ("LinkHarbour$LibraryTable", "boundTo", "[I", true)
  | 8 => ("LinkHarbour$LibraryTable", "global", "[I", true)
  | 9 => ("LinkHarbour$LibraryTable", "initialised", "[I", true)
  | 10 => ("LinkHarbour$LibraryTable", "row", "[I", true)
  | 11 => ("LinkHarbour$LibraryTable", "way", "[I", true)
  | 12 => ("LinkHarbour$LibraryTable", "rowSet", "I", false)
  | 13 => ("LinkHarbour$LibraryTable", "count", "I", false)
  | 14 => ("LinkHarbour$LibraryTable", "globalCount", "I", false)
  | _ => ("LinkHarbour$LibraryTable", "initialisedCount", "I", false)
def tyX4 : Nat → FieldType := fun k => match k with
  | 0 => .array .int
  | 1 => .array .int
  | 2 => .array .int
  | 3 => .array .int
  | 4 => .array .int
  | 5 => .array .int
  | 6 => .array .int
  | 7 => .array .int
  | 8 => .array .int
  | 9 => .array .int
  | 10 => .array .int
  | 11 => .array .int
  | 12 => .int
  | 13 => .int
  | 14 => .int
  | _ => .int
theorem nmX4 : ∀ a, a < 16 → ∀ b, b < 16 → a ≠ b → (TX4 a).2.1 ≠ (TX4 b).2.1 := by decide +kernel
theorem tyX4_ok : ∀ k, k < 16 → parseFieldDescriptor (TX4 k).2.2.1 = some (tyX4 k) := by decide +kernel
abbrev cX4_init : ByteArray := prog_6_method_1_code
def yX4_init : MethodName := ⟨RX4, "<init>", "()V"⟩
abbrev cX4_count : ByteArray := prog_6_method_2_code
def yX4_count : MethodName := ⟨RX4, "count", "()I"⟩
abbrev cX4_isFull : ByteArray := prog_6_method_3_code
def yX4_isFull : MethodName := ⟨RX4, "isFull", "()Z"⟩
abbrev cX4_has : ByteArray := prog_6_method_4_code
def yX4_has : MethodName := ⟨RX4, "has", "(I)Z"⟩
abbrev cX4_size : ByteArray := prog_6_method_5_code
def yX4_size : MethodName := ⟨RX4, "size", "(I)I"⟩
abbrev cX4_needs : ByteArray := prog_6_method_6_code
def yX4_needs : MethodName := ⟨RX4, "needs", "(I)I"⟩
abbrev cX4_exports : ByteArray := prog_6_method_7_code
def yX4_exports : MethodName := ⟨RX4, "exports", "(I)I"⟩
abbrev cX4_imports : ByteArray := prog_6_method_8_code
def yX4_imports : MethodName := ⟨RX4, "imports", "(I)I"⟩
abbrev cX4_opened : ByteArray := prog_6_method_9_code
def yX4_opened : MethodName := ⟨RX4, "opened", "(I)I"⟩
abbrev cX4_base : ByteArray := prog_6_method_10_code
def yX4_base : MethodName := ⟨RX4, "base", "(I)I"⟩
abbrev cX4_isLoaded : ByteArray := prog_6_method_11_code
def yX4_isLoaded : MethodName := ⟨RX4, "isLoaded", "(I)Z"⟩
abbrev cX4_isExport : ByteArray := prog_6_method_12_code
def yX4_isExport : MethodName := ⟨RX4, "isExport", "(II)Z"⟩
abbrev cX4_isImport : ByteArray := prog_6_method_13_code
def yX4_isImport : MethodName := ⟨RX4, "isImport", "(II)Z"⟩
abbrev cX4_exportAddress : ByteArray := prog_6_method_14_code
def yX4_exportAddress : MethodName := ⟨RX4, "exportAddress", "(II)I"⟩
abbrev cX4_boundTo : ByteArray := prog_6_method_15_code
def yX4_boundTo : MethodName := ⟨RX4, "boundTo", "(II)I"⟩
abbrev cX4_boundAddress : ByteArray := prog_6_method_16_code
def yX4_boundAddress : MethodName := ⟨RX4, "boundAddress", "(II)I"⟩
abbrev cX4_placeAmongGlobal : ByteArray := prog_6_method_17_code
def yX4_placeAmongGlobal : MethodName := ⟨RX4, "placeAmongGlobal", "(I)I"⟩
abbrev cX4_placeAmongInitialised : ByteArray := prog_6_method_18_code
def yX4_placeAmongInitialised : MethodName := ⟨RX4, "placeAmongInitialised", "(I)I"⟩
abbrev cX4_placeIn : ByteArray := prog_6_method_19_code
def yX4_placeIn : MethodName := ⟨RX4, "placeIn", "([III)I"⟩
abbrev cX4_countLoaded : ByteArray := prog_6_method_20_code
def yX4_countLoaded : MethodName := ⟨RX4, "countLoaded", "()I"⟩
abbrev cX4_countGlobal : ByteArray := prog_6_method_21_code
def yX4_countGlobal : MethodName := ⟨RX4, "countGlobal", "()I"⟩
abbrev cX4_countBindings : ByteArray := prog_6_method_22_code
def yX4_countBindings : MethodName := ⟨RX4, "countBindings", "()I"⟩
abbrev cX4_add : ByteArray := prog_6_method_23_code
def yX4_add : MethodName := ⟨RX4, "add", "(LLinkHarbour$Link;I)I"⟩
abbrev cX4_neededNow : ByteArray := prog_6_method_24_code
def yX4_neededNow : MethodName := ⟨RX4, "neededNow", "(I)I"⟩
abbrev cX4_loaded : ByteArray := prog_6_method_25_code
def yX4_loaded : MethodName := ⟨RX4, "loaded", "()I"⟩
abbrev cX4_fillRow : ByteArray := prog_6_method_26_code
def yX4_fillRow : MethodName := ⟨RX4, "fillRow", "(I)I"⟩
abbrev cX4_openOne : ByteArray := prog_6_method_27_code
def yX4_openOne : MethodName := ⟨RX4, "openOne", "(IZ)I"⟩
abbrev cX4_load : ByteArray := prog_6_method_28_code
def yX4_load : MethodName := ⟨RX4, "load", "(I)V"⟩
abbrev cX4_makeGlobal : ByteArray := prog_6_method_29_code
def yX4_makeGlobal : MethodName := ⟨RX4, "makeGlobal", "(I)V"⟩
abbrev cX4_initialise : ByteArray := prog_6_method_30_code
def yX4_initialise : MethodName := ⟨RX4, "initialise", "(II)V"⟩
abbrev cX4_lowestOf : ByteArray := prog_6_method_31_code
def yX4_lowestOf : MethodName := ⟨RX4, "lowestOf", "(I)I"⟩
abbrev cX4_closeOne : ByteArray := prog_6_method_32_code
def yX4_closeOne : MethodName := ⟨RX4, "closeOne", "(I)I"⟩
abbrev cX4_leavingBy : ByteArray := prog_6_method_33_code
def yX4_leavingBy : MethodName := ⟨RX4, "leavingBy", "(I)I"⟩
abbrev cX4_finish : ByteArray := prog_6_method_34_code
def yX4_finish : MethodName := ⟨RX4, "finish", "(I)V"⟩
abbrev cX4_without : ByteArray := prog_6_method_35_code
def yX4_without : MethodName := ⟨RX4, "without", "([III)I"⟩
abbrev cX4_bind : ByteArray := prog_6_method_36_code
def yX4_bind : MethodName := ⟨RX4, "bind", "(II)I"⟩
abbrev cX4_firstExporter : ByteArray := prog_6_method_37_code
def yX4_firstExporter : MethodName := ⟨RX4, "firstExporter", "(II)I"⟩
def RX5 : String := "LinkHarbour$Link"
def TX5 : u_T := fun k => match k with
  | 0 => ("LinkHarbour$Link", "sections", "LLinkHarbour$SectionTable;", true)
  | 1 => ("LinkHarbour$Link", "taking", "LLinkHarbour$Taking;", true)
  | 2 => ("LinkHarbour$Link", "settling", "LLinkHarbour$Settling;", true)
  | 3 => ("LinkHarbour$Link", "reaching", "LLinkHarbour$Reaching;", true)
  | 4 => ("LinkHarbour$Link", "layout", "LLinkHarbour$Layout;", true)
  | 5 => ("LinkHarbour$Link", "faults", "LLinkHarbour$FaultList;", true)
  | 6 => ("LinkHarbour$Link", "isDone", "Z", false)
  | 7 => ("LinkHarbour$Link", "isShared", "Z", false)
  | _ => ("LinkHarbour$Link", "entry", "I", false)
def tyX5 : Nat → FieldType := fun k => match k with
  | 0 => .object "LinkHarbour$SectionTable"
  | 1 => .object "LinkHarbour$Taking"
  | 2 => .object "LinkHarbour$Settling"
  | 3 => .object "LinkHarbour$Reaching"
  | 4 => .object "LinkHarbour$Layout"
  | 5 => .object "LinkHarbour$FaultList"
  | 6 => .boolean
  | 7 => .boolean
  | _ => .int
theorem nmX5 : ∀ a, a < 9 → ∀ b, b < 9 → a ≠ b → (TX5 a).2.1 ≠ (TX5 b).2.1 := by decide +kernel
theorem tyX5_ok : ∀ k, k < 9 → parseFieldDescriptor (TX5 k).2.2.1 = some (tyX5 k) := by decide +kernel
abbrev cX5_init : ByteArray := prog_7_method_1_code
def yX5_init : MethodName := ⟨RX5, "<init>", "(LLinkHarbour$ObjectTable;LLinkHarbour$SectionTable;LLinkHarbour$ItemRow;)V"⟩
abbrev cX5_isDone : ByteArray := prog_7_method_2_code
def yX5_isDone : MethodName := ⟨RX5, "isDone", "()Z"⟩
abbrev cX5_isShared : ByteArray := prog_7_method_3_code
def yX5_isShared : MethodName := ⟨RX5, "isShared", "()Z"⟩
abbrev cX5_entry : ByteArray := prog_7_method_4_code
def yX5_entry : MethodName := ⟨RX5, "entry", "()I"⟩
abbrev cX5_run : ByteArray := prog_7_method_5_code
def yX5_run : MethodName := ⟨RX5, "run", "(IZIII)V"⟩
abbrev cX5_tellFaults : ByteArray := prog_7_method_6_code
def yX5_tellFaults : MethodName := ⟨RX5, "tellFaults", "(I)V"⟩
abbrev cX5_tellFaultsOf : ByteArray := prog_7_method_7_code
def yX5_tellFaultsOf : MethodName := ⟨RX5, "tellFaultsOf", "(III)V"⟩
abbrev cX5_writeTo : ByteArray := prog_7_method_8_code
def yX5_writeTo : MethodName := ⟨RX5, "writeTo", "(LLinkHarbour$Image;)V"⟩
abbrev cX5_writePiece : ByteArray := prog_7_method_9_code
def yX5_writePiece : MethodName := ⟨RX5, "writePiece", "(LLinkHarbour$Image;III)V"⟩
def RX6 : String := "LinkHarbour$ObjectTable"
def TX6 : u_T := fun k => match k with
  | 0 => ("LinkHarbour$ObjectTable", "defined", "[I", true)
  | 1 => ("LinkHarbour$ObjectTable", "offered", "[I", true)
  | 2 => ("LinkHarbour$ObjectTable", "needed", "[I", true)
  | 3 => ("LinkHarbour$ObjectTable", "kindOf", "[I", true)
  | 4 => ("LinkHarbour$ObjectTable", "sectionOf", "[I", true)
  | 5 => ("LinkHarbour$ObjectTable", "placeOf", "[I", true)
  | 6 => ("LinkHarbour$ObjectTable", "sizeOf", "[I", true)
  | 7 => ("LinkHarbour$ObjectTable", "alignOf", "[I", true)
  | 8 => ("LinkHarbour$ObjectTable", "hidden", "[I", true)
  | _ => ("LinkHarbour$ObjectTable", "count", "I", false)
def tyX6 : Nat → FieldType := fun k => match k with
  | 0 => .array .int
  | 1 => .array .int
  | 2 => .array .int
  | 3 => .array .int
  | 4 => .array .int
  | 5 => .array .int
  | 6 => .array .int
  | 7 => .array .int
  | 8 => .array .int
  | _ => .int
theorem nmX6 : ∀ a, a < 10 → ∀ b, b < 10 → a ≠ b → (TX6 a).2.1 ≠ (TX6 b).2.1 := by decide +kernel
theorem tyX6_ok : ∀ k, k < 10 → parseFieldDescriptor (TX6 k).2.2.1 = some (tyX6 k) := by decide +kernel
abbrev cX6_init : ByteArray := prog_8_method_1_code
def yX6_init : MethodName := ⟨RX6, "<init>", "()V"⟩
abbrev cX6_count : ByteArray := prog_8_method_2_code
def yX6_count : MethodName := ⟨RX6, "count", "()I"⟩
abbrev cX6_isFull : ByteArray := prog_8_method_3_code
def yX6_isFull : MethodName := ⟨RX6, "isFull", "()Z"⟩
abbrev cX6_has : ByteArray := prog_8_method_4_code
def yX6_has : MethodName := ⟨RX6, "has", "(I)Z"⟩
abbrev cX6_hasAll : ByteArray := prog_8_method_5_code
def yX6_hasAll : MethodName := ⟨RX6, "hasAll", "(I)Z"⟩
abbrev cX6_add : ByteArray := prog_8_method_6_code
def yX6_add : MethodName := ⟨RX6, "add", "()I"⟩
abbrev cX6_defined : ByteArray := prog_8_method_7_code
def yX6_defined : MethodName := ⟨RX6, "defined", "(I)I"⟩
abbrev cX6_offered : ByteArray := prog_8_method_8_code
def yX6_offered : MethodName := ⟨RX6, "offered", "(I)I"⟩
abbrev cX6_needed : ByteArray := prog_8_method_9_code
def yX6_needed : MethodName := ⟨RX6, "needed", "(I)I"⟩
abbrev cX6_need : ByteArray := prog_8_method_10_code
def yX6_need : MethodName := ⟨RX6, "need", "(II)V"⟩
abbrev cX6_addDefinition : ByteArray := prog_8_method_11_code
def yX6_addDefinition : MethodName := ⟨RX6, "addDefinition", "(IIIII)V"⟩
abbrev cX6_hide : ByteArray := prog_8_method_12_code
def yX6_hide : MethodName := ⟨RX6, "hide", "(II)V"⟩
abbrev cX6_addCommon : ByteArray := prog_8_method_13_code
def yX6_addCommon : MethodName := ⟨RX6, "addCommon", "(IIII)V"⟩
abbrev cX6_kind : ByteArray := prog_8_method_14_code
def yX6_kind : MethodName := ⟨RX6, "kind", "(II)I"⟩
abbrev cX6_sectionOf : ByteArray := prog_8_method_15_code
def yX6_sectionOf : MethodName := ⟨RX6, "sectionOf", "(II)I"⟩
abbrev cX6_placeOf : ByteArray := prog_8_method_16_code
def yX6_placeOf : MethodName := ⟨RX6, "placeOf", "(II)I"⟩
abbrev cX6_size : ByteArray := prog_8_method_17_code
def yX6_size : MethodName := ⟨RX6, "size", "(II)I"⟩
abbrev cX6_align : ByteArray := prog_8_method_18_code
def yX6_align : MethodName := ⟨RX6, "align", "(II)I"⟩
abbrev cX6_isHidden : ByteArray := prog_8_method_19_code
def yX6_isHidden : MethodName := ⟨RX6, "isHidden", "(II)Z"⟩
def RX7 : String := "LinkHarbour$Reaching"
def TX7 : u_T := fun k => match k with
  | 0 => ("LinkHarbour$Reaching", "sections", "LLinkHarbour$SectionTable;", true)
  | 1 => ("LinkHarbour$Reaching", "taking", "LLinkHarbour$Taking;", true)
  | 2 => ("LinkHarbour$Reaching", "settling", "LLinkHarbour$Settling;", true)
  | 3 => ("LinkHarbour$Reaching", "found", "[I", true)
  | 4 => ("LinkHarbour$Reaching", "foundCount", "I", false)
  | 5 => ("LinkHarbour$Reaching", "sectionSet", "I", false)
  | 6 => ("LinkHarbour$Reaching", "commonSet", "I", false)
  | 7 => ("LinkHarbour$Reaching", "imports", "I", false)
  | _ => ("LinkHarbour$Reaching", "references", "[I", true)
def tyX7 : Nat → FieldType := fun k => match k with
  | 0 => .object "LinkHarbour$SectionTable"
  | 1 => .object "LinkHarbour$Taking"
  | 2 => .object "LinkHarbour$Settling"
  | 3 => .array .int
  | 4 => .int
  | 5 => .int
  | 6 => .int
  | 7 => .int
  | _ => .array .int
theorem nmX7 : ∀ a, a < 9 → ∀ b, b < 9 → a ≠ b → (TX7 a).2.1 ≠ (TX7 b).2.1 := by decide +kernel
theorem tyX7_ok : ∀ k, k < 9 → parseFieldDescriptor (TX7 k).2.2.1 = some (tyX7 k) := by decide +kernel
abbrev cX7_init : ByteArray := prog_9_method_1_code
def yX7_init : MethodName := ⟨RX7, "<init>", "(LLinkHarbour$SectionTable;LLinkHarbour$Taking;LLinkHarbour$Settling;)V"⟩
abbrev cX7_hasSection : ByteArray := prog_9_method_2_code
def yX7_hasSection : MethodName := ⟨RX7, "hasSection", "(I)Z"⟩
abbrev cX7_hasCommon : ByteArray := prog_9_method_3_code
def yX7_hasCommon : MethodName := ⟨RX7, "hasCommon", "(I)Z"⟩
abbrev cX7_countSections : ByteArray := prog_9_method_4_code
def yX7_countSections : MethodName := ⟨RX7, "countSections", "()I"⟩
abbrev cX7_imports : ByteArray := prog_9_method_5_code
def yX7_imports : MethodName := ⟨RX7, "imports", "()I"⟩
abbrev cX7_isImport : ByteArray := prog_9_method_6_code
def yX7_isImport : MethodName := ⟨RX7, "isImport", "(I)Z"⟩
abbrev cX7_references : ByteArray := prog_9_method_7_code
def yX7_references : MethodName := ⟨RX7, "references", "(I)I"⟩
abbrev cX7_reachAll : ByteArray := prog_9_method_8_code
def yX7_reachAll : MethodName := ⟨RX7, "reachAll", "(IZ)V"⟩
abbrev cX7_forget : ByteArray := prog_9_method_9_code
def yX7_forget : MethodName := ⟨RX7, "forget", "()V"⟩
abbrev cX7_follow : ByteArray := prog_9_method_10_code
def yX7_follow : MethodName := ⟨RX7, "follow", "(IZ)V"⟩
abbrev cX7_reachName : ByteArray := prog_9_method_11_code
def yX7_reachName : MethodName := ⟨RX7, "reachName", "(I)V"⟩
abbrev cX7_reachSection : ByteArray := prog_9_method_12_code
def yX7_reachSection : MethodName := ⟨RX7, "reachSection", "(I)V"⟩
def RX8 : String := "LinkHarbour$SectionTable"
def TX8 : u_T := fun k => match k with
  | 0 => ("LinkHarbour$SectionTable", "objectOf", "[I", true)
  | 1 => ("LinkHarbour$SectionTable", "alignOf", "[I", true)
  | 2 => ("LinkHarbour$SectionTable", "keptOf", "[Z", true)
  | 3 => ("LinkHarbour$SectionTable", "piecesOf", "[I", true)
  | 4 => ("LinkHarbour$SectionTable", "kindOf", "[I", true)
  | 5 => ("LinkHarbour$SectionTable", "valueOf", "[I", true)
  | 6 => ("LinkHarbour$SectionTable", "addedOf", "[I", true)
  | 7 => ("LinkHarbour$SectionTable", "weakOf", "[Z", true)
  | _ => ("LinkHarbour$SectionTable", "count", "I", false)
def tyX8 : Nat → FieldType := fun k => match k with
  | 0 => .array .int
  | 1 => .array .int
  | 2 => .array .boolean
  | 3 => .array .int
  | 4 => .array .int
  | 5 => .array .int
  | 6 => .array .int
  | 7 => .array .boolean
  | _ => .int
theorem nmX8 : ∀ a, a < 9 → ∀ b, b < 9 → a ≠ b → (TX8 a).2.1 ≠ (TX8 b).2.1 := by decide +kernel
theorem tyX8_ok : ∀ k, k < 9 → parseFieldDescriptor (TX8 k).2.2.1 = some (tyX8 k) := by decide +kernel
abbrev cX8_init : ByteArray := prog_10_method_1_code
def yX8_init : MethodName := ⟨RX8, "<init>", "()V"⟩
abbrev cX8_count : ByteArray := prog_10_method_2_code
def yX8_count : MethodName := ⟨RX8, "count", "()I"⟩
abbrev cX8_isFull : ByteArray := prog_10_method_3_code
def yX8_isFull : MethodName := ⟨RX8, "isFull", "()Z"⟩
abbrev cX8_has : ByteArray := prog_10_method_4_code
def yX8_has : MethodName := ⟨RX8, "has", "(I)Z"⟩
abbrev cX8_add : ByteArray := prog_10_method_5_code
def yX8_add : MethodName := ⟨RX8, "add", "(IIZ)I"⟩
abbrev cX8_isFilled : ByteArray := prog_10_method_6_code
def yX8_isFilled : MethodName := ⟨RX8, "isFilled", "(I)Z"⟩
abbrev cX8_addPiece : ByteArray := prog_10_method_7_code
def yX8_addPiece : MethodName := ⟨RX8, "addPiece", "(IIIIZ)I"⟩
abbrev cX8_objectOf : ByteArray := prog_10_method_8_code
def yX8_objectOf : MethodName := ⟨RX8, "objectOf", "(I)I"⟩
abbrev cX8_align : ByteArray := prog_10_method_9_code
def yX8_align : MethodName := ⟨RX8, "align", "(I)I"⟩
abbrev cX8_isKept : ByteArray := prog_10_method_10_code
def yX8_isKept : MethodName := ⟨RX8, "isKept", "(I)Z"⟩
abbrev cX8_pieces : ByteArray := prog_10_method_11_code
def yX8_pieces : MethodName := ⟨RX8, "pieces", "(I)I"⟩
abbrev cX8_countOf : ByteArray := prog_10_method_12_code
def yX8_countOf : MethodName := ⟨RX8, "countOf", "(I)I"⟩
abbrev cX8_hasPiece : ByteArray := prog_10_method_13_code
def yX8_hasPiece : MethodName := ⟨RX8, "hasPiece", "(II)Z"⟩
abbrev cX8_kind : ByteArray := prog_10_method_14_code
def yX8_kind : MethodName := ⟨RX8, "kind", "(II)I"⟩
abbrev cX8_isReference : ByteArray := prog_10_method_15_code
def yX8_isReference : MethodName := ⟨RX8, "isReference", "(II)Z"⟩
abbrev cX8_words : ByteArray := prog_10_method_16_code
def yX8_words : MethodName := ⟨RX8, "words", "(II)I"⟩
abbrev cX8_name : ByteArray := prog_10_method_17_code
def yX8_name : MethodName := ⟨RX8, "name", "(II)I"⟩
abbrev cX8_added : ByteArray := prog_10_method_18_code
def yX8_added : MethodName := ⟨RX8, "added", "(II)I"⟩
abbrev cX8_isWeak : ByteArray := prog_10_method_19_code
def yX8_isWeak : MethodName := ⟨RX8, "isWeak", "(II)Z"⟩
def RX9 : String := "LinkHarbour$Settling"
def TX9 : u_T := fun k => match k with
  | 0 => ("LinkHarbour$Settling", "objects", "LLinkHarbour$ObjectTable;", true)
  | 1 => ("LinkHarbour$Settling", "taking", "LLinkHarbour$Taking;", true)
  | 2 => ("LinkHarbour$Settling", "kindOf", "[I", true)
  | 3 => ("LinkHarbour$Settling", "objectOf", "[I", true)
  | 4 => ("LinkHarbour$Settling", "sectionOf", "[I", true)
  | 5 => ("LinkHarbour$Settling", "placeOf", "[I", true)
  | 6 => ("LinkHarbour$Settling", "sizeOf", "[I", true)
  | 7 => ("LinkHarbour$Settling", "alignOf", "[I", true)
  | 8 => ("LinkHarbour$Settling", "hidden", "I", false)
  | _ => ("LinkHarbour$Settling", "twiceStrong", "I", false)
def tyX9 : Nat → FieldType := fun k => match k with
  | 0 => .object "LinkHarbour$ObjectTable"
  | 1 => .object "LinkHarbour$Taking"
  | 2 => .array .int
  | 3 => .array .int
  | 4 => .array .int
  | 5 => .array .int
  | 6 => .array .int
  | 7 => .array .int
  | 8 => .int
  | _ => .int
theorem nmX9 : ∀ a, a < 10 → ∀ b, b < 10 → a ≠ b → (TX9 a).2.1 ≠ (TX9 b).2.1 := by decide +kernel
theorem tyX9_ok : ∀ k, k < 10 → parseFieldDescriptor (TX9 k).2.2.1 = some (tyX9 k) := by decide +kernel
abbrev cX9_init : ByteArray := prog_11_method_1_code
def yX9_init : MethodName := ⟨RX9, "<init>", "(LLinkHarbour$ObjectTable;LLinkHarbour$Taking;)V"⟩
abbrev cX9_forget : ByteArray := prog_11_method_2_code
def yX9_forget : MethodName := ⟨RX9, "forget", "()V"⟩
abbrev cX9_settle : ByteArray := prog_11_method_3_code
def yX9_settle : MethodName := ⟨RX9, "settle", "()V"⟩
abbrev cX9_weigh : ByteArray := prog_11_method_4_code
def yX9_weigh : MethodName := ⟨RX9, "weigh", "(II)V"⟩
abbrev cX9_adopt : ByteArray := prog_11_method_5_code
def yX9_adopt : MethodName := ⟨RX9, "adopt", "(III)V"⟩
abbrev cX9_kind : ByteArray := prog_11_method_6_code
def yX9_kind : MethodName := ⟨RX9, "kind", "(I)I"⟩
abbrev cX9_objectOf : ByteArray := prog_11_method_7_code
def yX9_objectOf : MethodName := ⟨RX9, "objectOf", "(I)I"⟩
abbrev cX9_sectionOf : ByteArray := prog_11_method_8_code
def yX9_sectionOf : MethodName := ⟨RX9, "sectionOf", "(I)I"⟩
abbrev cX9_placeOf : ByteArray := prog_11_method_9_code
def yX9_placeOf : MethodName := ⟨RX9, "placeOf", "(I)I"⟩
abbrev cX9_isHidden : ByteArray := prog_11_method_10_code
def yX9_isHidden : MethodName := ⟨RX9, "isHidden", "(I)Z"⟩
abbrev cX9_size : ByteArray := prog_11_method_11_code
def yX9_size : MethodName := ⟨RX9, "size", "(I)I"⟩
abbrev cX9_align : ByteArray := prog_11_method_12_code
def yX9_align : MethodName := ⟨RX9, "align", "(I)I"⟩
abbrev cX9_isTwiceStrong : ByteArray := prog_11_method_13_code
def yX9_isTwiceStrong : MethodName := ⟨RX9, "isTwiceStrong", "(I)Z"⟩
def RX10 : String := "LinkHarbour$Taking"
def TX10 : u_T := fun k => match k with
  | 0 => ("LinkHarbour$Taking", "objects", "LLinkHarbour$ObjectTable;", true)
  | 1 => ("LinkHarbour$Taking", "items", "LLinkHarbour$ItemRow;", true)
  | 2 => ("LinkHarbour$Taking", "order", "[I", true)
  | 3 => ("LinkHarbour$Taking", "count", "I", false)
  | 4 => ("LinkHarbour$Taking", "taken", "I", false)
  | 5 => ("LinkHarbour$Taking", "needed", "I", false)
  | _ => ("LinkHarbour$Taking", "defined", "I", false)
def tyX10 : Nat → FieldType := fun k => match k with
  | 0 => .object "LinkHarbour$ObjectTable"
  | 1 => .object "LinkHarbour$ItemRow"
  | 2 => .array .int
  | 3 => .int
  | 4 => .int
  | 5 => .int
  | _ => .int
theorem nmX10 : ∀ a, a < 7 → ∀ b, b < 7 → a ≠ b → (TX10 a).2.1 ≠ (TX10 b).2.1 := by decide +kernel
theorem tyX10_ok : ∀ k, k < 7 → parseFieldDescriptor (TX10 k).2.2.1 = some (tyX10 k) := by decide +kernel
abbrev cX10_init : ByteArray := prog_12_method_1_code
def yX10_init : MethodName := ⟨RX10, "<init>", "(LLinkHarbour$ObjectTable;LLinkHarbour$ItemRow;)V"⟩
abbrev cX10_count : ByteArray := prog_12_method_2_code
def yX10_count : MethodName := ⟨RX10, "count", "()I"⟩
abbrev cX10_objectAt : ByteArray := prog_12_method_3_code
def yX10_objectAt : MethodName := ⟨RX10, "objectAt", "(I)I"⟩
abbrev cX10_placeOf : ByteArray := prog_12_method_4_code
def yX10_placeOf : MethodName := ⟨RX10, "placeOf", "(I)I"⟩
abbrev cX10_isTaken : ByteArray := prog_12_method_5_code
def yX10_isTaken : MethodName := ⟨RX10, "isTaken", "(I)Z"⟩
abbrev cX10_take : ByteArray := prog_12_method_6_code
def yX10_take : MethodName := ⟨RX10, "take", "(II)V"⟩
abbrev cX10_takeAll : ByteArray := prog_12_method_7_code
def yX10_takeAll : MethodName := ⟨RX10, "takeAll", "(I)V"⟩
abbrev cX10_takeGroup : ByteArray := prog_12_method_8_code
def yX10_takeGroup : MethodName := ⟨RX10, "takeGroup", "(II)V"⟩
abbrev cX10_takeWanted : ByteArray := prog_12_method_9_code
def yX10_takeWanted : MethodName := ⟨RX10, "takeWanted", "(I)V"⟩
abbrev cX10_add : ByteArray := prog_12_method_10_code
def yX10_add : MethodName := ⟨RX10, "add", "(I)V"⟩
def RX11 : String := "LinkHarbour"
def TX11 : u_T := fun k => match k with
  | 0 => ("LinkHarbour", "objects", "LLinkHarbour$ObjectTable;", true)
  | 1 => ("LinkHarbour", "sections", "LLinkHarbour$SectionTable;", true)
  | 2 => ("LinkHarbour", "items", "LLinkHarbour$ItemRow;", true)
  | 3 => ("LinkHarbour", "libraries", "LLinkHarbour$LibraryTable;", true)
  | 4 => ("LinkHarbour", "image", "LLinkHarbour$Image;", true)
  | 5 => ("LinkHarbour", "latest", "LLinkHarbour$Link;", true)
  | 6 => ("LinkHarbour", "trial", "LLinkHarbour$Link;", true)
  | 7 => ("LinkHarbour", "reach", "I", false)
  | _ => ("LinkHarbour", "limit", "I", false)
def tyX11 : Nat → FieldType := fun k => match k with
  | 0 => .object "LinkHarbour$ObjectTable"
  | 1 => .object "LinkHarbour$SectionTable"
  | 2 => .object "LinkHarbour$ItemRow"
  | 3 => .object "LinkHarbour$LibraryTable"
  | 4 => .object "LinkHarbour$Image"
  | 5 => .object "LinkHarbour$Link"
  | 6 => .object "LinkHarbour$Link"
  | 7 => .int
  | _ => .int
theorem nmX11 : ∀ a, a < 9 → ∀ b, b < 9 → a ≠ b → (TX11 a).2.1 ≠ (TX11 b).2.1 := by decide +kernel
theorem tyX11_ok : ∀ k, k < 9 → parseFieldDescriptor (TX11 k).2.2.1 = some (tyX11 k) := by decide +kernel
abbrev cX11_init : ByteArray := prog_1_method_1_code
def yX11_init : MethodName := ⟨RX11, "<init>", "()V"⟩
abbrev cX11_object : ByteArray := prog_1_method_2_code
def yX11_object : MethodName := ⟨RX11, "object", "()I"⟩
abbrev cX11_section : ByteArray := prog_1_method_3_code
def yX11_section : MethodName := ⟨RX11, "section", "(IIZ)I"⟩
abbrev cX11_fill : ByteArray := prog_1_method_4_code
def yX11_fill : MethodName := ⟨RX11, "fill", "(II)I"⟩
abbrev cX11_word : ByteArray := prog_1_method_5_code
def yX11_word : MethodName := ⟨RX11, "word", "(IIIZ)I"⟩
abbrev cX11_jump : ByteArray := prog_1_method_6_code
def yX11_jump : MethodName := ⟨RX11, "jump", "(IIZ)I"⟩
abbrev cX11_define : ByteArray := prog_1_method_7_code
def yX11_define : MethodName := ⟨RX11, "define", "(IIZZ)I"⟩
abbrev cX11_common : ByteArray := prog_1_method_8_code
def yX11_common : MethodName := ⟨RX11, "common", "(IIII)I"⟩
abbrev cX11_item : ByteArray := prog_1_method_9_code
def yX11_item : MethodName := ⟨RX11, "item", "(II)I"⟩
abbrev cX11_clear : ByteArray := prog_1_method_10_code
def yX11_clear : MethodName := ⟨RX11, "clear", "()I"⟩
abbrev cX11_ofObject : ByteArray := prog_1_method_11_code
def yX11_ofObject : MethodName := ⟨RX11, "ofObject", "(II)I"⟩
abbrev cX11_bounds : ByteArray := prog_1_method_12_code
def yX11_bounds : MethodName := ⟨RX11, "bounds", "(II)I"⟩
abbrev cX11_link : ByteArray := prog_1_method_13_code
def yX11_link : MethodName := ⟨RX11, "link", "(IZ)I"⟩
abbrev cX11_ofSection : ByteArray := prog_1_method_14_code
def yX11_ofSection : MethodName := ⟨RX11, "ofSection", "(II)I"⟩
abbrev cX11_ofName : ByteArray := prog_1_method_15_code
def yX11_ofName : MethodName := ⟨RX11, "ofName", "(II)I"⟩
abbrev cX11_fault : ByteArray := prog_1_method_16_code
def yX11_fault : MethodName := ⟨RX11, "fault", "(II)I"⟩
abbrev cX11_wordAt : ByteArray := prog_1_method_17_code
def yX11_wordAt : MethodName := ⟨RX11, "wordAt", "(I)I"⟩
abbrev cX11_publish : ByteArray := prog_1_method_18_code
def yX11_publish : MethodName := ⟨RX11, "publish", "(I)I"⟩
abbrev cX11_open : ByteArray := prog_1_method_19_code
def yX11_open : MethodName := ⟨RX11, "open", "(IZ)I"⟩
abbrev cX11_close : ByteArray := prog_1_method_20_code
def yX11_close : MethodName := ⟨RX11, "close", "(I)I"⟩
abbrev cX11_call : ByteArray := prog_1_method_21_code
def yX11_call : MethodName := ⟨RX11, "call", "(II)I"⟩
abbrev cX11_ofBinding : ByteArray := prog_1_method_22_code
def yX11_ofBinding : MethodName := ⟨RX11, "ofBinding", "(III)I"⟩
abbrev cX11_ofLibrary : ByteArray := prog_1_method_23_code
def yX11_ofLibrary : MethodName := ⟨RX11, "ofLibrary", "(II)I"⟩
abbrev cX11_many : ByteArray := prog_1_method_24_code
def yX11_many : MethodName := ⟨RX11, "many", "(I)I"⟩
abbrev cX11_usedPart : ByteArray := prog_1_method_25_code
def yX11_usedPart : MethodName := ⟨RX11, "usedPart", "()D"⟩
abbrev cX11_sizeWith : ByteArray := prog_1_method_26_code
def yX11_sizeWith : MethodName := ⟨RX11, "sizeWith", "(I)I"⟩
abbrev cX11_faultsWithout : ByteArray := prog_1_method_27_code
def yX11_faultsWithout : MethodName := ⟨RX11, "faultsWithout", "(I)I"⟩
abbrev cX11_goes : ByteArray := prog_1_method_28_code
def yX11_goes : MethodName := ⟨RX11, "goes", "(I)I"⟩
abbrev cX11_wouldBind : ByteArray := prog_1_method_29_code
def yX11_wouldBind : MethodName := ⟨RX11, "wouldBind", "(II)I"⟩
abbrev cX11_digest : ByteArray := prog_1_method_30_code
def yX11_digest : MethodName := ⟨RX11, "digest", "()J"⟩
abbrev cX11_mixObjects : ByteArray := prog_1_method_31_code
def yX11_mixObjects : MethodName := ⟨RX11, "mixObjects", "(J)J"⟩
abbrev cX11_mixSections : ByteArray := prog_1_method_32_code
def yX11_mixSections : MethodName := ⟨RX11, "mixSections", "(J)J"⟩
abbrev cX11_mixNames : ByteArray := prog_1_method_33_code
def yX11_mixNames : MethodName := ⟨RX11, "mixNames", "(J)J"⟩
abbrev cX11_mixFaults : ByteArray := prog_1_method_34_code
def yX11_mixFaults : MethodName := ⟨RX11, "mixFaults", "(J)J"⟩
abbrev cX11_mixLibrary : ByteArray := prog_1_method_35_code
def yX11_mixLibrary : MethodName := ⟨RX11, "mixLibrary", "(JI)J"⟩
abbrev cX11_mix : ByteArray := prog_1_method_36_code
def yX11_mix : MethodName := ⟨RX11, "mix", "(JJ)J"⟩
abbrev cX11_isIn : ByteArray := prog_1_method_37_code
def yX11_isIn : MethodName := ⟨RX11, "isIn", "(II)Z"⟩
abbrev cX11_isName : ByteArray := prog_1_method_38_code
def yX11_isName : MethodName := ⟨RX11, "isName", "(I)Z"⟩
abbrev cX11_isAlign : ByteArray := prog_1_method_39_code
def yX11_isAlign : MethodName := ⟨RX11, "isAlign", "(I)Z"⟩
abbrev cX11_isReach : ByteArray := prog_1_method_40_code
def yX11_isReach : MethodName := ⟨RX11, "isReach", "(I)Z"⟩
abbrev cX11_hasBit : ByteArray := prog_1_method_41_code
def yX11_hasBit : MethodName := ⟨RX11, "hasBit", "(II)Z"⟩
abbrev cX11_roundUp : ByteArray := prog_1_method_42_code
def yX11_roundUp : MethodName := ⟨RX11, "roundUp", "(II)I"⟩
abbrev cX11_addReference : ByteArray := prog_1_method_43_code
def yX11_addReference : MethodName := ⟨RX11, "addReference", "(IIIIZ)I"⟩
def RX12 : String := "LinkHarbourModel$Linked"
def TX12 : u_T := fun k => match k with
  | 0 => ("LinkHarbourModel$Linked", "entry", "I", true)
  | 1 => ("LinkHarbourModel$Linked", "bound", "I", true)
  | 2 => ("LinkHarbourModel$Linked", "most", "I", true)
  | 3 => ("LinkHarbourModel$Linked", "isShared", "Z", true)
  | 4 => ("LinkHarbourModel$Linked", "taken", "I", false)
  | 5 => ("LinkHarbourModel$Linked", "order", "[I", true)
  | 6 => ("LinkHarbourModel$Linked", "takenAs", "[I", true)
  | 7 => ("LinkHarbourModel$Linked", "kindOf", "[I", true)
  | 8 => ("LinkHarbourModel$Linked", "objectOf", "[I", true)
  | 9 => ("LinkHarbourModel$Linked", "sizeOf", "[I", true)
  | 10 => ("LinkHarbourModel$Linked", "alignOf", "[I", true)
  | 11 => ("LinkHarbourModel$Linked", "addressOf", "[I", true)
  | 12 => ("LinkHarbourModel$Linked", "references", "[I", true)
  | 13 => ("LinkHarbourModel$Linked", "isReachedName", "[Z", true)
  | 14 => ("LinkHarbourModel$Linked", "isReached", "[Z", true)
  | 15 => ("LinkHarbourModel$Linked", "address", "[I", true)
  | 16 => ("LinkHarbourModel$Linked", "length", "[I", true)
  | 17 => ("LinkHarbourModel$Linked", "isLong", "[Z", true)
  | 18 => ("LinkHarbourModel$Linked", "imports", "I", false)
  | 19 => ("LinkHarbourModel$Linked", "size", "I", false)
  | 20 => ("LinkHarbourModel$Linked", "used", "I", false)
  | 21 => ("LinkHarbourModel$Linked", "many", "I", false)
  | 22 => ("LinkHarbourModel$Linked", "faults", "[I", false)
  | 23 => ("LinkHarbourModel$Linked", "words", "[I", false)
  | _ => ("LinkHarbourModel$Linked", "this$0", "LLinkHarbourModel;", true)
def tyX12 : Nat → FieldType := fun k => match k with
  | 0 => .int
  | 1 => .int
  | 2 => .int
  | 3 => .boolean
  | 4 => .int
  | 5 => .array .int
  | 6 => .array .int
  | 7 => .array .int
  | 8 => .array .int
  | 9 => .array .int
  | 10 => .array .int
  | 11 => .array .int
  | 12 => .array .int
  | 13 => .array .boolean
  | 14 => .array .boolean
  | 15 => .array .int
  | 16 => .array .int
  | 17 => .array .boolean
  | 18 => .int
  | 19 => .int
  | 20 => .int
  | 21 => .int
  | 22 => .array .int
  | 23 => .array .int
  | _ => .object "LinkHarbourModel"
theorem nmX12 : ∀ a, a < 25 → ∀ b, b < 25 → a ≠ b → (TX12 a).2.1 ≠ (TX12 b).2.1 := by decide +kernel
theorem tyX12_ok : ∀ k, k < 25 → parseFieldDescriptor (TX12 k).2.2.1 = some (tyX12 k) := by decide +kernel
abbrev cX12_init : ByteArray := prog_15_method_1_code
def yX12_init : MethodName := ⟨RX12, "<init>", "(LLinkHarbourModel;IZIII)V"⟩
abbrev cX12_endOf : ByteArray := prog_15_method_2_code
def yX12_endOf : MethodName := ⟨RX12, "endOf", "(I)I"⟩
abbrev cX12_take : ByteArray := prog_15_method_3_code
def yX12_take : MethodName := ⟨RX12, "take", "(III)V"⟩
abbrev cX12_isDrawn : ByteArray := prog_15_method_4_code
def yX12_isDrawn : MethodName := ⟨RX12, "isDrawn", "(I)Z"⟩
abbrev cX12_isWanted : ByteArray := prog_15_method_5_code
def yX12_isWanted : MethodName := ⟨RX12, "isWanted", "(I)Z"⟩
abbrev cX12_nameAt : ByteArray := prog_15_method_6_code
def yX12_nameAt : MethodName := ⟨RX12, "nameAt", "(II)I"⟩
abbrev cX12_firstWith : ByteArray := prog_15_method_7_code
def yX12_firstWith : MethodName := ⟨RX12, "firstWith", "(II)I"⟩
abbrev cX12_settle : ByteArray := prog_15_method_8_code
def yX12_settle : MethodName := ⟨RX12, "settle", "(I)V"⟩
abbrev cX12_fault : ByteArray := prog_15_method_9_code
def yX12_fault : MethodName := ⟨RX12, "fault", "(IIII)V"⟩
abbrev cX12_sectionOf : ByteArray := prog_15_method_10_code
def yX12_sectionOf : MethodName := ⟨RX12, "sectionOf", "(I)I"⟩
abbrev cX12_reachName : ByteArray := prog_15_method_11_code
def yX12_reachName : MethodName := ⟨RX12, "reachName", "(I)Z"⟩
abbrev cX12_reachAll : ByteArray := prog_15_method_12_code
def yX12_reachAll : MethodName := ⟨RX12, "reachAll", "()V"⟩
abbrev cX12_wordsOf : ByteArray := prog_15_method_13_code
def yX12_wordsOf : MethodName := ⟨RX12, "wordsOf", "(II)I"⟩
abbrev cX12_wordsUpTo : ByteArray := prog_15_method_14_code
def yX12_wordsUpTo : MethodName := ⟨RX12, "wordsUpTo", "(II)I"⟩
abbrev cX12_next : ByteArray := prog_15_method_15_code
def yX12_next : MethodName := ⟨RX12, "next", "(II)I"⟩
abbrev cX12_place : ByteArray := prog_15_method_16_code
def yX12_place : MethodName := ⟨RX12, "place", "()V"⟩
abbrev cX12_standsFor : ByteArray := prog_15_method_17_code
def yX12_standsFor : MethodName := ⟨RX12, "standsFor", "(I)I"⟩
abbrev cX12_layOut : ByteArray := prog_15_method_18_code
def yX12_layOut : MethodName := ⟨RX12, "layOut", "()V"⟩
abbrev cX12_write : ByteArray := prog_15_method_19_code
def yX12_write : MethodName := ⟨RX12, "write", "()V"⟩
abbrev cX12_writePiece : ByteArray := prog_15_method_20_code
def yX12_writePiece : MethodName := ⟨RX12, "writePiece", "(III)V"⟩
abbrev cX12_longOf : ByteArray := prog_15_method_21_code
def yX12_longOf : MethodName := ⟨RX12, "longOf", "(I)I"⟩
abbrev cX12_allLong : ByteArray := prog_15_method_22_code
def yX12_allLong : MethodName := ⟨RX12, "allLong", "()I"⟩
abbrev cX12_ofName : ByteArray := prog_15_method_23_code
def yX12_ofName : MethodName := ⟨RX12, "ofName", "(II)I"⟩
abbrev cX12_reachedSections : ByteArray := prog_15_method_24_code
def yX12_reachedSections : MethodName := ⟨RX12, "reachedSections", "()I"⟩
def RX13 : String := "LinkHarbourModel"
def TX13 : u_T := fun k => match k with
  | 0 => ("LinkHarbourModel", "thrown", "I", false)
  | 1 => ("LinkHarbourModel", "objects", "I", false)
  | 2 => ("LinkHarbourModel", "sections", "I", false)
  | 3 => ("LinkHarbourModel", "items", "I", false)
  | 4 => ("LinkHarbourModel", "owner", "[I", true)
  | 5 => ("LinkHarbourModel", "align", "[I", true)
  | 6 => ("LinkHarbourModel", "pieces", "[I", true)
  | 7 => ("LinkHarbourModel", "isKept", "[Z", true)
  | 8 => ("LinkHarbourModel", "piece", "[I", true)
  | 9 => ("LinkHarbourModel", "defined", "[I", true)
  | 10 => ("LinkHarbourModel", "where", "[I", true)
  | 11 => ("LinkHarbourModel", "ahead", "[I", true)
  | 12 => ("LinkHarbourModel", "isHidden", "[Z", true)
  | 13 => ("LinkHarbourModel", "itemSet", "[I", true)
  | 14 => ("LinkHarbourModel", "itemKind", "[I", true)
  | 15 => ("LinkHarbourModel", "reach", "I", false)
  | 16 => ("LinkHarbourModel", "limit", "I", false)
  | 17 => ("LinkHarbourModel", "wasLinked", "Z", false)
  | 18 => ("LinkHarbourModel", "latest", "LLinkHarbourModel$Linked;", false)
  | 19 => ("LinkHarbourModel", "longs", "[I", true)
  | 20 => ("LinkHarbourModel", "libraries", "I", false)
  | 21 => ("LinkHarbourModel", "sizes", "[I", true)
  | 22 => ("LinkHarbourModel", "needs", "[I", true)
  | 23 => ("LinkHarbourModel", "imports", "[I", true)
  | 24 => ("LinkHarbourModel", "counts", "[I", true)
  | 25 => ("LinkHarbourModel", "bases", "[I", true)
  | 26 => ("LinkHarbourModel", "exported", "[I", true)
  | 27 => ("LinkHarbourModel", "bound", "[I", true)
  | 28 => ("LinkHarbourModel", "global", "[I", false)
  | _ => ("LinkHarbourModel", "started", "[I", false)
def tyX13 : Nat → FieldType := fun k => match k with
  | 0 => .int
  | 1 => .int
  | 2 => .int
  | 3 => .int
  | 4 => .array .int
  | 5 => .array .int
  | 6 => .array .int
  | 7 => .array .boolean
  | 8 => .array .int
  | 9 => .array .int
  | 10 => .array .int
  | 11 => .array .int
  | 12 => .array .boolean
  | 13 => .array .int
  | 14 => .array .int
  | 15 => .int
  | 16 => .int
  | 17 => .boolean
  | 18 => .object "LinkHarbourModel$Linked"
  | 19 => .array .int
  | 20 => .int
  | 21 => .array .int
  | 22 => .array .int
  | 23 => .array .int
  | 24 => .array .int
  | 25 => .array .int
  | 26 => .array .int
  | 27 => .array .int
  | 28 => .array .int
  | _ => .array .int
theorem nmX13 : ∀ a, a < 30 → ∀ b, b < 30 → a ≠ b → (TX13 a).2.1 ≠ (TX13 b).2.1 := by decide +kernel
theorem tyX13_ok : ∀ k, k < 30 → parseFieldDescriptor (TX13 k).2.2.1 = some (tyX13 k) := by decide +kernel
abbrev cX13_init : ByteArray := prog_14_method_1_code
def yX13_init : MethodName := ⟨RX13, "<init>", "()V"⟩
abbrev cX13_thrown : ByteArray := prog_14_method_2_code
def yX13_thrown : MethodName := ⟨RX13, "thrown", "()I"⟩
abbrev cX13_no : ByteArray := prog_14_method_3_code
def yX13_no : MethodName := ⟨RX13, "no", "(I)I"⟩
abbrev cX13_isIn : ByteArray := prog_14_method_4_code
def yX13_isIn : MethodName := ⟨RX13, "isIn", "(III)Z"⟩
abbrev cX13_has : ByteArray := prog_14_method_5_code
def yX13_has : MethodName := ⟨RX13, "has", "(II)Z"⟩
abbrev cX13_isAlign : ByteArray := prog_14_method_6_code
def yX13_isAlign : MethodName := ⟨RX13, "isAlign", "(I)Z"⟩
abbrev cX13_isObject : ByteArray := prog_14_method_7_code
def yX13_isObject : MethodName := ⟨RX13, "isObject", "(I)Z"⟩
abbrev cX13_isSection : ByteArray := prog_14_method_8_code
def yX13_isSection : MethodName := ⟨RX13, "isSection", "(I)Z"⟩
abbrev cX13_isName : ByteArray := prog_14_method_9_code
def yX13_isName : MethodName := ⟨RX13, "isName", "(I)Z"⟩
abbrev cX13_object : ByteArray := prog_14_method_10_code
def yX13_object : MethodName := ⟨RX13, "object", "()I"⟩
abbrev cX13_section : ByteArray := prog_14_method_11_code
def yX13_section : MethodName := ⟨RX13, "section", "(IIZ)I"⟩
abbrev cX13_add : ByteArray := prog_14_method_12_code
def yX13_add : MethodName := ⟨RX13, "add", "(IIIIZ)I"⟩
abbrev cX13_fill : ByteArray := prog_14_method_13_code
def yX13_fill : MethodName := ⟨RX13, "fill", "(II)I"⟩
abbrev cX13_word : ByteArray := prog_14_method_14_code
def yX13_word : MethodName := ⟨RX13, "word", "(IIIZ)I"⟩
abbrev cX13_jump : ByteArray := prog_14_method_15_code
def yX13_jump : MethodName := ⟨RX13, "jump", "(IIZ)I"⟩
abbrev cX13_defineNow : ByteArray := prog_14_method_16_code
def yX13_defineNow : MethodName := ⟨RX13, "defineNow", "(IIIIIZ)I"⟩
abbrev cX13_define : ByteArray := prog_14_method_17_code
def yX13_define : MethodName := ⟨RX13, "define", "(IIZZ)I"⟩
abbrev cX13_definitions : ByteArray := prog_14_method_18_code
def yX13_definitions : MethodName := ⟨RX13, "definitions", "(I)I"⟩
abbrev cX13_common : ByteArray := prog_14_method_19_code
def yX13_common : MethodName := ⟨RX13, "common", "(IIII)I"⟩
abbrev cX13_itemOf : ByteArray := prog_14_method_20_code
def yX13_itemOf : MethodName := ⟨RX13, "itemOf", "(I)I"⟩
abbrev cX13_item : ByteArray := prog_14_method_21_code
def yX13_item : MethodName := ⟨RX13, "item", "(II)I"⟩
abbrev cX13_clear : ByteArray := prog_14_method_22_code
def yX13_clear : MethodName := ⟨RX13, "clear", "()I"⟩
abbrev cX13_sectionsOf : ByteArray := prog_14_method_23_code
def yX13_sectionsOf : MethodName := ⟨RX13, "sectionsOf", "(I)I"⟩
abbrev cX13_ofObjectNow : ByteArray := prog_14_method_24_code
def yX13_ofObjectNow : MethodName := ⟨RX13, "ofObjectNow", "(II)I"⟩
abbrev cX13_ofObject : ByteArray := prog_14_method_25_code
def yX13_ofObject : MethodName := ⟨RX13, "ofObject", "(II)I"⟩
abbrev cX13_bounds : ByteArray := prog_14_method_26_code
def yX13_bounds : MethodName := ⟨RX13, "bounds", "(II)I"⟩
abbrev cX13_link : ByteArray := prog_14_method_27_code
def yX13_link : MethodName := ⟨RX13, "link", "(IZ)I"⟩
abbrev cX13_ofSectionNow : ByteArray := prog_14_method_28_code
def yX13_ofSectionNow : MethodName := ⟨RX13, "ofSectionNow", "(II)I"⟩
abbrev cX13_ofSection : ByteArray := prog_14_method_29_code
def yX13_ofSection : MethodName := ⟨RX13, "ofSection", "(II)I"⟩
abbrev cX13_ofNameNow : ByteArray := prog_14_method_30_code
def yX13_ofNameNow : MethodName := ⟨RX13, "ofNameNow", "(II)I"⟩
abbrev cX13_ofName : ByteArray := prog_14_method_31_code
def yX13_ofName : MethodName := ⟨RX13, "ofName", "(II)I"⟩
abbrev cX13_fault : ByteArray := prog_14_method_32_code
def yX13_fault : MethodName := ⟨RX13, "fault", "(II)I"⟩
abbrev cX13_wordAt : ByteArray := prog_14_method_33_code
def yX13_wordAt : MethodName := ⟨RX13, "wordAt", "(I)I"⟩
abbrev cX13_isLibrary : ByteArray := prog_14_method_34_code
def yX13_isLibrary : MethodName := ⟨RX13, "isLibrary", "(I)Z"⟩
abbrev cX13_isLoaded : ByteArray := prog_14_method_35_code
def yX13_isLoaded : MethodName := ⟨RX13, "isLoaded", "(I)Z"⟩
abbrev cX13_publish : ByteArray := prog_14_method_36_code
def yX13_publish : MethodName := ⟨RX13, "publish", "(I)I"⟩
abbrev cX13_plus : ByteArray := prog_14_method_37_code
def yX13_plus : MethodName := ⟨RX13, "plus", "([II)[I"⟩
abbrev cX13_placeIn : ByteArray := prog_14_method_38_code
def yX13_placeIn : MethodName := ⟨RX13, "placeIn", "([II)I"⟩
abbrev cX13_without : ByteArray := prog_14_method_39_code
def yX13_without : MethodName := ⟨RX13, "without", "([II)[I"⟩
abbrev cX13_rowOf : ByteArray := prog_14_method_40_code
def yX13_rowOf : MethodName := ⟨RX13, "rowOf", "(I)[I"⟩
abbrev cX13_baseNow : ByteArray := prog_14_method_41_code
def yX13_baseNow : MethodName := ⟨RX13, "baseNow", "()I"⟩
abbrev cX13_go : ByteArray := prog_14_method_42_code
def yX13_go : MethodName := ⟨RX13, "go", "(III)I"⟩
abbrev cX13_open : ByteArray := prog_14_method_43_code
def yX13_open : MethodName := ⟨RX13, "open", "(IZ)I"⟩
abbrev cX13_goesNow : ByteArray := prog_14_method_44_code
def yX13_goesNow : MethodName := ⟨RX13, "goesNow", "(I)I"⟩
abbrev cX13_close : ByteArray := prog_14_method_45_code
def yX13_close : MethodName := ⟨RX13, "close", "(I)I"⟩
abbrev cX13_find : ByteArray := prog_14_method_46_code
def yX13_find : MethodName := ⟨RX13, "find", "(II)I"⟩
abbrev cX13_canCall : ByteArray := prog_14_method_47_code
def yX13_canCall : MethodName := ⟨RX13, "canCall", "(II)Z"⟩
abbrev cX13_call : ByteArray := prog_14_method_48_code
def yX13_call : MethodName := ⟨RX13, "call", "(II)I"⟩
abbrev cX13_ofBindingNow : ByteArray := prog_14_method_49_code
def yX13_ofBindingNow : MethodName := ⟨RX13, "ofBindingNow", "(III)I"⟩
abbrev cX13_ofBinding : ByteArray := prog_14_method_50_code
def yX13_ofBinding : MethodName := ⟨RX13, "ofBinding", "(III)I"⟩
abbrev cX13_exports : ByteArray := prog_14_method_51_code
def yX13_exports : MethodName := ⟨RX13, "exports", "(I)I"⟩
abbrev cX13_bits : ByteArray := prog_14_method_52_code
def yX13_bits : MethodName := ⟨RX13, "bits", "(I)I"⟩
abbrev cX13_ofLibraryNow : ByteArray := prog_14_method_53_code
def yX13_ofLibraryNow : MethodName := ⟨RX13, "ofLibraryNow", "(II)I"⟩
abbrev cX13_ofLibrary : ByteArray := prog_14_method_54_code
def yX13_ofLibrary : MethodName := ⟨RX13, "ofLibrary", "(II)I"⟩
abbrev cX13_manyNow : ByteArray := prog_14_method_55_code
def yX13_manyNow : MethodName := ⟨RX13, "manyNow", "(I)I"⟩
abbrev cX13_many : ByteArray := prog_14_method_56_code
def yX13_many : MethodName := ⟨RX13, "many", "(I)I"⟩
abbrev cX13_usedPart : ByteArray := prog_14_method_57_code
def yX13_usedPart : MethodName := ⟨RX13, "usedPart", "()D"⟩
abbrev cX13_sizeWith : ByteArray := prog_14_method_58_code
def yX13_sizeWith : MethodName := ⟨RX13, "sizeWith", "(I)I"⟩
abbrev cX13_faultsWithout : ByteArray := prog_14_method_59_code
def yX13_faultsWithout : MethodName := ⟨RX13, "faultsWithout", "(I)I"⟩
abbrev cX13_goes : ByteArray := prog_14_method_60_code
def yX13_goes : MethodName := ⟨RX13, "goes", "(I)I"⟩
abbrev cX13_wouldBindNow : ByteArray := prog_14_method_61_code
def yX13_wouldBindNow : MethodName := ⟨RX13, "wouldBindNow", "(II)I"⟩
abbrev cX13_wouldBind : ByteArray := prog_14_method_62_code
def yX13_wouldBind : MethodName := ⟨RX13, "wouldBind", "(II)I"⟩
abbrev cX13_digest : ByteArray := prog_14_method_63_code
def yX13_digest : MethodName := ⟨RX13, "digest", "()J"⟩
def RJ6 : String := "java/lang/Integer"
abbrev cJ6_bitCount_0f7a4 : ByteArray := prog_20_method_49_code
def yJ6_bitCount_0f7a4 : MethodName := ⟨RJ6, "bitCount", "(I)I"⟩
def RJ9 : String := "java/lang/Math"
abbrev cJ9_abs_0f7a4 : ByteArray := prog_21_method_59_code
def yJ9_abs_0f7a4 : MethodName := ⟨RJ9, "abs", "(I)I"⟩
abbrev cJ9_max_7cf53 : ByteArray := prog_21_method_65_code
def yJ9_max_7cf53 : MethodName := ⟨RJ9, "max", "(II)I"⟩
def RJ0 : String := "java/lang/String"
def RJ10 : String := "java/lang/System"
def RL : String := "LinkHarbourLaw"
abbrev cL_object : ByteArray := method_3_code
def yL_object : MethodName := ⟨RL, "object", "(LLinkHarbour;[J)I"⟩
abbrev cL_section : ByteArray := method_4_code
def yL_section : MethodName := ⟨RL, "section", "(LLinkHarbour;IIZ[J)I"⟩
abbrev cL_fill : ByteArray := method_5_code
def yL_fill : MethodName := ⟨RL, "fill", "(LLinkHarbour;II[J)I"⟩
abbrev cL_word : ByteArray := method_6_code
def yL_word : MethodName := ⟨RL, "word", "(LLinkHarbour;IIIZ[J)I"⟩
abbrev cL_jump : ByteArray := method_7_code
def yL_jump : MethodName := ⟨RL, "jump", "(LLinkHarbour;IIZ[J)I"⟩
abbrev cL_define : ByteArray := method_8_code
def yL_define : MethodName := ⟨RL, "define", "(LLinkHarbour;IIZZ[J)I"⟩
abbrev cL_common : ByteArray := method_9_code
def yL_common : MethodName := ⟨RL, "common", "(LLinkHarbour;IIII[J)I"⟩
abbrev cL_item : ByteArray := method_10_code
def yL_item : MethodName := ⟨RL, "item", "(LLinkHarbour;II[J)I"⟩
abbrev cL_ofObject : ByteArray := method_11_code
def yL_ofObject : MethodName := ⟨RL, "ofObject", "(LLinkHarbour;II[J)I"⟩
abbrev cL_bounds : ByteArray := method_12_code
def yL_bounds : MethodName := ⟨RL, "bounds", "(LLinkHarbour;II[J)I"⟩
abbrev cL_link : ByteArray := method_13_code
def yL_link : MethodName := ⟨RL, "link", "(LLinkHarbour;IZ[J)I"⟩
abbrev cL_ofSection : ByteArray := method_14_code
def yL_ofSection : MethodName := ⟨RL, "ofSection", "(LLinkHarbour;II[J)I"⟩
abbrev cL_ofName : ByteArray := method_15_code
def yL_ofName : MethodName := ⟨RL, "ofName", "(LLinkHarbour;II[J)I"⟩
abbrev cL_fault : ByteArray := method_16_code
def yL_fault : MethodName := ⟨RL, "fault", "(LLinkHarbour;II[J)I"⟩
abbrev cL_wordAt : ByteArray := method_17_code
def yL_wordAt : MethodName := ⟨RL, "wordAt", "(LLinkHarbour;I[J)I"⟩
abbrev cL_publish : ByteArray := method_18_code
def yL_publish : MethodName := ⟨RL, "publish", "(LLinkHarbour;I[J)I"⟩
abbrev cL_open : ByteArray := method_19_code
def yL_open : MethodName := ⟨RL, "open", "(LLinkHarbour;IZ[J)I"⟩
abbrev cL_close : ByteArray := method_20_code
def yL_close : MethodName := ⟨RL, "close", "(LLinkHarbour;I[J)I"⟩
abbrev cL_call : ByteArray := method_21_code
def yL_call : MethodName := ⟨RL, "call", "(LLinkHarbour;II[J)I"⟩
abbrev cL_ofBinding : ByteArray := method_22_code
def yL_ofBinding : MethodName := ⟨RL, "ofBinding", "(LLinkHarbour;III[J)I"⟩
abbrev cL_ofLibrary : ByteArray := method_23_code
def yL_ofLibrary : MethodName := ⟨RL, "ofLibrary", "(LLinkHarbour;II[J)I"⟩
abbrev cL_many : ByteArray := method_24_code
def yL_many : MethodName := ⟨RL, "many", "(LLinkHarbour;I[J)I"⟩
abbrev cL_sizeWith : ByteArray := method_25_code
def yL_sizeWith : MethodName := ⟨RL, "sizeWith", "(LLinkHarbour;I[J)I"⟩
abbrev cL_faultsWithout : ByteArray := method_26_code
def yL_faultsWithout : MethodName := ⟨RL, "faultsWithout", "(LLinkHarbour;I[J)I"⟩
abbrev cL_goes : ByteArray := method_27_code
def yL_goes : MethodName := ⟨RL, "goes", "(LLinkHarbour;I[J)I"⟩
abbrev cL_wouldBind : ByteArray := method_28_code
def yL_wouldBind : MethodName := ⟨RL, "wouldBind", "(LLinkHarbour;II[J)I"⟩
abbrev cL_law : ByteArray := code
def yL_law : MethodName := ⟨RL, "law", "([I)Z"⟩
abbrev vwCl : List vw_C := [(RX0, TX0, 2), (RX1, TX1, 1), (RX2, TX2, 3), (RX3, TX3, 13), (RX4, TX4, 16), (RX5, TX5, 9), (RX6, TX6, 10), (RX7, TX7, 9), (RX8, TX8, 9), (RX9, TX9, 10), (RX10, TX10, 7), (RX11, TX11, 9), (RX12, TX12, 25), (RX13, TX13, 30)]
