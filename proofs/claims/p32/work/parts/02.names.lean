-- ===== PART A: goes FIRST, ahead of the names: the tables' words, and 'selects' of the private methods out of them =====
/-- a private method of a class that the tables say can be made, by its rows of tables_1 -/
def lw_okq (q : MethodName × Nat) : Prop := (q.1.cls ≠ "java/lang/invoke/MethodHandle" ∧ q.1.cls ≠ "java/lang/invoke/VarHandle") ∧ Cond.instantiable q.1.cls q.2 ∈ tables_1 ∧ Cond.privateMethod q.1 ∈ tables_1 ∧ Cond.instanceMethod q.1 ∈ tables_1
theorem lw_p0 : lw_okq (⟨"java/lang/Throwable", "fillInStackTrace", "(I)Ljava/lang/Throwable;"⟩, 6) := ⟨⟨by decide +kernel, by decide +kernel⟩, List.mem_of_getElem? (i := 72) (by decide +kernel), List.mem_of_getElem? (i := 70) (by decide +kernel), List.mem_of_getElem? (i := 71) (by decide +kernel)⟩
theorem lw_p1 : lw_okq (⟨"LinkHarbour$Taking", "takeAll", "(I)V"⟩, 7) := ⟨⟨by decide +kernel, by decide +kernel⟩, List.mem_of_getElem? (i := 248) (by decide +kernel), List.mem_of_getElem? (i := 246) (by decide +kernel), List.mem_of_getElem? (i := 247) (by decide +kernel)⟩
theorem lw_p2 : lw_okq (⟨"LinkHarbour$Taking", "add", "(I)V"⟩, 7) := ⟨⟨by decide +kernel, by decide +kernel⟩, List.mem_of_getElem? (i := 248) (by decide +kernel), List.mem_of_getElem? (i := 252) (by decide +kernel), List.mem_of_getElem? (i := 253) (by decide +kernel)⟩
theorem lw_p3 : lw_okq (⟨"LinkHarbour$Taking", "takeGroup", "(II)V"⟩, 7) := ⟨⟨by decide +kernel, by decide +kernel⟩, List.mem_of_getElem? (i := 248) (by decide +kernel), List.mem_of_getElem? (i := 265) (by decide +kernel), List.mem_of_getElem? (i := 266) (by decide +kernel)⟩
theorem lw_p4 : lw_okq (⟨"LinkHarbour$Taking", "takeWanted", "(I)V"⟩, 7) := ⟨⟨by decide +kernel, by decide +kernel⟩, List.mem_of_getElem? (i := 248) (by decide +kernel), List.mem_of_getElem? (i := 274) (by decide +kernel), List.mem_of_getElem? (i := 275) (by decide +kernel)⟩
theorem lw_p5 : lw_okq (⟨"LinkHarbour$Settling", "forget", "()V"⟩, 10) := ⟨⟨by decide +kernel, by decide +kernel⟩, List.mem_of_getElem? (i := 288) (by decide +kernel), List.mem_of_getElem? (i := 286) (by decide +kernel), List.mem_of_getElem? (i := 287) (by decide +kernel)⟩
theorem lw_p6 : lw_okq (⟨"LinkHarbour$Settling", "weigh", "(II)V"⟩, 10) := ⟨⟨by decide +kernel, by decide +kernel⟩, List.mem_of_getElem? (i := 288) (by decide +kernel), List.mem_of_getElem? (i := 299) (by decide +kernel), List.mem_of_getElem? (i := 300) (by decide +kernel)⟩
theorem lw_p7 : lw_okq (⟨"LinkHarbour$Settling", "adopt", "(III)V"⟩, 10) := ⟨⟨by decide +kernel, by decide +kernel⟩, List.mem_of_getElem? (i := 288) (by decide +kernel), List.mem_of_getElem? (i := 316) (by decide +kernel), List.mem_of_getElem? (i := 317) (by decide +kernel)⟩
theorem lw_p8 : lw_okq (⟨"LinkHarbour$Reaching", "forget", "()V"⟩, 9) := ⟨⟨by decide +kernel, by decide +kernel⟩, List.mem_of_getElem? (i := 338) (by decide +kernel), List.mem_of_getElem? (i := 336) (by decide +kernel), List.mem_of_getElem? (i := 337) (by decide +kernel)⟩
theorem lw_p9 : lw_okq (⟨"LinkHarbour$Reaching", "reachSection", "(I)V"⟩, 9) := ⟨⟨by decide +kernel, by decide +kernel⟩, List.mem_of_getElem? (i := 338) (by decide +kernel), List.mem_of_getElem? (i := 364) (by decide +kernel), List.mem_of_getElem? (i := 365) (by decide +kernel)⟩
theorem lw_p10 : lw_okq (⟨"LinkHarbour$Reaching", "reachName", "(I)V"⟩, 9) := ⟨⟨by decide +kernel, by decide +kernel⟩, List.mem_of_getElem? (i := 338) (by decide +kernel), List.mem_of_getElem? (i := 370) (by decide +kernel), List.mem_of_getElem? (i := 371) (by decide +kernel)⟩
theorem lw_p11 : lw_okq (⟨"LinkHarbour$Reaching", "follow", "(IZ)V"⟩, 9) := ⟨⟨by decide +kernel, by decide +kernel⟩, List.mem_of_getElem? (i := 338) (by decide +kernel), List.mem_of_getElem? (i := 387) (by decide +kernel), List.mem_of_getElem? (i := 388) (by decide +kernel)⟩
theorem lw_p12 : lw_okq (⟨"LinkHarbour$SectionTable", "hasPiece", "(II)Z"⟩, 9) := ⟨⟨by decide +kernel, by decide +kernel⟩, List.mem_of_getElem? (i := 401) (by decide +kernel), List.mem_of_getElem? (i := 399) (by decide +kernel), List.mem_of_getElem? (i := 400) (by decide +kernel)⟩
theorem lw_p13 : lw_okq (⟨"LinkHarbour$Layout", "orderSections", "()V"⟩, 13) := ⟨⟨by decide +kernel, by decide +kernel⟩, List.mem_of_getElem? (i := 419) (by decide +kernel), List.mem_of_getElem? (i := 417) (by decide +kernel), List.mem_of_getElem? (i := 418) (by decide +kernel)⟩
theorem lw_p14 : lw_okq (⟨"LinkHarbour$Layout", "append", "(I)V"⟩, 13) := ⟨⟨by decide +kernel, by decide +kernel⟩, List.mem_of_getElem? (i := 419) (by decide +kernel), List.mem_of_getElem? (i := 430) (by decide +kernel), List.mem_of_getElem? (i := 431) (by decide +kernel)⟩
theorem lw_p15 : lw_okq (⟨"LinkHarbour$Layout", "placeSections", "()V"⟩, 13) := ⟨⟨by decide +kernel, by decide +kernel⟩, List.mem_of_getElem? (i := 419) (by decide +kernel), List.mem_of_getElem? (i := 439) (by decide +kernel), List.mem_of_getElem? (i := 440) (by decide +kernel)⟩
def lw_privs_1 : List (MethodName × Nat) := [(⟨"java/lang/Throwable", "fillInStackTrace", "(I)Ljava/lang/Throwable;"⟩, 6), (⟨"LinkHarbour$Taking", "takeAll", "(I)V"⟩, 7), (⟨"LinkHarbour$Taking", "add", "(I)V"⟩, 7), (⟨"LinkHarbour$Taking", "takeGroup", "(II)V"⟩, 7), (⟨"LinkHarbour$Taking", "takeWanted", "(I)V"⟩, 7), (⟨"LinkHarbour$Settling", "forget", "()V"⟩, 10), (⟨"LinkHarbour$Settling", "weigh", "(II)V"⟩, 10), (⟨"LinkHarbour$Settling", "adopt", "(III)V"⟩, 10), (⟨"LinkHarbour$Reaching", "forget", "()V"⟩, 9), (⟨"LinkHarbour$Reaching", "reachSection", "(I)V"⟩, 9), (⟨"LinkHarbour$Reaching", "reachName", "(I)V"⟩, 9), (⟨"LinkHarbour$Reaching", "follow", "(IZ)V"⟩, 9), (⟨"LinkHarbour$SectionTable", "hasPiece", "(II)Z"⟩, 9), (⟨"LinkHarbour$Layout", "orderSections", "()V"⟩, 13), (⟨"LinkHarbour$Layout", "append", "(I)V"⟩, 13), (⟨"LinkHarbour$Layout", "placeSections", "()V"⟩, 13)]
theorem lw_r1 : ∀ q ∈ lw_privs_1, lw_okq q := List.forall_mem_cons.mpr ⟨lw_p0, List.forall_mem_cons.mpr ⟨lw_p1, List.forall_mem_cons.mpr ⟨lw_p2, List.forall_mem_cons.mpr ⟨lw_p3, List.forall_mem_cons.mpr ⟨lw_p4, List.forall_mem_cons.mpr ⟨lw_p5, List.forall_mem_cons.mpr ⟨lw_p6, List.forall_mem_cons.mpr ⟨lw_p7, List.forall_mem_cons.mpr ⟨lw_p8, List.forall_mem_cons.mpr ⟨lw_p9, List.forall_mem_cons.mpr ⟨lw_p10, List.forall_mem_cons.mpr ⟨lw_p11, List.forall_mem_cons.mpr ⟨lw_p12, List.forall_mem_cons.mpr ⟨lw_p13, List.forall_mem_cons.mpr ⟨lw_p14, List.forall_mem_cons.mpr ⟨lw_p15, fun _ h => absurd h List.not_mem_nil⟩⟩⟩⟩⟩⟩⟩⟩⟩⟩⟩⟩⟩⟩⟩⟩
theorem lw_p16 : lw_okq (⟨"LinkHarbour$Layout", "wordsAhead", "(II)I"⟩, 13) := ⟨⟨by decide +kernel, by decide +kernel⟩, List.mem_of_getElem? (i := 419) (by decide +kernel), List.mem_of_getElem? (i := 450) (by decide +kernel), List.mem_of_getElem? (i := 451) (by decide +kernel)⟩
theorem lw_p17 : lw_okq (⟨"LinkHarbour$Layout", "placeCommons", "()V"⟩, 13) := ⟨⟨by decide +kernel, by decide +kernel⟩, List.mem_of_getElem? (i := 419) (by decide +kernel), List.mem_of_getElem? (i := 458) (by decide +kernel), List.mem_of_getElem? (i := 459) (by decide +kernel)⟩
theorem lw_p18 : lw_okq (⟨"LinkHarbour$Layout", "addressNames", "()V"⟩, 13) := ⟨⟨by decide +kernel, by decide +kernel⟩, List.mem_of_getElem? (i := 419) (by decide +kernel), List.mem_of_getElem? (i := 474) (by decide +kernel), List.mem_of_getElem? (i := 475) (by decide +kernel)⟩
theorem lw_p19 : lw_okq (⟨"LinkHarbour$Layout", "lengthenAll", "(I)Z"⟩, 13) := ⟨⟨by decide +kernel, by decide +kernel⟩, List.mem_of_getElem? (i := 419) (by decide +kernel), List.mem_of_getElem? (i := 483) (by decide +kernel), List.mem_of_getElem? (i := 484) (by decide +kernel)⟩
theorem lw_p20 : lw_okq (⟨"LinkHarbour$Layout", "lengthenIn", "(II)Z"⟩, 13) := ⟨⟨by decide +kernel, by decide +kernel⟩, List.mem_of_getElem? (i := 419) (by decide +kernel), List.mem_of_getElem? (i := 487) (by decide +kernel), List.mem_of_getElem? (i := 488) (by decide +kernel)⟩
theorem lw_p21 : lw_okq (⟨"LinkHarbour$Link", "tellFaults", "(I)V"⟩, 9) := ⟨⟨by decide +kernel, by decide +kernel⟩, List.mem_of_getElem? (i := 503) (by decide +kernel), List.mem_of_getElem? (i := 501) (by decide +kernel), List.mem_of_getElem? (i := 502) (by decide +kernel)⟩
theorem lw_p22 : lw_okq (⟨"LinkHarbour$Link", "tellFaultsOf", "(III)V"⟩, 9) := ⟨⟨by decide +kernel, by decide +kernel⟩, List.mem_of_getElem? (i := 503) (by decide +kernel), List.mem_of_getElem? (i := 529) (by decide +kernel), List.mem_of_getElem? (i := 530) (by decide +kernel)⟩
theorem lw_p23 : lw_okq (⟨"LinkHarbour$Link", "writePiece", "(LLinkHarbour$Image;III)V"⟩, 9) := ⟨⟨by decide +kernel, by decide +kernel⟩, List.mem_of_getElem? (i := 503) (by decide +kernel), List.mem_of_getElem? (i := 565) (by decide +kernel), List.mem_of_getElem? (i := 566) (by decide +kernel)⟩
theorem lw_p24 : lw_okq (⟨"LinkHarbour$LibraryTable", "fillRow", "(I)I"⟩, 16) := ⟨⟨by decide +kernel, by decide +kernel⟩, List.mem_of_getElem? (i := 663) (by decide +kernel), List.mem_of_getElem? (i := 661) (by decide +kernel), List.mem_of_getElem? (i := 662) (by decide +kernel)⟩
theorem lw_p25 : lw_okq (⟨"LinkHarbour$LibraryTable", "neededNow", "(I)I"⟩, 16) := ⟨⟨by decide +kernel, by decide +kernel⟩, List.mem_of_getElem? (i := 663) (by decide +kernel), List.mem_of_getElem? (i := 666) (by decide +kernel), List.mem_of_getElem? (i := 667) (by decide +kernel)⟩
theorem lw_p26 : lw_okq (⟨"LinkHarbour$LibraryTable", "load", "(I)V"⟩, 16) := ⟨⟨by decide +kernel, by decide +kernel⟩, List.mem_of_getElem? (i := 663) (by decide +kernel), List.mem_of_getElem? (i := 679) (by decide +kernel), List.mem_of_getElem? (i := 680) (by decide +kernel)⟩
theorem lw_p27 : lw_okq (⟨"LinkHarbour$LibraryTable", "makeGlobal", "(I)V"⟩, 16) := ⟨⟨by decide +kernel, by decide +kernel⟩, List.mem_of_getElem? (i := 663) (by decide +kernel), List.mem_of_getElem? (i := 685) (by decide +kernel), List.mem_of_getElem? (i := 686) (by decide +kernel)⟩
theorem lw_p28 : lw_okq (⟨"LinkHarbour$LibraryTable", "initialise", "(II)V"⟩, 16) := ⟨⟨by decide +kernel, by decide +kernel⟩, List.mem_of_getElem? (i := 663) (by decide +kernel), List.mem_of_getElem? (i := 696) (by decide +kernel), List.mem_of_getElem? (i := 697) (by decide +kernel)⟩
theorem lw_p29 : lw_okq (⟨"LinkHarbour$LibraryTable", "loaded", "()I"⟩, 16) := ⟨⟨by decide +kernel, by decide +kernel⟩, List.mem_of_getElem? (i := 663) (by decide +kernel), List.mem_of_getElem? (i := 722) (by decide +kernel), List.mem_of_getElem? (i := 723) (by decide +kernel)⟩
theorem lw_p30 : lw_okq (⟨"LinkHarbour$LibraryTable", "finish", "(I)V"⟩, 16) := ⟨⟨by decide +kernel, by decide +kernel⟩, List.mem_of_getElem? (i := 663) (by decide +kernel), List.mem_of_getElem? (i := 726) (by decide +kernel), List.mem_of_getElem? (i := 727) (by decide +kernel)⟩
theorem lw_p31 : lw_okq (⟨"LinkHarbour", "mixObjects", "(J)J"⟩, 9) := ⟨⟨by decide +kernel, by decide +kernel⟩, List.mem_of_getElem? (i := 811) (by decide +kernel), List.mem_of_getElem? (i := 809) (by decide +kernel), List.mem_of_getElem? (i := 810) (by decide +kernel)⟩
def lw_privs_2 : List (MethodName × Nat) := [(⟨"LinkHarbour$Layout", "wordsAhead", "(II)I"⟩, 13), (⟨"LinkHarbour$Layout", "placeCommons", "()V"⟩, 13), (⟨"LinkHarbour$Layout", "addressNames", "()V"⟩, 13), (⟨"LinkHarbour$Layout", "lengthenAll", "(I)Z"⟩, 13), (⟨"LinkHarbour$Layout", "lengthenIn", "(II)Z"⟩, 13), (⟨"LinkHarbour$Link", "tellFaults", "(I)V"⟩, 9), (⟨"LinkHarbour$Link", "tellFaultsOf", "(III)V"⟩, 9), (⟨"LinkHarbour$Link", "writePiece", "(LLinkHarbour$Image;III)V"⟩, 9), (⟨"LinkHarbour$LibraryTable", "fillRow", "(I)I"⟩, 16), (⟨"LinkHarbour$LibraryTable", "neededNow", "(I)I"⟩, 16), (⟨"LinkHarbour$LibraryTable", "load", "(I)V"⟩, 16), (⟨"LinkHarbour$LibraryTable", "makeGlobal", "(I)V"⟩, 16), (⟨"LinkHarbour$LibraryTable", "initialise", "(II)V"⟩, 16), (⟨"LinkHarbour$LibraryTable", "loaded", "()I"⟩, 16), (⟨"LinkHarbour$LibraryTable", "finish", "(I)V"⟩, 16), (⟨"LinkHarbour", "mixObjects", "(J)J"⟩, 9)]
theorem lw_r2 : ∀ q ∈ lw_privs_2, lw_okq q := List.forall_mem_cons.mpr ⟨lw_p16, List.forall_mem_cons.mpr ⟨lw_p17, List.forall_mem_cons.mpr ⟨lw_p18, List.forall_mem_cons.mpr ⟨lw_p19, List.forall_mem_cons.mpr ⟨lw_p20, List.forall_mem_cons.mpr ⟨lw_p21, List.forall_mem_cons.mpr ⟨lw_p22, List.forall_mem_cons.mpr ⟨lw_p23, List.forall_mem_cons.mpr ⟨lw_p24, List.forall_mem_cons.mpr ⟨lw_p25, List.forall_mem_cons.mpr ⟨lw_p26, List.forall_mem_cons.mpr ⟨lw_p27, List.forall_mem_cons.mpr ⟨lw_p28, List.forall_mem_cons.mpr ⟨lw_p29, List.forall_mem_cons.mpr ⟨lw_p30, List.forall_mem_cons.mpr ⟨lw_p31, fun _ h => absurd h List.not_mem_nil⟩⟩⟩⟩⟩⟩⟩⟩⟩⟩⟩⟩⟩⟩⟩⟩
theorem lw_p32 : lw_okq (⟨"LinkHarbour", "mixSections", "(J)J"⟩, 9) := ⟨⟨by decide +kernel, by decide +kernel⟩, List.mem_of_getElem? (i := 811) (by decide +kernel), List.mem_of_getElem? (i := 815) (by decide +kernel), List.mem_of_getElem? (i := 816) (by decide +kernel)⟩
theorem lw_p33 : lw_okq (⟨"LinkHarbour", "mixNames", "(J)J"⟩, 9) := ⟨⟨by decide +kernel, by decide +kernel⟩, List.mem_of_getElem? (i := 811) (by decide +kernel), List.mem_of_getElem? (i := 820) (by decide +kernel), List.mem_of_getElem? (i := 821) (by decide +kernel)⟩
theorem lw_p34 : lw_okq (⟨"LinkHarbour", "mixFaults", "(J)J"⟩, 9) := ⟨⟨by decide +kernel, by decide +kernel⟩, List.mem_of_getElem? (i := 811) (by decide +kernel), List.mem_of_getElem? (i := 840) (by decide +kernel), List.mem_of_getElem? (i := 841) (by decide +kernel)⟩
theorem lw_p35 : lw_okq (⟨"LinkHarbour", "mixLibrary", "(JI)J"⟩, 9) := ⟨⟨by decide +kernel, by decide +kernel⟩, List.mem_of_getElem? (i := 811) (by decide +kernel), List.mem_of_getElem? (i := 855) (by decide +kernel), List.mem_of_getElem? (i := 856) (by decide +kernel)⟩
theorem lw_p36 : lw_okq (⟨"LinkHarbour", "addReference", "(IIIIZ)I"⟩, 9) := ⟨⟨by decide +kernel, by decide +kernel⟩, List.mem_of_getElem? (i := 811) (by decide +kernel), List.mem_of_getElem? (i := 1425) (by decide +kernel), List.mem_of_getElem? (i := 1426) (by decide +kernel)⟩
def lw_privs_3 : List (MethodName × Nat) := [(⟨"LinkHarbour", "mixSections", "(J)J"⟩, 9), (⟨"LinkHarbour", "mixNames", "(J)J"⟩, 9), (⟨"LinkHarbour", "mixFaults", "(J)J"⟩, 9), (⟨"LinkHarbour", "mixLibrary", "(JI)J"⟩, 9), (⟨"LinkHarbour", "addReference", "(IIIIZ)I"⟩, 9)]
theorem lw_r3 : ∀ q ∈ lw_privs_3, lw_okq q := List.forall_mem_cons.mpr ⟨lw_p32, List.forall_mem_cons.mpr ⟨lw_p33, List.forall_mem_cons.mpr ⟨lw_p34, List.forall_mem_cons.mpr ⟨lw_p35, List.forall_mem_cons.mpr ⟨lw_p36, fun _ h => absurd h List.not_mem_nil⟩⟩⟩⟩⟩
def lw_privs : List (MethodName × Nat) := lw_privs_1 ++ (lw_privs_2 ++ (lw_privs_3))
def lw_tbl : List Cond := k2_sels lw_privs ++ tables_1
theorem lw_privs_ok : ∀ q ∈ lw_privs, lw_okq q := by
  show ∀ q ∈ lw_privs_1 ++ (lw_privs_2 ++ (lw_privs_3)), lw_okq q
  exact List.forall_mem_append.mpr ⟨lw_r1, List.forall_mem_append.mpr ⟨lw_r2, lw_r3⟩⟩

def RX0 : String := "LinkHarbour$FaultList"
def TX0 : u_T := fun k => match k with
  | 0 => ("LinkHarbour$FaultList", "parts", "[I", true)
  | _ => ("LinkHarbour$FaultList", "count", "I", false)
def tyX0 : Nat → FieldType := fun k => match k with
  | 0 => .array .int
  | _ => .int
theorem nmX0 : ∀ a, a < 2 → ∀ b, b < 2 → a ≠ b → (TX0 a).2.1 ≠ (TX0 b).2.1 := by decide +kernel
theorem tyX0_ok : ∀ k, k < 2 → parseFieldDescriptor (TX0 k).2.2.1 = some (tyX0 k) := by decide +kernel
abbrev cX0_init : ByteArray := prog_2_method_1_code
def yX0_init : MethodName := ⟨RX0, "<init>", "()V"⟩
abbrev cX0_count : ByteArray := prog_2_method_2_code
def yX0_count : MethodName := ⟨RX0, "count", "()I"⟩
abbrev cX0_forget : ByteArray := prog_2_method_3_code
def yX0_forget : MethodName := ⟨RX0, "forget", "()V"⟩
abbrev cX0_add : ByteArray := prog_2_method_4_code
def yX0_add : MethodName := ⟨RX0, "add", "(IIII)V"⟩
abbrev cX0_part : ByteArray := prog_2_method_5_code
def yX0_part : MethodName := ⟨RX0, "part", "(II)I"⟩
def RX1 : String := "LinkHarbour$Image"
def TX1 : u_T := fun k => match k with
  | _ => ("LinkHarbour$Image", "words", "[I", false)
def tyX1 : Nat → FieldType := fun k => match k with
  | _ => .array .int
theorem nmX1 : ∀ a, a < 1 → ∀ b, b < 1 → a ≠ b → (TX1 a).2.1 ≠ (TX1 b).2.1 := by decide +kernel
theorem tyX1_ok : ∀ k, k < 1 → parseFieldDescriptor (TX1 k).2.2.1 = some (tyX1 k) := by decide +kernel
abbrev cX1_init : ByteArray := prog_3_method_1_code
def yX1_init : MethodName := ⟨RX1, "<init>", "()V"⟩
abbrev cX1_clearUpTo : ByteArray := prog_3_method_2_code
def yX1_clearUpTo : MethodName := ⟨RX1, "clearUpTo", "(I)V"⟩
abbrev cX1_put : ByteArray := prog_3_method_3_code
def yX1_put : MethodName := ⟨RX1, "put", "(II)V"⟩
abbrev cX1_read : ByteArray := prog_3_method_4_code
def yX1_read : MethodName := ⟨RX1, "read", "(I)I"⟩
def RX2 : String := "LinkHarbour$ItemRow"
def TX2 : u_T := fun k => match k with
  | 0 => ("LinkHarbour$ItemRow", "sets", "[I", true)
  | 1 => ("LinkHarbour$ItemRow", "kinds", "[I", true)
  | _ => ("LinkHarbour$ItemRow", "count", "I", false)
def tyX2 : Nat → FieldType := fun k => match k with
  | 0 => .array .int
  | 1 => .array .int
  | _ => .int
theorem nmX2 : ∀ a, a < 3 → ∀ b, b < 3 → a ≠ b → (TX2 a).2.1 ≠ (TX2 b).2.1 := by decide +kernel
theorem tyX2_ok : ∀ k, k < 3 → parseFieldDescriptor (TX2 k).2.2.1 = some (tyX2 k) := by decide +kernel
abbrev cX2_init : ByteArray := prog_4_method_1_code
def yX2_init : MethodName := ⟨RX2, "<init>", "()V"⟩
abbrev cX2_count : ByteArray := prog_4_method_2_code
def yX2_count : MethodName := ⟨RX2, "count", "()I"⟩
abbrev cX2_isFull : ByteArray := prog_4_method_3_code
def yX2_isFull : MethodName := ⟨RX2, "isFull", "()Z"⟩
abbrev cX2_add : ByteArray := prog_4_method_4_code
def yX2_add : MethodName := ⟨RX2, "add", "(II)I"⟩
abbrev cX2_removeAll : ByteArray := prog_4_method_5_code
def yX2_removeAll : MethodName := ⟨RX2, "removeAll", "()I"⟩
abbrev cX2_hasAny : ByteArray := prog_4_method_6_code
def yX2_hasAny : MethodName := ⟨RX2, "hasAny", "(I)Z"⟩
abbrev cX2_itemOf : ByteArray := prog_4_method_7_code
def yX2_itemOf : MethodName := ⟨RX2, "itemOf", "(I)I"⟩
abbrev cX2_set : ByteArray := prog_4_method_8_code
def yX2_set : MethodName := ⟨RX2, "set", "(I)I"⟩
abbrev cX2_isPlain : ByteArray := prog_4_method_9_code
def yX2_isPlain : MethodName := ⟨RX2, "isPlain", "(I)Z"⟩
abbrev cX2_joinsAhead : ByteArray := prog_4_method_10_code
def yX2_joinsAhead : MethodName := ⟨RX2, "joinsAhead", "(I)Z"⟩
abbrev cX2_groupEnd : ByteArray := prog_4_method_11_code
def yX2_groupEnd : MethodName := ⟨RX2, "groupEnd", "(I)I"⟩
def RX3 : String := "LinkHarbour$Layout"
def TX3 : u_T := fun k => match k with
  | 0 => ("LinkHarbour$Layout", "sections", "LLinkHarbour$SectionTable;", true)
  | 1 => ("LinkHarbour$Layout", "taking", "LLinkHarbour$Taking;", true)
  | 2 => ("LinkHarbour$Layout", "settling", "LLinkHarbour$Settling;", true)
  | 3 => ("LinkHarbour$Layout", "reaching", "LLinkHarbour$Reaching;", true)
  | 4 => ("LinkHarbour$Layout", "order", "[I", true)
  | 5 => ("LinkHarbour$Layout", "laid", "I", false)
  | 6 => ("LinkHarbour$Layout", "addressOf", "[I", true)
  | 7 => ("LinkHarbour$Layout", "wordsOf", "[I", true)
  | 8 => ("LinkHarbour$Layout", "longsOf", "[I", true)
  | 9 => ("LinkHarbour$Layout", "width", "[I", true)
  | 10 => ("LinkHarbour$Layout", "addressOfName", "[I", true)
  | 11 => ("LinkHarbour$Layout", "size", "I", false)
  | _ => ("LinkHarbour$Layout", "used", "I", false)
def tyX3 : Nat → FieldType := fun k => match k with
  | 0 => .object "LinkHarbour$SectionTable"
  | 1 => .object "LinkHarbour$Taking"
  | 2 => .object "LinkHarbour$Settling"
  | 3 => .object "LinkHarbour$Reaching"
  | 4 => .array .int
  | 5 => .int
  | 6 => .array .int
  | 7 => .array .int
  | 8 => .array .int
  | 9 => .array .int
  | 10 => .array .int
  | 11 => .int
  | _ => .int
theorem nmX3 : ∀ a, a < 13 → ∀ b, b < 13 → a ≠ b → (TX3 a).2.1 ≠ (TX3 b).2.1 := by decide +kernel
theorem tyX3_ok : ∀ k, k < 13 → parseFieldDescriptor (TX3 k).2.2.1 = some (tyX3 k) := by decide +kernel
abbrev cX3_init : ByteArray := prog_5_method_1_code
def yX3_init : MethodName := ⟨RX3, "<init>", "(LLinkHarbour$SectionTable;LLinkHarbour$Taking;LLinkHarbour$Settling;LLinkHarbour$Reaching;)V"⟩
abbrev cX3_size : ByteArray := prog_5_method_2_code
def yX3_size : MethodName := ⟨RX3, "size", "()I"⟩
abbrev cX3_laid : ByteArray := prog_5_method_4_code
def yX3_laid : MethodName := ⟨RX3, "laid", "()I"⟩
abbrev cX3_sectionAt : ByteArray := prog_5_method_5_code
def yX3_sectionAt : MethodName := ⟨RX3, "sectionAt", "(I)I"⟩
abbrev cX3_addressOf : ByteArray := prog_5_method_6_code
def yX3_addressOf : MethodName := ⟨RX3, "addressOf", "(I)I"⟩
abbrev cX3_wordsOf : ByteArray := prog_5_method_7_code
def yX3_wordsOf : MethodName := ⟨RX3, "wordsOf", "(I)I"⟩
abbrev cX3_longsOf : ByteArray := prog_5_method_8_code
def yX3_longsOf : MethodName := ⟨RX3, "longsOf", "(I)I"⟩
abbrev cX3_countLongs : ByteArray := prog_5_method_9_code
def yX3_countLongs : MethodName := ⟨RX3, "countLongs", "()I"⟩
abbrev cX3_addressOfName : ByteArray := prog_5_method_10_code
def yX3_addressOfName : MethodName := ⟨RX3, "addressOfName", "(I)I"⟩
abbrev cX3_standsFor : ByteArray := prog_5_method_11_code
def yX3_standsFor : MethodName := ⟨RX3, "standsFor", "(I)I"⟩
abbrev cX3_width : ByteArray := prog_5_method_12_code
def yX3_width : MethodName := ⟨RX3, "width", "(II)I"⟩
abbrev cX3_layOut : ByteArray := prog_5_method_13_code
def yX3_layOut : MethodName := ⟨RX3, "layOut", "(I)V"⟩
abbrev cX3_orderSections : ByteArray := prog_5_method_14_code
def yX3_orderSections : MethodName := ⟨RX3, "orderSections", "()V"⟩
abbrev cX3_append : ByteArray := prog_5_method_15_code
def yX3_append : MethodName := ⟨RX3, "append", "(I)V"⟩
abbrev cX3_placeSections : ByteArray := prog_5_method_16_code
def yX3_placeSections : MethodName := ⟨RX3, "placeSections", "()V"⟩
abbrev cX3_placeCommons : ByteArray := prog_5_method_17_code
def yX3_placeCommons : MethodName := ⟨RX3, "placeCommons", "()V"⟩
abbrev cX3_addressNames : ByteArray := prog_5_method_18_code
def yX3_addressNames : MethodName := ⟨RX3, "addressNames", "()V"⟩
abbrev cX3_wordsAhead : ByteArray := prog_5_method_19_code
def yX3_wordsAhead : MethodName := ⟨RX3, "wordsAhead", "(II)I"⟩
abbrev cX3_lengthenAll : ByteArray := prog_5_method_20_code
def yX3_lengthenAll : MethodName := ⟨RX3, "lengthenAll", "(I)Z"⟩
abbrev cX3_lengthenIn : ByteArray := prog_5_method_21_code
def yX3_lengthenIn : MethodName := ⟨RX3, "lengthenIn", "(II)Z"⟩
def RX4 : String := "LinkHarbour$LibraryTable"
def TX4 : u_T := fun k => match k with
  | 0 => ("LinkHarbour$LibraryTable", "sizeOf", "[I", true)
  | 1 => ("LinkHarbour$LibraryTable", "needsOf", "[I", true)
  | 2 => ("LinkHarbour$LibraryTable", "exportsOf", "[I", true)
  | 3 => ("LinkHarbour$LibraryTable", "importsOf", "[I", true)
  | 4 => ("LinkHarbour$LibraryTable", "addressOf", "[I", true)
  | 5 => ("LinkHarbour$LibraryTable", "openedOf", "[I", true)
  | 6 => ("LinkHarbour$LibraryTable", "baseOf", "[I", true)
  | 7 => ("LinkHarbour$LibraryTable", "boundTo", "[I", true)
  | 8 => ("LinkHarbour$LibraryTable", "global", "[I", true)
  | 9 => ("LinkHarbour$LibraryTable", "initialised", "[I", true)
  | 10 => ("LinkHarbour$LibraryTable", "row", "[I", true)
  | 11 => ("LinkHarbour$LibraryTable", "way", "[I", true)
  | 12 => ("LinkHarbour$LibraryTable", "rowSet", "I", false)
  | 13 => ("LinkHarbour$LibraryTable", "count", "I", false)
  | 14 => ("LinkHarbour$LibraryTable", "globalCount", "I", false)
  | _ => ("LinkHarbour$LibraryTable", "initialisedCount", "I", false)
def tyX4 : Nat → FieldType := fun k => match k with
  | 0 => .array .int
  | 1 => .array .int
  | 2 => .array .int
  | 3 => .array .int
  | 4 => .array .int
  | 5 => .array .int
  | 6 => .array .int
  | 7 => .array .int
  | 8 => .array .int
  | 9 => .array .int
  | 10 => .array .int
  | 11 => .array .int
  | 12 => .int
  | 13 => .int
  | 14 => .int
  | _ => .int
theorem nmX4 : ∀ a, a < 16 → ∀ b, b < 16 → a ≠ b → (TX4 a).2.1 ≠ (TX4 b).2.1 := by decide +kernel
theorem tyX4_ok : ∀ k, k < 16 → parseFieldDescriptor (TX4 k).2.2.1 = some (tyX4 k) := by decide +kernel
abbrev cX4_init : ByteArray := prog_6_method_1_code
def yX4_init : MethodName := ⟨RX4, "<init>", "()V"⟩
abbrev cX4_count : ByteArray := prog_6_method_2_code
def yX4_count : MethodName := ⟨RX4, "count", "()I"⟩
abbrev cX4_isFull : ByteArray := prog_6_method_3_code
def yX4_isFull : MethodName := ⟨RX4, "isFull", "()Z"⟩
abbrev cX4_has : ByteArray := prog_6_method_4_code
def yX4_has : MethodName := ⟨RX4, "has", "(I)Z"⟩
abbrev cX4_size : ByteArray := prog_6_method_5_code
def yX4_size : MethodName := ⟨RX4, "size", "(I)I"⟩
abbrev cX4_needs : ByteArray := prog_6_method_6_code
def yX4_needs : MethodName := ⟨RX4, "needs", "(I)I"⟩
abbrev cX4_exports : ByteArray := prog_6_method_7_code
def yX4_exports : MethodName := ⟨RX4, "exports", "(I)I"⟩
abbrev cX4_imports : ByteArray := prog_6_method_8_code
def yX4_imports : MethodName := ⟨RX4, "imports", "(I)I"⟩
abbrev cX4_opened : ByteArray := prog_6_method_9_code
def yX4_opened : MethodName := ⟨RX4, "opened", "(I)I"⟩
abbrev cX4_base : ByteArray := prog_6_method_10_code
def yX4_base : MethodName := ⟨RX4, "base", "(I)I"⟩
abbrev cX4_isLoaded : ByteArray := prog_6_method_11_code
def yX4_isLoaded : MethodName := ⟨RX4, "isLoaded", "(I)Z"⟩
abbrev cX4_isExport : ByteArray := prog_6_method_12_code
def yX4_isExport : MethodName := ⟨RX4, "isExport", "(II)Z"⟩
abbrev cX4_isImport : ByteArray := prog_6_method_13_code
def yX4_isImport : MethodName := ⟨RX4, "isImport", "(II)Z"⟩
abbrev cX4_exportAddress : ByteArray := prog_6_method_14_code
def yX4_exportAddress : MethodName := ⟨RX4, "exportAddress", "(II)I"⟩
abbrev cX4_boundTo : ByteArray := prog_6_method_15_code
def yX4_boundTo : MethodName := ⟨RX4, "boundTo", "(II)I"⟩
abbrev cX4_boundAddress : ByteArray := prog_6_method_16_code
def yX4_boundAddress : MethodName := ⟨RX4, "boundAddress", "(II)I"⟩
abbrev cX4_placeAmongGlobal : ByteArray := prog_6_method_17_code
def yX4_placeAmongGlobal : MethodName := ⟨RX4, "placeAmongGlobal", "(I)I"⟩
abbrev cX4_placeAmongInitialised : ByteArray := prog_6_method_18_code
def yX4_placeAmongInitialised : MethodName := ⟨RX4, "placeAmongInitialised", "(I)I"⟩
abbrev cX4_placeIn : ByteArray := prog_6_method_19_code
def yX4_placeIn : MethodName := ⟨RX4, "placeIn", "([III)I"⟩
abbrev cX4_countLoaded : ByteArray := prog_6_method_20_code
def yX4_countLoaded : MethodName := ⟨RX4, "countLoaded", "()I"⟩
abbrev cX4_countGlobal : ByteArray := prog_6_method_21_code
def yX4_countGlobal : MethodName := ⟨RX4, "countGlobal", "()I"⟩
abbrev cX4_countBindings : ByteArray := prog_6_method_22_code
def yX4_countBindings : MethodName := ⟨RX4, "countBindings", "()I"⟩
abbrev cX4_add : ByteArray := prog_6_method_23_code
def yX4_add : MethodName := ⟨RX4, "add", "(LLinkHarbour$Link;I)I"⟩
abbrev cX4_neededNow : ByteArray := prog_6_method_24_code
def yX4_neededNow : MethodName := ⟨RX4, "neededNow", "(I)I"⟩
abbrev cX4_loaded : ByteArray := prog_6_method_25_code
def yX4_loaded : MethodName := ⟨RX4, "loaded", "()I"⟩
abbrev cX4_fillRow : ByteArray := prog_6_method_26_code
def yX4_fillRow : MethodName := ⟨RX4, "fillRow", "(I)I"⟩
abbrev cX4_openOne : ByteArray := prog_6_method_27_code
def yX4_openOne : MethodName := ⟨RX4, "openOne", "(IZ)I"⟩
abbrev cX4_load : ByteArray := prog_6_method_28_code
def yX4_load : MethodName := ⟨RX4, "load", "(I)V"⟩
abbrev cX4_makeGlobal : ByteArray := prog_6_method_29_code
def yX4_makeGlobal : MethodName := ⟨RX4, "makeGlobal", "(I)V"⟩
abbrev cX4_initialise : ByteArray := prog_6_method_30_code
def yX4_initialise : MethodName := ⟨RX4, "initialise", "(II)V"⟩
abbrev cX4_lowestOf : ByteArray := prog_6_method_31_code
def yX4_lowestOf : MethodName := ⟨RX4, "lowestOf", "(I)I"⟩
abbrev cX4_closeOne : ByteArray := prog_6_method_32_code
def yX4_closeOne : MethodName := ⟨RX4, "closeOne", "(I)I"⟩
abbrev cX4_leavingBy : ByteArray := prog_6_method_33_code
def yX4_leavingBy : MethodName := ⟨RX4, "leavingBy", "(I)I"⟩
abbrev cX4_finish : ByteArray := prog_6_method_34_code
def yX4_finish : MethodName := ⟨RX4, "finish", "(I)V"⟩
abbrev cX4_without : ByteArray := prog_6_method_35_code
def yX4_without : MethodName := ⟨RX4, "without", "([III)I"⟩
abbrev cX4_firstExporter : ByteArray := prog_6_method_37_code
def yX4_firstExporter : MethodName := ⟨RX4, "firstExporter", "(II)I"⟩
def RX5 : String := "LinkHarbour$Link"
def TX5 : u_T := fun k => match k with
  | 0 => ("LinkHarbour$Link", "sections", "LLinkHarbour$SectionTable;", true)
  | 1 => ("LinkHarbour$Link", "taking", "LLinkHarbour$Taking;", true)
  | 2 => ("LinkHarbour$Link", "settling", "LLinkHarbour$Settling;", true)
  | 3 => ("LinkHarbour$Link", "reaching", "LLinkHarbour$Reaching;", true)
  | 4 => ("LinkHarbour$Link", "layout", "LLinkHarbour$Layout;", true)
  | 5 => ("LinkHarbour$Link", "faults", "LLinkHarbour$FaultList;", true)
  | 6 => ("LinkHarbour$Link", "isDone", "Z", false)
  | 7 => ("LinkHarbour$Link", "isShared", "Z", false)
  | _ => ("LinkHarbour$Link", "entry", "I", false)
def tyX5 : Nat → FieldType := fun k => match k with
  | 0 => .object "LinkHarbour$SectionTable"
  | 1 => .object "LinkHarbour$Taking"
  | 2 => .object "LinkHarbour$Settling"
  | 3 => .object "LinkHarbour$Reaching"
  | 4 => .object "LinkHarbour$Layout"
  | 5 => .object "LinkHarbour$FaultList"
  | 6 => .boolean
  | 7 => .boolean
  | _ => .int
theorem nmX5 : ∀ a, a < 9 → ∀ b, b < 9 → a ≠ b → (TX5 a).2.1 ≠ (TX5 b).2.1 := by decide +kernel
theorem tyX5_ok : ∀ k, k < 9 → parseFieldDescriptor (TX5 k).2.2.1 = some (tyX5 k) := by decide +kernel
abbrev cX5_init : ByteArray := prog_7_method_1_code
def yX5_init : MethodName := ⟨RX5, "<init>", "(LLinkHarbour$ObjectTable;LLinkHarbour$SectionTable;LLinkHarbour$ItemRow;)V"⟩
abbrev cX5_isDone : ByteArray := prog_7_method_2_code
def yX5_isDone : MethodName := ⟨RX5, "isDone", "()Z"⟩
abbrev cX5_isShared : ByteArray := prog_7_method_3_code
def yX5_isShared : MethodName := ⟨RX5, "isShared", "()Z"⟩
abbrev cX5_entry : ByteArray := prog_7_method_4_code
def yX5_entry : MethodName := ⟨RX5, "entry", "()I"⟩
abbrev cX5_run : ByteArray := prog_7_method_5_code
def yX5_run : MethodName := ⟨RX5, "run", "(IZIII)V"⟩
abbrev cX5_tellFaults : ByteArray := prog_7_method_6_code
def yX5_tellFaults : MethodName := ⟨RX5, "tellFaults", "(I)V"⟩
abbrev cX5_tellFaultsOf : ByteArray := prog_7_method_7_code
def yX5_tellFaultsOf : MethodName := ⟨RX5, "tellFaultsOf", "(III)V"⟩
abbrev cX5_writeTo : ByteArray := prog_7_method_8_code
def yX5_writeTo : MethodName := ⟨RX5, "writeTo", "(LLinkHarbour$Image;)V"⟩
abbrev cX5_writePiece : ByteArray := prog_7_method_9_code
def yX5_writePiece : MethodName := ⟨RX5, "writePiece", "(LLinkHarbour$Image;III)V"⟩
def RX6 : String := "LinkHarbour$ObjectTable"
def TX6 : u_T := fun k => match k with
  | 0 => ("LinkHarbour$ObjectTable", "defined", "[I", true)
  | 1 => ("LinkHarbour$ObjectTable", "offered", "[I", true)
  | 2 => ("LinkHarbour$ObjectTable", "needed", "[I", true)
  | 3 => ("LinkHarbour$ObjectTable", "kindOf", "[I", true)
  | 4 => ("LinkHarbour$ObjectTable", "sectionOf", "[I", true)
  | 5 => ("LinkHarbour$ObjectTable", "placeOf", "[I", true)
  | 6 => ("LinkHarbour$ObjectTable", "sizeOf", "[I", true)
  | 7 => ("LinkHarbour$ObjectTable", "alignOf", "[I", true)
  | 8 => ("LinkHarbour$ObjectTable", "hidden", "[I", true)
  | _ => ("LinkHarbour$ObjectTable", "count", "I", false)
def tyX6 : Nat → FieldType := fun k => match k with
  | 0 => .array .int
  | 1 => .array .int
  | 2 => .array .int
  | 3 => .array .int
  | 4 => .array .int
  | 5 => .array .int
  | 6 => .array .int
  | 7 => .array .int
  | 8 => .array .int
  | _ => .int
theorem nmX6 : ∀ a, a < 10 → ∀ b, b < 10 → a ≠ b → (TX6 a).2.1 ≠ (TX6 b).2.1 := by decide +kernel
theorem tyX6_ok : ∀ k, k < 10 → parseFieldDescriptor (TX6 k).2.2.1 = some (tyX6 k) := by decide +kernel
abbrev cX6_init : ByteArray := prog_8_method_1_code
def yX6_init : MethodName := ⟨RX6, "<init>", "()V"⟩
abbrev cX6_count : ByteArray := prog_8_method_2_code
def yX6_count : MethodName := ⟨RX6, "count", "()I"⟩
abbrev cX6_isFull : ByteArray := prog_8_method_3_code
def yX6_isFull : MethodName := ⟨RX6, "isFull", "()Z"⟩
abbrev cX6_has : ByteArray := prog_8_method_4_code
def yX6_has : MethodName := ⟨RX6, "has", "(I)Z"⟩
abbrev cX6_hasAll : ByteArray := prog_8_method_5_code
def yX6_hasAll : MethodName := ⟨RX6, "hasAll", "(I)Z"⟩
abbrev cX6_add : ByteArray := prog_8_method_6_code
def yX6_add : MethodName := ⟨RX6, "add", "()I"⟩
abbrev cX6_defined : ByteArray := prog_8_method_7_code
def yX6_defined : MethodName := ⟨RX6, "defined", "(I)I"⟩
abbrev cX6_offered : ByteArray := prog_8_method_8_code
def yX6_offered : MethodName := ⟨RX6, "offered", "(I)I"⟩
abbrev cX6_needed : ByteArray := prog_8_method_9_code
def yX6_needed : MethodName := ⟨RX6, "needed", "(I)I"⟩
abbrev cX6_need : ByteArray := prog_8_method_10_code
def yX6_need : MethodName := ⟨RX6, "need", "(II)V"⟩
abbrev cX6_addDefinition : ByteArray := prog_8_method_11_code
def yX6_addDefinition : MethodName := ⟨RX6, "addDefinition", "(IIIII)V"⟩
abbrev cX6_hide : ByteArray := prog_8_method_12_code
def yX6_hide : MethodName := ⟨RX6, "hide", "(II)V"⟩
abbrev cX6_addCommon : ByteArray := prog_8_method_13_code
def yX6_addCommon : MethodName := ⟨RX6, "addCommon", "(IIII)V"⟩
abbrev cX6_kind : ByteArray := prog_8_method_14_code
def yX6_kind : MethodName := ⟨RX6, "kind", "(II)I"⟩
abbrev cX6_sectionOf : ByteArray := prog_8_method_15_code
def yX6_sectionOf : MethodName := ⟨RX6, "sectionOf", "(II)I"⟩
abbrev cX6_placeOf : ByteArray := prog_8_method_16_code
def yX6_placeOf : MethodName := ⟨RX6, "placeOf", "(II)I"⟩
abbrev cX6_size : ByteArray := prog_8_method_17_code
def yX6_size : MethodName := ⟨RX6, "size", "(II)I"⟩
abbrev cX6_align : ByteArray := prog_8_method_18_code
def yX6_align : MethodName := ⟨RX6, "align", "(II)I"⟩
abbrev cX6_isHidden : ByteArray := prog_8_method_19_code
def yX6_isHidden : MethodName := ⟨RX6, "isHidden", "(II)Z"⟩
def RX7 : String := "LinkHarbour$Reaching"
def TX7 : u_T := fun k => match k with
  | 0 => ("LinkHarbour$Reaching", "sections", "LLinkHarbour$SectionTable;", true)
  | 1 => ("LinkHarbour$Reaching", "taking", "LLinkHarbour$Taking;", true)
  | 2 => ("LinkHarbour$Reaching", "settling", "LLinkHarbour$Settling;", true)
  | 3 => ("LinkHarbour$Reaching", "found", "[I", true)
  | 4 => ("LinkHarbour$Reaching", "foundCount", "I", false)
  | 5 => ("LinkHarbour$Reaching", "sectionSet", "I", false)
  | 6 => ("LinkHarbour$Reaching", "commonSet", "I", false)
  | 7 => ("LinkHarbour$Reaching", "imports", "I", false)
  | _ => ("LinkHarbour$Reaching", "references", "[I", true)
def tyX7 : Nat → FieldType := fun k => match k with
  | 0 => .object "LinkHarbour$SectionTable"
  | 1 => .object "LinkHarbour$Taking"
  | 2 => .object "LinkHarbour$Settling"
  | 3 => .array .int
  | 4 => .int
  | 5 => .int
  | 6 => .int
  | 7 => .int
  | _ => .array .int
theorem nmX7 : ∀ a, a < 9 → ∀ b, b < 9 → a ≠ b → (TX7 a).2.1 ≠ (TX7 b).2.1 := by decide +kernel
theorem tyX7_ok : ∀ k, k < 9 → parseFieldDescriptor (TX7 k).2.2.1 = some (tyX7 k) := by decide +kernel
abbrev cX7_init : ByteArray := prog_9_method_1_code
def yX7_init : MethodName := ⟨RX7, "<init>", "(LLinkHarbour$SectionTable;LLinkHarbour$Taking;LLinkHarbour$Settling;)V"⟩
abbrev cX7_hasSection : ByteArray := prog_9_method_2_code
def yX7_hasSection : MethodName := ⟨RX7, "hasSection", "(I)Z"⟩
abbrev cX7_hasCommon : ByteArray := prog_9_method_3_code
def yX7_hasCommon : MethodName := ⟨RX7, "hasCommon", "(I)Z"⟩
abbrev cX7_countSections : ByteArray := prog_9_method_4_code
def yX7_countSections : MethodName := ⟨RX7, "countSections", "()I"⟩
abbrev cX7_imports : ByteArray := prog_9_method_5_code
def yX7_imports : MethodName := ⟨RX7, "imports", "()I"⟩
abbrev cX7_isImport : ByteArray := prog_9_method_6_code
def yX7_isImport : MethodName := ⟨RX7, "isImport", "(I)Z"⟩
abbrev cX7_references : ByteArray := prog_9_method_7_code
def yX7_references : MethodName := ⟨RX7, "references", "(I)I"⟩
abbrev cX7_reachAll : ByteArray := prog_9_method_8_code
def yX7_reachAll : MethodName := ⟨RX7, "reachAll", "(IZ)V"⟩
abbrev cX7_forget : ByteArray := prog_9_method_9_code
def yX7_forget : MethodName := ⟨RX7, "forget", "()V"⟩
abbrev cX7_follow : ByteArray := prog_9_method_10_code
def yX7_follow : MethodName := ⟨RX7, "follow", "(IZ)V"⟩
abbrev cX7_reachName : ByteArray := prog_9_method_11_code
def yX7_reachName : MethodName := ⟨RX7, "reachName", "(I)V"⟩
abbrev cX7_reachSection : ByteArray := prog_9_method_12_code
def yX7_reachSection : MethodName := ⟨RX7, "reachSection", "(I)V"⟩
def RX8 : String := "LinkHarbour$SectionTable"
def TX8 : u_T := fun k => match k with
  | 0 => ("LinkHarbour$SectionTable", "objectOf", "[I", true)
  | 1 => ("LinkHarbour$SectionTable", "alignOf", "[I", true)
  | 2 => ("LinkHarbour$SectionTable", "keptOf", "[Z", true)
  | 3 => ("LinkHarbour$SectionTable", "piecesOf", "[I", true)
  | 4 => ("LinkHarbour$SectionTable", "kindOf", "[I", true)
  | 5 => ("LinkHarbour$SectionTable", "valueOf", "[I", true)
  | 6 => ("LinkHarbour$SectionTable", "addedOf", "[I", true)
  | 7 => ("LinkHarbour$SectionTable", "weakOf", "[Z", true)
  | _ => ("LinkHarbour$SectionTable", "count", "I", false)
def tyX8 : Nat → FieldType := fun k => match k with
  | 0 => .array .int
  | 1 => .array .int
  | 2 => .array .boolean
  | 3 => .array .int
  | 4 => .array .int
  | 5 => .array .int
  | 6 => .array .int
  | 7 => .array .boolean
  | _ => .int
theorem nmX8 : ∀ a, a < 9 → ∀ b, b < 9 → a ≠ b → (TX8 a).2.1 ≠ (TX8 b).2.1 := by decide +kernel
theorem tyX8_ok : ∀ k, k < 9 → parseFieldDescriptor (TX8 k).2.2.1 = some (tyX8 k) := by decide +kernel
abbrev cX8_init : ByteArray := prog_10_method_1_code
def yX8_init : MethodName := ⟨RX8, "<init>", "()V"⟩
abbrev cX8_count : ByteArray := prog_10_method_2_code
def yX8_count : MethodName := ⟨RX8, "count", "()I"⟩
abbrev cX8_isFull : ByteArray := prog_10_method_3_code
def yX8_isFull : MethodName := ⟨RX8, "isFull", "()Z"⟩
abbrev cX8_has : ByteArray := prog_10_method_4_code
def yX8_has : MethodName := ⟨RX8, "has", "(I)Z"⟩
abbrev cX8_add : ByteArray := prog_10_method_5_code
def yX8_add : MethodName := ⟨RX8, "add", "(IIZ)I"⟩
abbrev cX8_isFilled : ByteArray := prog_10_method_6_code
def yX8_isFilled : MethodName := ⟨RX8, "isFilled", "(I)Z"⟩
abbrev cX8_addPiece : ByteArray := prog_10_method_7_code
def yX8_addPiece : MethodName := ⟨RX8, "addPiece", "(IIIIZ)I"⟩
abbrev cX8_objectOf : ByteArray := prog_10_method_8_code
def yX8_objectOf : MethodName := ⟨RX8, "objectOf", "(I)I"⟩
abbrev cX8_align : ByteArray := prog_10_method_9_code
def yX8_align : MethodName := ⟨RX8, "align", "(I)I"⟩
abbrev cX8_isKept : ByteArray := prog_10_method_10_code
def yX8_isKept : MethodName := ⟨RX8, "isKept", "(I)Z"⟩
abbrev cX8_pieces : ByteArray := prog_10_method_11_code
def yX8_pieces : MethodName := ⟨RX8, "pieces", "(I)I"⟩
abbrev cX8_countOf : ByteArray := prog_10_method_12_code
def yX8_countOf : MethodName := ⟨RX8, "countOf", "(I)I"⟩
abbrev cX8_hasPiece : ByteArray := prog_10_method_13_code
def yX8_hasPiece : MethodName := ⟨RX8, "hasPiece", "(II)Z"⟩
abbrev cX8_kind : ByteArray := prog_10_method_14_code
def yX8_kind : MethodName := ⟨RX8, "kind", "(II)I"⟩
abbrev cX8_isReference : ByteArray := prog_10_method_15_code
def yX8_isReference : MethodName := ⟨RX8, "isReference", "(II)Z"⟩
abbrev cX8_words : ByteArray := prog_10_method_16_code
def yX8_words : MethodName := ⟨RX8, "words", "(II)I"⟩
abbrev cX8_name : ByteArray := prog_10_method_17_code
def yX8_name : MethodName := ⟨RX8, "name", "(II)I"⟩
abbrev cX8_added : ByteArray := prog_10_method_18_code
def yX8_added : MethodName := ⟨RX8, "added", "(II)I"⟩
abbrev cX8_isWeak : ByteArray := prog_10_method_19_code
def yX8_isWeak : MethodName := ⟨RX8, "isWeak", "(II)Z"⟩
def RX9 : String := "LinkHarbour$Settling"
def TX9 : u_T := fun k => match k with
  | 0 => ("LinkHarbour$Settling", "objects", "LLinkHarbour$ObjectTable;", true)
  | 1 => ("LinkHarbour$Settling", "taking", "LLinkHarbour$Taking;", true)
  | 2 => ("LinkHarbour$Settling", "kindOf", "[I", true)
  | 3 => ("LinkHarbour$Settling", "objectOf", "[I", true)
  | 4 => ("LinkHarbour$Settling", "sectionOf", "[I", true)
  | 5 => ("LinkHarbour$Settling", "placeOf", "[I", true)
  | 6 => ("LinkHarbour$Settling", "sizeOf", "[I", true)
  | 7 => ("LinkHarbour$Settling", "alignOf", "[I", true)
  | 8 => ("LinkHarbour$Settling", "hidden", "I", false)
  | _ => ("LinkHarbour$Settling", "twiceStrong", "I", false)
def tyX9 : Nat → FieldType := fun k => match k with
  | 0 => .object "LinkHarbour$ObjectTable"
  | 1 => .object "LinkHarbour$Taking"
  | 2 => .array .int
  | 3 => .array .int
  | 4 => .array .int
  | 5 => .array .int
  | 6 => .array .int
  | 7 => .array .int
  | 8 => .int
  | _ => .int
theorem nmX9 : ∀ a, a < 10 → ∀ b, b < 10 → a ≠ b → (TX9 a).2.1 ≠ (TX9 b).2.1 := by decide +kernel
theorem tyX9_ok : ∀ k, k < 10 → parseFieldDescriptor (TX9 k).2.2.1 = some (tyX9 k) := by decide +kernel
abbrev cX9_init : ByteArray := prog_11_method_1_code
def yX9_init : MethodName := ⟨RX9, "<init>", "(LLinkHarbour$ObjectTable;LLinkHarbour$Taking;)V"⟩
abbrev cX9_forget : ByteArray := prog_11_method_2_code
def yX9_forget : MethodName := ⟨RX9, "forget", "()V"⟩
abbrev cX9_settle : ByteArray := prog_11_method_3_code
def yX9_settle : MethodName := ⟨RX9, "settle", "()V"⟩
abbrev cX9_weigh : ByteArray := prog_11_method_4_code
def yX9_weigh : MethodName := ⟨RX9, "weigh", "(II)V"⟩
abbrev cX9_adopt : ByteArray := prog_11_method_5_code
def yX9_adopt : MethodName := ⟨RX9, "adopt", "(III)V"⟩
abbrev cX9_kind : ByteArray := prog_11_method_6_code
def yX9_kind : MethodName := ⟨RX9, "kind", "(I)I"⟩
abbrev cX9_objectOf : ByteArray := prog_11_method_7_code
def yX9_objectOf : MethodName := ⟨RX9, "objectOf", "(I)I"⟩
abbrev cX9_sectionOf : ByteArray := prog_11_method_8_code
def yX9_sectionOf : MethodName := ⟨RX9, "sectionOf", "(I)I"⟩
abbrev cX9_placeOf : ByteArray := prog_11_method_9_code
def yX9_placeOf : MethodName := ⟨RX9, "placeOf", "(I)I"⟩
abbrev cX9_isHidden : ByteArray := prog_11_method_10_code
def yX9_isHidden : MethodName := ⟨RX9, "isHidden", "(I)Z"⟩
abbrev cX9_size : ByteArray := prog_11_method_11_code
def yX9_size : MethodName := ⟨RX9, "size", "(I)I"⟩
abbrev cX9_align : ByteArray := prog_11_method_12_code
def yX9_align : MethodName := ⟨RX9, "align", "(I)I"⟩
abbrev cX9_isTwiceStrong : ByteArray := prog_11_method_13_code
def yX9_isTwiceStrong : MethodName := ⟨RX9, "isTwiceStrong", "(I)Z"⟩
def RX10 : String := "LinkHarbour$Taking"
def TX10 : u_T := fun k => match k with
  | 0 => ("LinkHarbour$Taking", "objects", "LLinkHarbour$ObjectTable;", true)
  | 1 => ("LinkHarbour$Taking", "items", "LLinkHarbour$ItemRow;", true)
  | 2 => ("LinkHarbour$Taking", "order", "[I", true)
  | 3 => ("LinkHarbour$Taking", "count", "I", false)
  | 4 => ("LinkHarbour$Taking", "taken", "I", false)
  | 5 => ("LinkHarbour$Taking", "needed", "I", false)
  | _ => ("LinkHarbour$Taking", "defined", "I", false)
def tyX10 : Nat → FieldType := fun k => match k with
  | 0 => .object "LinkHarbour$ObjectTable"
  | 1 => .object "LinkHarbour$ItemRow"
  | 2 => .array .int
  | 3 => .int
  | 4 => .int
  | 5 => .int
  | _ => .int
theorem nmX10 : ∀ a, a < 7 → ∀ b, b < 7 → a ≠ b → (TX10 a).2.1 ≠ (TX10 b).2.1 := by decide +kernel
theorem tyX10_ok : ∀ k, k < 7 → parseFieldDescriptor (TX10 k).2.2.1 = some (tyX10 k) := by decide +kernel
abbrev cX10_init : ByteArray := prog_12_method_1_code
def yX10_init : MethodName := ⟨RX10, "<init>", "(LLinkHarbour$ObjectTable;LLinkHarbour$ItemRow;)V"⟩
abbrev cX10_count : ByteArray := prog_12_method_2_code
def yX10_count : MethodName := ⟨RX10, "count", "()I"⟩
abbrev cX10_objectAt : ByteArray := prog_12_method_3_code
def yX10_objectAt : MethodName := ⟨RX10, "objectAt", "(I)I"⟩
abbrev cX10_placeOf : ByteArray := prog_12_method_4_code
def yX10_placeOf : MethodName := ⟨RX10, "placeOf", "(I)I"⟩
abbrev cX10_isTaken : ByteArray := prog_12_method_5_code
def yX10_isTaken : MethodName := ⟨RX10, "isTaken", "(I)Z"⟩
abbrev cX10_take : ByteArray := prog_12_method_6_code
def yX10_take : MethodName := ⟨RX10, "take", "(II)V"⟩
abbrev cX10_takeAll : ByteArray := prog_12_method_7_code
def yX10_takeAll : MethodName := ⟨RX10, "takeAll", "(I)V"⟩
abbrev cX10_takeGroup : ByteArray := prog_12_method_8_code
def yX10_takeGroup : MethodName := ⟨RX10, "takeGroup", "(II)V"⟩
abbrev cX10_takeWanted : ByteArray := prog_12_method_9_code
def yX10_takeWanted : MethodName := ⟨RX10, "takeWanted", "(I)V"⟩
abbrev cX10_add : ByteArray := prog_12_method_10_code
def yX10_add : MethodName := ⟨RX10, "add", "(I)V"⟩
def RX11 : String := "LinkHarbour"
def TX11 : u_T := fun k => match k with
  | 0 => ("LinkHarbour", "objects", "LLinkHarbour$ObjectTable;", true)
  | 1 => ("LinkHarbour", "sections", "LLinkHarbour$SectionTable;", true)
  | 2 => ("LinkHarbour", "items", "LLinkHarbour$ItemRow;", true)
  | 3 => ("LinkHarbour", "libraries", "LLinkHarbour$LibraryTable;", true)
  | 4 => ("LinkHarbour", "image", "LLinkHarbour$Image;", true)
  | 5 => ("LinkHarbour", "latest", "LLinkHarbour$Link;", true)
  | 6 => ("LinkHarbour", "trial", "LLinkHarbour$Link;", true)
  | 7 => ("LinkHarbour", "reach", "I", false)
  | _ => ("LinkHarbour", "limit", "I", false)
def tyX11 : Nat → FieldType := fun k => match k with
  | 0 => .object "LinkHarbour$ObjectTable"
  | 1 => .object "LinkHarbour$SectionTable"
  | 2 => .object "LinkHarbour$ItemRow"
  | 3 => .object "LinkHarbour$LibraryTable"
  | 4 => .object "LinkHarbour$Image"
  | 5 => .object "LinkHarbour$Link"
  | 6 => .object "LinkHarbour$Link"
  | 7 => .int
  | _ => .int
theorem nmX11 : ∀ a, a < 9 → ∀ b, b < 9 → a ≠ b → (TX11 a).2.1 ≠ (TX11 b).2.1 := by decide +kernel
theorem tyX11_ok : ∀ k, k < 9 → parseFieldDescriptor (TX11 k).2.2.1 = some (tyX11 k) := by decide +kernel
abbrev cX11_init : ByteArray := prog_1_method_1_code
def yX11_init : MethodName := ⟨RX11, "<init>", "()V"⟩
abbrev cX11_object : ByteArray := prog_1_method_2_code
def yX11_object : MethodName := ⟨RX11, "object", "()I"⟩
abbrev cX11_section : ByteArray := prog_1_method_3_code
def yX11_section : MethodName := ⟨RX11, "section", "(IIZ)I"⟩
abbrev cX11_fill : ByteArray := prog_1_method_4_code
def yX11_fill : MethodName := ⟨RX11, "fill", "(II)I"⟩
abbrev cX11_word : ByteArray := prog_1_method_5_code
def yX11_word : MethodName := ⟨RX11, "word", "(IIIZ)I"⟩
abbrev cX11_jump : ByteArray := prog_1_method_6_code
def yX11_jump : MethodName := ⟨RX11, "jump", "(IIZ)I"⟩
abbrev cX11_define : ByteArray := prog_1_method_7_code
def yX11_define : MethodName := ⟨RX11, "define", "(IIZZ)I"⟩
abbrev cX11_common : ByteArray := prog_1_method_8_code
def yX11_common : MethodName := ⟨RX11, "common", "(IIII)I"⟩
abbrev cX11_item : ByteArray := prog_1_method_9_code
def yX11_item : MethodName := ⟨RX11, "item", "(II)I"⟩
abbrev cX11_clear : ByteArray := prog_1_method_10_code
def yX11_clear : MethodName := ⟨RX11, "clear", "()I"⟩
abbrev cX11_ofObject : ByteArray := prog_1_method_11_code
def yX11_ofObject : MethodName := ⟨RX11, "ofObject", "(II)I"⟩
abbrev cX11_bounds : ByteArray := prog_1_method_12_code
def yX11_bounds : MethodName := ⟨RX11, "bounds", "(II)I"⟩
abbrev cX11_link : ByteArray := prog_1_method_13_code
def yX11_link : MethodName := ⟨RX11, "link", "(IZ)I"⟩
abbrev cX11_ofSection : ByteArray := prog_1_method_14_code
def yX11_ofSection : MethodName := ⟨RX11, "ofSection", "(II)I"⟩
abbrev cX11_ofName : ByteArray := prog_1_method_15_code
def yX11_ofName : MethodName := ⟨RX11, "ofName", "(II)I"⟩
abbrev cX11_fault : ByteArray := prog_1_method_16_code
def yX11_fault : MethodName := ⟨RX11, "fault", "(II)I"⟩
abbrev cX11_wordAt : ByteArray := prog_1_method_17_code
def yX11_wordAt : MethodName := ⟨RX11, "wordAt", "(I)I"⟩
abbrev cX11_publish : ByteArray := prog_1_method_18_code
def yX11_publish : MethodName := ⟨RX11, "publish", "(I)I"⟩
abbrev cX11_open : ByteArray := prog_1_method_19_code
def yX11_open : MethodName := ⟨RX11, "open", "(IZ)I"⟩
abbrev cX11_close : ByteArray := prog_1_method_20_code
def yX11_close : MethodName := ⟨RX11, "close", "(I)I"⟩
abbrev cX11_ofBinding : ByteArray := prog_1_method_22_code
def yX11_ofBinding : MethodName := ⟨RX11, "ofBinding", "(III)I"⟩
abbrev cX11_ofLibrary : ByteArray := prog_1_method_23_code
def yX11_ofLibrary : MethodName := ⟨RX11, "ofLibrary", "(II)I"⟩
abbrev cX11_many : ByteArray := prog_1_method_24_code
def yX11_many : MethodName := ⟨RX11, "many", "(I)I"⟩
abbrev cX11_sizeWith : ByteArray := prog_1_method_26_code
def yX11_sizeWith : MethodName := ⟨RX11, "sizeWith", "(I)I"⟩
abbrev cX11_faultsWithout : ByteArray := prog_1_method_27_code
def yX11_faultsWithout : MethodName := ⟨RX11, "faultsWithout", "(I)I"⟩
abbrev cX11_goes : ByteArray := prog_1_method_28_code
def yX11_goes : MethodName := ⟨RX11, "goes", "(I)I"⟩
abbrev cX11_wouldBind : ByteArray := prog_1_method_29_code
def yX11_wouldBind : MethodName := ⟨RX11, "wouldBind", "(II)I"⟩
abbrev cX11_digest : ByteArray := prog_1_method_30_code
def yX11_digest : MethodName := ⟨RX11, "digest", "()J"⟩
abbrev cX11_mixObjects : ByteArray := prog_1_method_31_code
def yX11_mixObjects : MethodName := ⟨RX11, "mixObjects", "(J)J"⟩
abbrev cX11_mixSections : ByteArray := prog_1_method_32_code
def yX11_mixSections : MethodName := ⟨RX11, "mixSections", "(J)J"⟩
abbrev cX11_mixNames : ByteArray := prog_1_method_33_code
def yX11_mixNames : MethodName := ⟨RX11, "mixNames", "(J)J"⟩
abbrev cX11_mixFaults : ByteArray := prog_1_method_34_code
def yX11_mixFaults : MethodName := ⟨RX11, "mixFaults", "(J)J"⟩
abbrev cX11_mixLibrary : ByteArray := prog_1_method_35_code
def yX11_mixLibrary : MethodName := ⟨RX11, "mixLibrary", "(JI)J"⟩
abbrev cX11_mix : ByteArray := prog_1_method_36_code
def yX11_mix : MethodName := ⟨RX11, "mix", "(JJ)J"⟩
abbrev cX11_isIn : ByteArray := prog_1_method_37_code
def yX11_isIn : MethodName := ⟨RX11, "isIn", "(II)Z"⟩
abbrev cX11_isName : ByteArray := prog_1_method_38_code
def yX11_isName : MethodName := ⟨RX11, "isName", "(I)Z"⟩
abbrev cX11_isAlign : ByteArray := prog_1_method_39_code
def yX11_isAlign : MethodName := ⟨RX11, "isAlign", "(I)Z"⟩
abbrev cX11_isReach : ByteArray := prog_1_method_40_code
def yX11_isReach : MethodName := ⟨RX11, "isReach", "(I)Z"⟩
abbrev cX11_hasBit : ByteArray := prog_1_method_41_code
def yX11_hasBit : MethodName := ⟨RX11, "hasBit", "(II)Z"⟩
abbrev cX11_roundUp : ByteArray := prog_1_method_42_code
def yX11_roundUp : MethodName := ⟨RX11, "roundUp", "(II)I"⟩
abbrev cX11_addReference : ByteArray := prog_1_method_43_code
def yX11_addReference : MethodName := ⟨RX11, "addReference", "(IIIIZ)I"⟩
def RX12 : String := "LinkHarbourLaw$Yard"
def TX12 : u_T := fun k => match k with
  | 0 => ("LinkHarbourLaw$Yard", "m", "LLinkHarbour;", true)
  | 1 => ("LinkHarbourLaw$Yard", "s", "[I", true)
  | 2 => ("LinkHarbourLaw$Yard", "draws", "I", false)
  | 3 => ("LinkHarbourLaw$Yard", "objects", "I", false)
  | 4 => ("LinkHarbourLaw$Yard", "sections", "[[I", false)
  | 5 => ("LinkHarbourLaw$Yard", "pieces", "[[[I", false)
  | 6 => ("LinkHarbourLaw$Yard", "definitions", "[[I", false)
  | 7 => ("LinkHarbourLaw$Yard", "items", "[[I", false)
  | 8 => ("LinkHarbourLaw$Yard", "reach", "I", false)
  | 9 => ("LinkHarbourLaw$Yard", "limit", "I", false)
  | 10 => ("LinkHarbourLaw$Yard", "taken", "[I", false)
  | 11 => ("LinkHarbourLaw$Yard", "kinds", "[I", true)
  | 12 => ("LinkHarbourLaw$Yard", "which", "[I", true)
  | 13 => ("LinkHarbourLaw$Yard", "reached", "[Z", false)
  | 14 => ("LinkHarbourLaw$Yard", "common", "[Z", false)
  | 15 => ("LinkHarbourLaw$Yard", "address", "[I", false)
  | 16 => ("LinkHarbourLaw$Yard", "longs", "[[Z", false)
  | 17 => ("LinkHarbourLaw$Yard", "places", "[I", true)
  | 18 => ("LinkHarbourLaw$Yard", "size", "I", false)
  | 19 => ("LinkHarbourLaw$Yard", "used", "I", false)
  | 20 => ("LinkHarbourLaw$Yard", "faults", "[[I", false)
  | 21 => ("LinkHarbourLaw$Yard", "imports", "I", false)
  | 22 => ("LinkHarbourLaw$Yard", "words", "[I", false)
  | _ => ("LinkHarbourLaw$Yard", "references", "[I", true)
def tyX12 : Nat → FieldType := fun k => match k with
  | 0 => .object "LinkHarbour"
  | 1 => .array .int
  | 2 => .int
  | 3 => .int
  | 4 => .array (.array .int)
  | 5 => .array (.array (.array .int))
  | 6 => .array (.array .int)
  | 7 => .array (.array .int)
  | 8 => .int
  | 9 => .int
  | 10 => .array .int
  | 11 => .array .int
  | 12 => .array .int
  | 13 => .array .boolean
  | 14 => .array .boolean
  | 15 => .array .int
  | 16 => .array (.array .boolean)
  | 17 => .array .int
  | 18 => .int
  | 19 => .int
  | 20 => .array (.array .int)
  | 21 => .int
  | 22 => .array .int
  | _ => .array .int
theorem nmX12 : ∀ a, a < 24 → ∀ b, b < 24 → a ≠ b → (TX12 a).2.1 ≠ (TX12 b).2.1 := by decide +kernel
theorem tyX12_ok : ∀ k, k < 24 → parseFieldDescriptor (TX12 k).2.2.1 = some (tyX12 k) := by decide +kernel
abbrev cX12_init : ByteArray := prog_14_method_1_code
def yX12_init : MethodName := ⟨RX12, "<init>", "([II)V"⟩
abbrev cX12_draw : ByteArray := prog_14_method_2_code
def yX12_draw : MethodName := ⟨RX12, "draw", "(I)I"⟩
abbrev cX12_with : ByteArray := prog_14_method_3_code
def yX12_with : MethodName := ⟨RX12, "with", "([[I[I)[[I"⟩
abbrev cX12_plus : ByteArray := prog_14_method_4_code
def yX12_plus : MethodName := ⟨RX12, "plus", "([[[I[[I)[[[I"⟩
abbrev cX12_section : ByteArray := prog_14_method_6_code
def yX12_section : MethodName := ⟨RX12, "section", "()Z"⟩
abbrev cX12_piece : ByteArray := prog_14_method_7_code
def yX12_piece : MethodName := ⟨RX12, "piece", "()Z"⟩
abbrev cX12_definitionOf : ByteArray := prog_14_method_8_code
def yX12_definitionOf : MethodName := ⟨RX12, "definitionOf", "(II)I"⟩
abbrev cX12_define : ByteArray := prog_14_method_9_code
def yX12_define : MethodName := ⟨RX12, "define", "()Z"⟩
abbrev cX12_row : ByteArray := prog_14_method_10_code
def yX12_row : MethodName := ⟨RX12, "row", "()Z"⟩
abbrev cX12_found : ByteArray := prog_14_method_11_code
def yX12_found : MethodName := ⟨RX12, "found", "()Z"⟩
def RX13 : String := "LinkHarbourModel$Linked"
def TX13 : u_T := fun k => match k with
  | _ => ("", "", "", false)
def tyX13 : Nat → FieldType := fun k => match k with
  | _ => .int
theorem nmX13 : ∀ a, a < 0 → ∀ b, b < 0 → a ≠ b → (TX13 a).2.1 ≠ (TX13 b).2.1 := by decide +kernel
theorem tyX13_ok : ∀ k, k < 0 → parseFieldDescriptor (TX13 k).2.2.1 = some (tyX13 k) := by decide +kernel
def RX14 : String := "LinkHarbourModel"
def TX14 : u_T := fun k => match k with
  | _ => ("", "", "", false)
def tyX14 : Nat → FieldType := fun k => match k with
  | _ => .int
theorem nmX14 : ∀ a, a < 0 → ∀ b, b < 0 → a ≠ b → (TX14 a).2.1 ≠ (TX14 b).2.1 := by decide +kernel
theorem tyX14_ok : ∀ k, k < 0 → parseFieldDescriptor (TX14 k).2.2.1 = some (tyX14 k) := by decide +kernel
def RJ6 : String := "java/lang/Integer"
abbrev cJ6_bitCount_0f7a4 : ByteArray := prog_21_method_49_code
def yJ6_bitCount_0f7a4 : MethodName := ⟨RJ6, "bitCount", "(I)I"⟩
def RJ9 : String := "java/lang/Math"
abbrev cJ9_abs_0f7a4 : ByteArray := prog_22_method_59_code
def yJ9_abs_0f7a4 : MethodName := ⟨RJ9, "abs", "(I)I"⟩
abbrev cJ9_max_7cf53 : ByteArray := prog_22_method_65_code
def yJ9_max_7cf53 : MethodName := ⟨RJ9, "max", "(II)I"⟩
def RJ0 : String := "java/lang/String"
def RJ10 : String := "java/lang/System"
def RL : String := "LinkHarbourLaw"
abbrev cL_below : ByteArray := method_2_code
def yL_below : MethodName := ⟨RL, "below", "(II)I"⟩
abbrev cL_cell : ByteArray := method_3_code
def yL_cell : MethodName := ⟨RL, "cell", "([II)I"⟩
abbrev cL_law : ByteArray := code
def yL_law : MethodName := ⟨RL, "law", "([I)Z"⟩
abbrev cL_areWords : ByteArray := method_5_code
def yL_areWords : MethodName := ⟨RL, "areWords", "(LLinkHarbour;[I)Z"⟩
abbrev vwCl : List vw_C := [(RX0, TX0, 2), (RX1, TX1, 1), (RX2, TX2, 3), (RX3, TX3, 13), (RX4, TX4, 16), (RX5, TX5, 9), (RX6, TX6, 10), (RX7, TX7, 9), (RX8, TX8, 9), (RX9, TX9, 10), (RX10, TX10, 7), (RX11, TX11, 9), (RX12, TX12, 24)]
