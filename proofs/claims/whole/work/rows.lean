section
-- ===== PART A: goes FIRST, ahead of the names: the tables' words, and 'selects' of the private methods out of them =====
/-- a private method of a class that the tables say can be made, by its rows of tables_1 -/
def lw_okq (q : MethodName × Nat) : Prop := (q.1.cls ≠ "java/lang/invoke/MethodHandle" ∧ q.1.cls ≠ "java/lang/invoke/VarHandle") ∧ Cond.instantiable q.1.cls q.2 ∈ tables_1 ∧ Cond.privateMethod q.1 ∈ tables_1 ∧ Cond.instanceMethod q.1 ∈ tables_1
theorem lw_p0 : lw_okq (⟨"PolynomialDesk$Ring", "listMonomials", "(III)V"⟩, 13) := ⟨⟨by decide +kernel, by decide +kernel⟩, List.mem_of_getElem? (i := 27) (by decide +kernel), List.mem_of_getElem? (i := 85) (by decide +kernel), List.mem_of_getElem? (i := 86) (by decide +kernel)⟩
theorem lw_p1 : lw_okq (⟨"PolynomialDesk$Ring", "recordMonomial", "(I)V"⟩, 13) := ⟨⟨by decide +kernel, by decide +kernel⟩, List.mem_of_getElem? (i := 27) (by decide +kernel), List.mem_of_getElem? (i := 89) (by decide +kernel), List.mem_of_getElem? (i := 90) (by decide +kernel)⟩
theorem lw_p2 : lw_okq (⟨"PolynomialDesk$Ring", "leadingOf", "([I)I"⟩, 13) := ⟨⟨by decide +kernel, by decide +kernel⟩, List.mem_of_getElem? (i := 27) (by decide +kernel), List.mem_of_getElem? (i := 198) (by decide +kernel), List.mem_of_getElem? (i := 199) (by decide +kernel)⟩
theorem lw_p3 : lw_okq (⟨"java/lang/Throwable", "fillInStackTrace", "(I)Ljava/lang/Throwable;"⟩, 6) := ⟨⟨by decide +kernel, by decide +kernel⟩, List.mem_of_getElem? (i := 271) (by decide +kernel), List.mem_of_getElem? (i := 269) (by decide +kernel), List.mem_of_getElem? (i := 270) (by decide +kernel)⟩
theorem lw_p4 : lw_okq (⟨"PolynomialDesk$Reader", "readSum", "(I)V"⟩, 9) := ⟨⟨by decide +kernel, by decide +kernel⟩, List.mem_of_getElem? (i := 93) (by decide +kernel), List.mem_of_getElem? (i := 339) (by decide +kernel), List.mem_of_getElem? (i := 340) (by decide +kernel)⟩
theorem lw_p5 : lw_okq (⟨"PolynomialDesk$Reader", "nextByte", "()I"⟩, 9) := ⟨⟨by decide +kernel, by decide +kernel⟩, List.mem_of_getElem? (i := 93) (by decide +kernel), List.mem_of_getElem? (i := 344) (by decide +kernel), List.mem_of_getElem? (i := 345) (by decide +kernel)⟩
theorem lw_p6 : lw_okq (⟨"PolynomialDesk$Reader", "readTerm", "(I)V"⟩, 9) := ⟨⟨by decide +kernel, by decide +kernel⟩, List.mem_of_getElem? (i := 93) (by decide +kernel), List.mem_of_getElem? (i := 348) (by decide +kernel), List.mem_of_getElem? (i := 349) (by decide +kernel)⟩
theorem lw_p7 : lw_okq (⟨"PolynomialDesk$Reader", "readFactor", "(I)V"⟩, 9) := ⟨⟨by decide +kernel, by decide +kernel⟩, List.mem_of_getElem? (i := 93) (by decide +kernel), List.mem_of_getElem? (i := 352) (by decide +kernel), List.mem_of_getElem? (i := 353) (by decide +kernel)⟩
theorem lw_p8 : lw_okq (⟨"PolynomialDesk$Reader", "readBareFactor", "(I)V"⟩, 9) := ⟨⟨by decide +kernel, by decide +kernel⟩, List.mem_of_getElem? (i := 93) (by decide +kernel), List.mem_of_getElem? (i := 356) (by decide +kernel), List.mem_of_getElem? (i := 357) (by decide +kernel)⟩
theorem lw_p9 : lw_okq (⟨"PolynomialDesk$Reader", "readNumber", "(I)I"⟩, 9) := ⟨⟨by decide +kernel, by decide +kernel⟩, List.mem_of_getElem? (i := 93) (by decide +kernel), List.mem_of_getElem? (i := 366) (by decide +kernel), List.mem_of_getElem? (i := 367) (by decide +kernel)⟩
theorem lw_p10 : lw_okq (⟨"PolynomialDesk$Reader", "noteFault", "(II)V"⟩, 9) := ⟨⟨by decide +kernel, by decide +kernel⟩, List.mem_of_getElem? (i := 93) (by decide +kernel), List.mem_of_getElem? (i := 370) (by decide +kernel), List.mem_of_getElem? (i := 371) (by decide +kernel)⟩
theorem lw_p11 : lw_okq (⟨"PolynomialDesk$Ring", "reduce", "(I)I"⟩, 13) := ⟨⟨by decide +kernel, by decide +kernel⟩, List.mem_of_getElem? (i := 27) (by decide +kernel), List.mem_of_getElem? (i := 378) (by decide +kernel), List.mem_of_getElem? (i := 379) (by decide +kernel)⟩
theorem lw_p12 : lw_okq (⟨"PolynomialDesk$Ring", "addAt", "(II[I)V"⟩, 13) := ⟨⟨by decide +kernel, by decide +kernel⟩, List.mem_of_getElem? (i := 27) (by decide +kernel), List.mem_of_getElem? (i := 382) (by decide +kernel), List.mem_of_getElem? (i := 383) (by decide +kernel)⟩
theorem lw_p13 : lw_okq (⟨"PolynomialDesk$Reader", "readGroup", "(I)V"⟩, 9) := ⟨⟨by decide +kernel, by decide +kernel⟩, List.mem_of_getElem? (i := 93) (by decide +kernel), List.mem_of_getElem? (i := 394) (by decide +kernel), List.mem_of_getElem? (i := 395) (by decide +kernel)⟩
theorem lw_p14 : lw_okq (⟨"PolynomialDesk", "requireVariable", "(I)V"⟩, 5) := ⟨⟨by decide +kernel, by decide +kernel⟩, List.mem_of_getElem? (i := 19) (by decide +kernel), List.mem_of_getElem? (i := 473) (by decide +kernel), List.mem_of_getElem? (i := 474) (by decide +kernel)⟩
theorem lw_p15 : lw_okq (⟨"PolynomialDesk$Ring", "timesPower", "(III)I"⟩, 13) := ⟨⟨by decide +kernel, by decide +kernel⟩, List.mem_of_getElem? (i := 27) (by decide +kernel), List.mem_of_getElem? (i := 495) (by decide +kernel), List.mem_of_getElem? (i := 496) (by decide +kernel)⟩
def lw_privs_1 : List (MethodName × Nat) := [(⟨"PolynomialDesk$Ring", "listMonomials", "(III)V"⟩, 13), (⟨"PolynomialDesk$Ring", "recordMonomial", "(I)V"⟩, 13), (⟨"PolynomialDesk$Ring", "leadingOf", "([I)I"⟩, 13), (⟨"java/lang/Throwable", "fillInStackTrace", "(I)Ljava/lang/Throwable;"⟩, 6), (⟨"PolynomialDesk$Reader", "readSum", "(I)V"⟩, 9), (⟨"PolynomialDesk$Reader", "nextByte", "()I"⟩, 9), (⟨"PolynomialDesk$Reader", "readTerm", "(I)V"⟩, 9), (⟨"PolynomialDesk$Reader", "readFactor", "(I)V"⟩, 9), (⟨"PolynomialDesk$Reader", "readBareFactor", "(I)V"⟩, 9), (⟨"PolynomialDesk$Reader", "readNumber", "(I)I"⟩, 9), (⟨"PolynomialDesk$Reader", "noteFault", "(II)V"⟩, 9), (⟨"PolynomialDesk$Ring", "reduce", "(I)I"⟩, 13), (⟨"PolynomialDesk$Ring", "addAt", "(II[I)V"⟩, 13), (⟨"PolynomialDesk$Reader", "readGroup", "(I)V"⟩, 9), (⟨"PolynomialDesk", "requireVariable", "(I)V"⟩, 5), (⟨"PolynomialDesk$Ring", "timesPower", "(III)I"⟩, 13)]
theorem lw_r1 : ∀ q ∈ lw_privs_1, lw_okq q := List.forall_mem_cons.mpr ⟨lw_p0, List.forall_mem_cons.mpr ⟨lw_p1, List.forall_mem_cons.mpr ⟨lw_p2, List.forall_mem_cons.mpr ⟨lw_p3, List.forall_mem_cons.mpr ⟨lw_p4, List.forall_mem_cons.mpr ⟨lw_p5, List.forall_mem_cons.mpr ⟨lw_p6, List.forall_mem_cons.mpr ⟨lw_p7, List.forall_mem_cons.mpr ⟨lw_p8, List.forall_mem_cons.mpr ⟨lw_p9, List.forall_mem_cons.mpr ⟨lw_p10, List.forall_mem_cons.mpr ⟨lw_p11, List.forall_mem_cons.mpr ⟨lw_p12, List.forall_mem_cons.mpr ⟨lw_p13, List.forall_mem_cons.mpr ⟨lw_p14, List.forall_mem_cons.mpr ⟨lw_p15, fun _ h => absurd h List.not_mem_nil⟩⟩⟩⟩⟩⟩⟩⟩⟩⟩⟩⟩⟩⟩⟩⟩
theorem lw_p16 : lw_okq (⟨"PolynomialDesk$Printer", "writeByte", "(C)V"⟩, 3) := ⟨⟨by decide +kernel, by decide +kernel⟩, List.mem_of_getElem? (i := 129) (by decide +kernel), List.mem_of_getElem? (i := 522) (by decide +kernel), List.mem_of_getElem? (i := 523) (by decide +kernel)⟩
theorem lw_p17 : lw_okq (⟨"PolynomialDesk$Printer", "writeTerm", "(II)V"⟩, 3) := ⟨⟨by decide +kernel, by decide +kernel⟩, List.mem_of_getElem? (i := 129) (by decide +kernel), List.mem_of_getElem? (i := 526) (by decide +kernel), List.mem_of_getElem? (i := 527) (by decide +kernel)⟩
theorem lw_p18 : lw_okq (⟨"PolynomialDesk$Printer", "writeNumber", "(I)V"⟩, 3) := ⟨⟨by decide +kernel, by decide +kernel⟩, List.mem_of_getElem? (i := 129) (by decide +kernel), List.mem_of_getElem? (i := 530) (by decide +kernel), List.mem_of_getElem? (i := 531) (by decide +kernel)⟩
theorem lw_p19 : lw_okq (⟨"PolynomialDeskModel", "prepare", "(III)V"⟩, 27) := ⟨⟨by decide +kernel, by decide +kernel⟩, List.mem_of_getElem? (i := 576) (by decide +kernel), List.mem_of_getElem? (i := 583) (by decide +kernel), List.mem_of_getElem? (i := 584) (by decide +kernel)⟩
theorem lw_p20 : lw_okq (⟨"PolynomialDeskModel", "list", "(I)V"⟩, 27) := ⟨⟨by decide +kernel, by decide +kernel⟩, List.mem_of_getElem? (i := 576) (by decide +kernel), List.mem_of_getElem? (i := 587) (by decide +kernel), List.mem_of_getElem? (i := 588) (by decide +kernel)⟩
theorem lw_p21 : lw_okq (⟨"PolynomialDeskModel", "isGreater", "(II)Z"⟩, 27) := ⟨⟨by decide +kernel, by decide +kernel⟩, List.mem_of_getElem? (i := 576) (by decide +kernel), List.mem_of_getElem? (i := 591) (by decide +kernel), List.mem_of_getElem? (i := 592) (by decide +kernel)⟩
theorem lw_p22 : lw_okq (⟨"PolynomialDeskModel", "begin", "()V"⟩, 27) := ⟨⟨by decide +kernel, by decide +kernel⟩, List.mem_of_getElem? (i := 576) (by decide +kernel), List.mem_of_getElem? (i := 699) (by decide +kernel), List.mem_of_getElem? (i := 700) (by decide +kernel)⟩
theorem lw_p23 : lw_okq (⟨"PolynomialDeskModel", "sum", "()I"⟩, 27) := ⟨⟨by decide +kernel, by decide +kernel⟩, List.mem_of_getElem? (i := 576) (by decide +kernel), List.mem_of_getElem? (i := 703) (by decide +kernel), List.mem_of_getElem? (i := 704) (by decide +kernel)⟩
theorem lw_p24 : lw_okq (⟨"PolynomialDeskModel", "clear", "(I)V"⟩, 27) := ⟨⟨by decide +kernel, by decide +kernel⟩, List.mem_of_getElem? (i := 576) (by decide +kernel), List.mem_of_getElem? (i := 707) (by decide +kernel), List.mem_of_getElem? (i := 708) (by decide +kernel)⟩
theorem lw_p25 : lw_okq (⟨"PolynomialDeskModel", "lay", "(III)V"⟩, 27) := ⟨⟨by decide +kernel, by decide +kernel⟩, List.mem_of_getElem? (i := 576) (by decide +kernel), List.mem_of_getElem? (i := 711) (by decide +kernel), List.mem_of_getElem? (i := 712) (by decide +kernel)⟩
theorem lw_p26 : lw_okq (⟨"PolynomialDeskModel", "here", "()I"⟩, 27) := ⟨⟨by decide +kernel, by decide +kernel⟩, List.mem_of_getElem? (i := 576) (by decide +kernel), List.mem_of_getElem? (i := 715) (by decide +kernel), List.mem_of_getElem? (i := 716) (by decide +kernel)⟩
theorem lw_p27 : lw_okq (⟨"PolynomialDeskModel", "readFactor", "(I)V"⟩, 27) := ⟨⟨by decide +kernel, by decide +kernel⟩, List.mem_of_getElem? (i := 576) (by decide +kernel), List.mem_of_getElem? (i := 719) (by decide +kernel), List.mem_of_getElem? (i := 720) (by decide +kernel)⟩
theorem lw_p28 : lw_okq (⟨"PolynomialDeskModel", "fail", "(II)V"⟩, 27) := ⟨⟨by decide +kernel, by decide +kernel⟩, List.mem_of_getElem? (i := 576) (by decide +kernel), List.mem_of_getElem? (i := 723) (by decide +kernel), List.mem_of_getElem? (i := 724) (by decide +kernel)⟩
theorem lw_p29 : lw_okq (⟨"PolynomialDeskModel", "variable", "(I)I"⟩, 27) := ⟨⟨by decide +kernel, by decide +kernel⟩, List.mem_of_getElem? (i := 576) (by decide +kernel), List.mem_of_getElem? (i := 727) (by decide +kernel), List.mem_of_getElem? (i := 728) (by decide +kernel)⟩
theorem lw_p30 : lw_okq (⟨"PolynomialDeskModel", "factor", "()I"⟩, 27) := ⟨⟨by decide +kernel, by decide +kernel⟩, List.mem_of_getElem? (i := 576) (by decide +kernel), List.mem_of_getElem? (i := 734) (by decide +kernel), List.mem_of_getElem? (i := 735) (by decide +kernel)⟩
theorem lw_p31 : lw_okq (⟨"PolynomialDeskModel", "number", "(I)J"⟩, 27) := ⟨⟨by decide +kernel, by decide +kernel⟩, List.mem_of_getElem? (i := 576) (by decide +kernel), List.mem_of_getElem? (i := 738) (by decide +kernel), List.mem_of_getElem? (i := 739) (by decide +kernel)⟩
def lw_privs_2 : List (MethodName × Nat) := [(⟨"PolynomialDesk$Printer", "writeByte", "(C)V"⟩, 3), (⟨"PolynomialDesk$Printer", "writeTerm", "(II)V"⟩, 3), (⟨"PolynomialDesk$Printer", "writeNumber", "(I)V"⟩, 3), (⟨"PolynomialDeskModel", "prepare", "(III)V"⟩, 27), (⟨"PolynomialDeskModel", "list", "(I)V"⟩, 27), (⟨"PolynomialDeskModel", "isGreater", "(II)Z"⟩, 27), (⟨"PolynomialDeskModel", "begin", "()V"⟩, 27), (⟨"PolynomialDeskModel", "sum", "()I"⟩, 27), (⟨"PolynomialDeskModel", "clear", "(I)V"⟩, 27), (⟨"PolynomialDeskModel", "lay", "(III)V"⟩, 27), (⟨"PolynomialDeskModel", "here", "()I"⟩, 27), (⟨"PolynomialDeskModel", "readFactor", "(I)V"⟩, 27), (⟨"PolynomialDeskModel", "fail", "(II)V"⟩, 27), (⟨"PolynomialDeskModel", "variable", "(I)I"⟩, 27), (⟨"PolynomialDeskModel", "factor", "()I"⟩, 27), (⟨"PolynomialDeskModel", "number", "(I)J"⟩, 27)]
theorem lw_r2 : ∀ q ∈ lw_privs_2, lw_okq q := List.forall_mem_cons.mpr ⟨lw_p16, List.forall_mem_cons.mpr ⟨lw_p17, List.forall_mem_cons.mpr ⟨lw_p18, List.forall_mem_cons.mpr ⟨lw_p19, List.forall_mem_cons.mpr ⟨lw_p20, List.forall_mem_cons.mpr ⟨lw_p21, List.forall_mem_cons.mpr ⟨lw_p22, List.forall_mem_cons.mpr ⟨lw_p23, List.forall_mem_cons.mpr ⟨lw_p24, List.forall_mem_cons.mpr ⟨lw_p25, List.forall_mem_cons.mpr ⟨lw_p26, List.forall_mem_cons.mpr ⟨lw_p27, List.forall_mem_cons.mpr ⟨lw_p28, List.forall_mem_cons.mpr ⟨lw_p29, List.forall_mem_cons.mpr ⟨lw_p30, List.forall_mem_cons.mpr ⟨lw_p31, fun _ h => absurd h List.not_mem_nil⟩⟩⟩⟩⟩⟩⟩⟩⟩⟩⟩⟩⟩⟩⟩⟩
theorem lw_p32 : lw_okq (⟨"PolynomialDeskModel", "modulo", "(J)I"⟩, 27) := ⟨⟨by decide +kernel, by decide +kernel⟩, List.mem_of_getElem? (i := 576) (by decide +kernel), List.mem_of_getElem? (i := 744) (by decide +kernel), List.mem_of_getElem? (i := 745) (by decide +kernel)⟩
theorem lw_p33 : lw_okq (⟨"PolynomialDeskModel", "readPower", "(I)V"⟩, 27) := ⟨⟨by decide +kernel, by decide +kernel⟩, List.mem_of_getElem? (i := 576) (by decide +kernel), List.mem_of_getElem? (i := 748) (by decide +kernel), List.mem_of_getElem? (i := 749) (by decide +kernel)⟩
theorem lw_p34 : lw_okq (⟨"PolynomialDeskModel", "degreeOf", "(I)I"⟩, 27) := ⟨⟨by decide +kernel, by decide +kernel⟩, List.mem_of_getElem? (i := 576) (by decide +kernel), List.mem_of_getElem? (i := 752) (by decide +kernel), List.mem_of_getElem? (i := 753) (by decide +kernel)⟩
theorem lw_p35 : lw_okq (⟨"PolynomialDeskModel", "cell", "(II)I"⟩, 27) := ⟨⟨by decide +kernel, by decide +kernel⟩, List.mem_of_getElem? (i := 576) (by decide +kernel), List.mem_of_getElem? (i := 756) (by decide +kernel), List.mem_of_getElem? (i := 757) (by decide +kernel)⟩
theorem lw_p36 : lw_okq (⟨"PolynomialDeskModel", "times", "(III)V"⟩, 27) := ⟨⟨by decide +kernel, by decide +kernel⟩, List.mem_of_getElem? (i := 576) (by decide +kernel), List.mem_of_getElem? (i := 760) (by decide +kernel), List.mem_of_getElem? (i := 761) (by decide +kernel)⟩
theorem lw_p37 : lw_okq (⟨"PolynomialDeskModel", "copy", "(II)V"⟩, 27) := ⟨⟨by decide +kernel, by decide +kernel⟩, List.mem_of_getElem? (i := 576) (by decide +kernel), List.mem_of_getElem? (i := 764) (by decide +kernel), List.mem_of_getElem? (i := 765) (by decide +kernel)⟩
theorem lw_p38 : lw_okq (⟨"PolynomialDeskModel", "goOn", "(I)V"⟩, 27) := ⟨⟨by decide +kernel, by decide +kernel⟩, List.mem_of_getElem? (i := 576) (by decide +kernel), List.mem_of_getElem? (i := 768) (by decide +kernel), List.mem_of_getElem? (i := 769) (by decide +kernel)⟩
theorem lw_p39 : lw_okq (⟨"PolynomialDeskModel", "product", "()I"⟩, 27) := ⟨⟨by decide +kernel, by decide +kernel⟩, List.mem_of_getElem? (i := 576) (by decide +kernel), List.mem_of_getElem? (i := 772) (by decide +kernel), List.mem_of_getElem? (i := 773) (by decide +kernel)⟩
theorem lw_p40 : lw_okq (⟨"PolynomialDeskModel", "isTooHigh", "(II)Z"⟩, 27) := ⟨⟨by decide +kernel, by decide +kernel⟩, List.mem_of_getElem? (i := 576) (by decide +kernel), List.mem_of_getElem? (i := 776) (by decide +kernel), List.mem_of_getElem? (i := 777) (by decide +kernel)⟩
theorem lw_p41 : lw_okq (⟨"PolynomialDeskModel", "addTo", "(III)V"⟩, 27) := ⟨⟨by decide +kernel, by decide +kernel⟩, List.mem_of_getElem? (i := 576) (by decide +kernel), List.mem_of_getElem? (i := 780) (by decide +kernel), List.mem_of_getElem? (i := 781) (by decide +kernel)⟩
theorem lw_p42 : lw_okq (⟨"PolynomialDeskModel", "terms", "(I)I"⟩, 27) := ⟨⟨by decide +kernel, by decide +kernel⟩, List.mem_of_getElem? (i := 576) (by decide +kernel), List.mem_of_getElem? (i := 784) (by decide +kernel), List.mem_of_getElem? (i := 785) (by decide +kernel)⟩
theorem lw_p43 : lw_okq (⟨"PolynomialDeskModel", "lacks", "(IIZ)Z"⟩, 27) := ⟨⟨by decide +kernel, by decide +kernel⟩, List.mem_of_getElem? (i := 576) (by decide +kernel), List.mem_of_getElem? (i := 796) (by decide +kernel), List.mem_of_getElem? (i := 797) (by decide +kernel)⟩
theorem lw_p44 : lw_okq (⟨"PolynomialDeskModel", "power", "(II)I"⟩, 27) := ⟨⟨by decide +kernel, by decide +kernel⟩, List.mem_of_getElem? (i := 576) (by decide +kernel), List.mem_of_getElem? (i := 812) (by decide +kernel), List.mem_of_getElem? (i := 813) (by decide +kernel)⟩
theorem lw_p45 : lw_okq (⟨"PolynomialDeskModel", "placeOf", "(II)I"⟩, 27) := ⟨⟨by decide +kernel, by decide +kernel⟩, List.mem_of_getElem? (i := 576) (by decide +kernel), List.mem_of_getElem? (i := 828) (by decide +kernel), List.mem_of_getElem? (i := 829) (by decide +kernel)⟩
theorem lw_p46 : lw_okq (⟨"PolynomialDeskModel", "say", "(I)V"⟩, 27) := ⟨⟨by decide +kernel, by decide +kernel⟩, List.mem_of_getElem? (i := 576) (by decide +kernel), List.mem_of_getElem? (i := 836) (by decide +kernel), List.mem_of_getElem? (i := 837) (by decide +kernel)⟩
theorem lw_p47 : lw_okq (⟨"PolynomialDeskModel", "sayTerm", "(II)V"⟩, 27) := ⟨⟨by decide +kernel, by decide +kernel⟩, List.mem_of_getElem? (i := 576) (by decide +kernel), List.mem_of_getElem? (i := 840) (by decide +kernel), List.mem_of_getElem? (i := 841) (by decide +kernel)⟩
def lw_privs_3 : List (MethodName × Nat) := [(⟨"PolynomialDeskModel", "modulo", "(J)I"⟩, 27), (⟨"PolynomialDeskModel", "readPower", "(I)V"⟩, 27), (⟨"PolynomialDeskModel", "degreeOf", "(I)I"⟩, 27), (⟨"PolynomialDeskModel", "cell", "(II)I"⟩, 27), (⟨"PolynomialDeskModel", "times", "(III)V"⟩, 27), (⟨"PolynomialDeskModel", "copy", "(II)V"⟩, 27), (⟨"PolynomialDeskModel", "goOn", "(I)V"⟩, 27), (⟨"PolynomialDeskModel", "product", "()I"⟩, 27), (⟨"PolynomialDeskModel", "isTooHigh", "(II)Z"⟩, 27), (⟨"PolynomialDeskModel", "addTo", "(III)V"⟩, 27), (⟨"PolynomialDeskModel", "terms", "(I)I"⟩, 27), (⟨"PolynomialDeskModel", "lacks", "(IIZ)Z"⟩, 27), (⟨"PolynomialDeskModel", "power", "(II)I"⟩, 27), (⟨"PolynomialDeskModel", "placeOf", "(II)I"⟩, 27), (⟨"PolynomialDeskModel", "say", "(I)V"⟩, 27), (⟨"PolynomialDeskModel", "sayTerm", "(II)V"⟩, 27)]
theorem lw_r3 : ∀ q ∈ lw_privs_3, lw_okq q := List.forall_mem_cons.mpr ⟨lw_p32, List.forall_mem_cons.mpr ⟨lw_p33, List.forall_mem_cons.mpr ⟨lw_p34, List.forall_mem_cons.mpr ⟨lw_p35, List.forall_mem_cons.mpr ⟨lw_p36, List.forall_mem_cons.mpr ⟨lw_p37, List.forall_mem_cons.mpr ⟨lw_p38, List.forall_mem_cons.mpr ⟨lw_p39, List.forall_mem_cons.mpr ⟨lw_p40, List.forall_mem_cons.mpr ⟨lw_p41, List.forall_mem_cons.mpr ⟨lw_p42, List.forall_mem_cons.mpr ⟨lw_p43, List.forall_mem_cons.mpr ⟨lw_p44, List.forall_mem_cons.mpr ⟨lw_p45, List.forall_mem_cons.mpr ⟨lw_p46, List.forall_mem_cons.mpr ⟨lw_p47, fun _ h => absurd h List.not_mem_nil⟩⟩⟩⟩⟩⟩⟩⟩⟩⟩⟩⟩⟩⟩⟩⟩
theorem lw_p48 : lw_okq (⟨"PolynomialDeskModel", "sayNumber", "(I)V"⟩, 27) := ⟨⟨by decide +kernel, by decide +kernel⟩, List.mem_of_getElem? (i := 576) (by decide +kernel), List.mem_of_getElem? (i := 844) (by decide +kernel), List.mem_of_getElem? (i := 845) (by decide +kernel)⟩
def lw_privs_4 : List (MethodName × Nat) := [(⟨"PolynomialDeskModel", "sayNumber", "(I)V"⟩, 27)]
theorem lw_r4 : ∀ q ∈ lw_privs_4, lw_okq q := List.forall_mem_cons.mpr ⟨lw_p48, fun _ h => absurd h List.not_mem_nil⟩
def lw_privs : List (MethodName × Nat) := lw_privs_1 ++ (lw_privs_2 ++ (lw_privs_3 ++ (lw_privs_4)))
def lw_tbl : List Cond := k2_sels lw_privs ++ tables_1
theorem lw_privs_ok : ∀ q ∈ lw_privs, lw_okq q := by
  show ∀ q ∈ lw_privs_1 ++ (lw_privs_2 ++ (lw_privs_3 ++ (lw_privs_4))), lw_okq q
  exact List.forall_mem_append.mpr ⟨lw_r1, List.forall_mem_append.mpr ⟨lw_r2, List.forall_mem_append.mpr ⟨lw_r3, lw_r4⟩⟩⟩
/-! ===== BEGIN words of one list among another's, by their places ===== -/
theorem goodIn_r {big : List Cond} (ws : List Cond) (ps : List Nat) (hp : ws = ps.filterMap (fun i => big[i]?)) (h : ws.all goodWord = true) : GoodIn big ws := by
  intro w hw
  have h1 := List.all_eq_true.mp h w hw
  rw [hp] at hw
  obtain ⟨i, -, hi⟩ := List.mem_filterMap.mp hw
  have hm : w ∈ big := by first | exact List.mem_of_getElem? hi | exact List.getElem?_mem hi
  exact ⟨hm, good_of_word h1⟩
theorem goodIn_app {big a b : List Cond} (ha : GoodIn big a) (hb : GoodIn big b) : GoodIn big (a ++ b) := fun w h => (List.mem_append.mp h).elim (ha w) (hb w)
theorem goodIn_ca {big a b : List Cond} {c : Cond} (ha : GoodIn big (c :: a)) (hb : GoodIn big b) : GoodIn big (c :: (a ++ b)) := fun w h => (List.mem_cons.mp h).elim (fun e => ha w (List.mem_cons.mpr (Or.inl e))) (fun h => (List.mem_append.mp h).elim (fun h => ha w (List.mem_cons.mpr (Or.inr h))) (hb w))
theorem goodIn_sub {big ws : List Cond} (hm : ∀ w ∈ ws, w ∈ big) (h : ws.all goodWord = true) : GoodIn big ws := fun w hw => ⟨hm w hw, good_of_word (List.all_eq_true.mp h w hw)⟩
/-! ===== END ===== -/

def va_AOA (ty : FieldType) (U : State) : Prop := (Cond.arrayOver (.array ty)).before #[] U = true
theorem va_AOA.use {ty : FieldType} {A : Array Value} {U : State} (h : va_AOA ty U) : (Cond.arrayOver (.array ty)).before A U = true := h
/-! ===== BEGIN new T[n][m]: the outer array a place, the inner ones among the pooled ===== -/
/-- f, but v at every address of l -/
def vr_up {α : Type} (f : Nat → α) (l : List Nat) (v : α) : Nat → α := fun a => if a ∈ l then v else f a
theorem vr_up_in {α : Type} {f : Nat → α} {l : List Nat} {v : α} {a : Nat} (h : a ∈ l) : vr_up f l v a = v := if_pos h
theorem vr_up_ne {α : Type} {f : Nat → α} {l : List Nat} {v : α} {a : Nat} (h : a ∉ l) : vr_up f l v a = f a := if_neg h
theorem vr_rows {L l : List Nat} {f : Nat → va_E} {e : va_E} (h : ∀ a, a ∈ l → a ∉ L) : va_pl L f ++ l.map (fun a => (a, e)) = va_pl (L ++ l) (vr_up f l e) := by
  unfold va_pl
  rw [List.map_append]
  congr 1
  · apply List.map_congr_left
    intro a ha
    rw [vr_up_ne (fun q => h a q ha)]
  · apply List.map_congr_left
    intro a ha
    rw [vr_up_in ha]
theorem vr_lay {X rows : va_W} {x : Nat × va_E} {pl : va_W} {D : va_G} {cl : List vw_C} {H : Heap} (hP : va_P D cl (((X ++ pl) ++ [x]) ++ rows) H) : va_P D cl ((X ++ [x]) ++ (pl ++ rows)) H := by
  rw [List.append_assoc (X ++ pl)] at hP
  have h := va_P.swap hP
  rw [← List.append_assoc X] at h
  have h2 := va_P.swap h
  rw [List.append_assoc (X ++ [x])] at h2
  exact h2
theorem vr_layD {X rows : va_W} {x : Nat × va_E} {pl : va_W} {A : Nat → Prop} (hD : va_D A (((X ++ pl) ++ [x]) ++ rows)) : va_D A ((X ++ [x]) ++ (pl ++ rows)) := by
  rw [List.append_assoc (X ++ pl)] at hD
  have h := va_D.swap hD
  rw [← List.append_assoc X] at h
  have h2 := va_D.swap h
  rw [List.append_assoc (X ++ [x])] at h2
  exact h2
theorem vr_outer (c : ClassId) (N h0 : Nat) : ∀ i : Nat, Jvm.Free.Multi.outerC c N h0 i = arrV c N (fun j => va_rf (if j < i then some (h0 + 1 + j) else none))
  | 0 => by
    show ({ cls := c, slots := Array.replicate N .null, vm := .none } : Cell) = _
    rw [arrV_new]
    refine congrArg (arrV c N) (funext fun j => ?_)
    simp [va_rf]
  | i + 1 => by
    show (Jvm.Free.Multi.outerC c N h0 i).setSlot i (.ref (h0 + 1 + i)) = _
    rw [vr_outer c N h0 i, arrV_store]
    refine congrArg (arrV c N) (funext fun j => ?_)
    by_cases e : j = i
    · subst e
      simp [updV, va_rf]
    · by_cases h : j < i
      · simp [updV, e, h, Nat.lt_succ_of_lt h]
      · simp [updV, e, h, show ¬ j < i + 1 by omega]
section VGM
variable {p : Program} {l : Launch} {e : Env} {R : Room} {s : State} {m : MethodId} {args : Array Value} {below : List Frame} {meth : Method} {c : Code} {H : Heap} {locs : List Loc} {cells slots : Nat} {Q : State → Prop}
variable {cc : ByteArray} {pc : Nat} {ls : Array Slot} {rest : List Value} {D : va_G} {cl : List vw_C} {A : Nat → Prop} {a : Nat} {tys : List (ClassId × FieldType)} {ws : va_W} {H0 : Heap}
theorem va_mna {X : va_W} {L : List Nat} {f : Nat → va_E} {cc : ByteArray} (hexec : p.tables.exec = Jvm.exec) (hb : c.code = cc) {own : String} {index : Nat} {ty : FieldType} {cy : ClassId} (hown : s.vm.findClass own = some m.cls) (hclink : (Cond.classLink own index ("[" ++ (FieldType.array ty).toString)).before args s = true) (hover : va_AOA ty s) (harr : (Cond.arrayClass ty).before args s = true) (hcy : s.vm.findClass (FieldType.array ty).toString = some cy)
    (hK : va_K D cl tys s) (hP : va_P D cl (X ++ va_pl L f) H) (hD : va_D A (X ++ va_pl L f)) (hS : va_S A H0 H locs) (hA : ∀ q, H0.size ≤ q → A q) {n k : Int32} {N' K' : Nat} {z : vp_A} (hn : ¬ n < 0) (hk : ¬ k < 0) (hN : n.toNatClampNeg = N') (hM : k.toNatClampNeg = K')
    (hb1 : N' * 4 ≤ 536870912) (hb2 : K' * componentBytes ty ≤ 536870912) (hb3 : K' ≤ 536870912) (hdf : fits ty (defaultValue ty) = true) (hdd : (defaultValue ty).isDefault = true) (hcells : cells + (1 + N') ≤ R.cells) (hslots : slots + (N' + N' * K') ≤ R.slots) (hz : ∀ c : ClassId, Jvm.Free.Multi.innerC c K' (defaultValue ty) = vp_cell c z) (hdg : decode cc pc = .ok (.multianewarray index 2, 4))
    (kk : ∀ (q : Nat) (r : Nat → Nat) (cA : ClassId) (H1 : Heap), (∀ i j : Nat, i < N' → j < N' → r i = r j → i = j) → (∀ i : Nat, i < N' → r i ∉ L) → va_K D cl (tys ++ [(cA, .array ty)]) s →
      va_P D cl ((X ++ [(q, .inl (cA, N', .inr (.inr (.inr (.inr (fun i => if i < N' then some (r i) else none))))))]) ++ va_pl (L ++ (List.range N').map r) (vr_up f ((List.range N').map r) (.inl (cy, z)))) H1 → va_D A ((X ++ [(q, .inl (cA, N', .inr (.inr (.inr (.inr (fun i => if i < N' then some (r i) else none))))))]) ++ va_pl (L ++ (List.range N').map r) (vr_up f ((List.range N').map r) (.inl (cy, z)))) → va_S A H0 H1 locs →
      W p l e R s m args below meth c H1 locs (cells + 1 + N') (slots + N' + N' * K') Q (F0 m (pc + 4) ls (.ref q :: rest))) : W p l e R s m args below meth c H locs cells slots Q (F0 m pc ls (.int k :: .int n :: rest)) := by
  subst hN
  subst hM
  intro T hT Xs
  obtain ⟨vm₁, cA, comp, -, fA, fC, hO, -, X', step⟩ := Xs.multianewarray2F hexec hown hclink (va_AOA.use hover) harr (g := F0 m pc ls (.int k :: .int n :: rest)) rfl (by rw [hb]; exact hdg) rfl hn hk hb1 hb2 hb3 hdf hdd hcells hslots
  have ec : some cy = some comp := hcy.symm.trans fC
  cases ec
  generalize hF : Jvm.Free.Multi.fill (T.setVm vm₁) cA cy n.toNatClampNeg k.toNatClampNeg (defaultValue ty) n.toNatClampNeg = F at X' step
  have hTh : (T.setVm vm₁).heap = H := hT
  obtain ⟨f1, f2, -, -⟩ := Jvm.Free.Multi.fill_facts (T.setVm vm₁) cA cy n.toNatClampNeg k.toNatClampNeg (defaultValue ty) n.toNatClampNeg
  rw [hF, hTh] at f1 f2
  have hold : ∀ x : Nat, x < H.size → F.heap[x]? = H[x]? := fun x hx => by
    have := Jvm.Free.Multi.fill_old (T.setVm vm₁) cA cy n.toNatClampNeg k.toNatClampNeg (defaultValue ty) (a := x) (by rw [hTh]; exact hx) n.toNatClampNeg
    rw [hF, hTh] at this
    exact this
  have hrow : ∀ j : Nat, j < n.toNatClampNeg → F.heap[H.size + 1 + j]? = some (vp_cell cy z) := fun j hj => by
    have := Jvm.Free.Multi.fill_inner (T.setVm vm₁) cA cy n.toNatClampNeg k.toNatClampNeg (defaultValue ty) n.toNatClampNeg j hj
    rw [hF, hTh, hz] at this
    exact this
  have hout : Jvm.Free.Multi.outerC cA n.toNatClampNeg H.size n.toNatClampNeg = vp_cell cA (n.toNatClampNeg, .inr (.inr (.inr (.inr (fun i => if i < n.toNatClampNeg then some (H.size + 1 + i) else none))))) := by
    rw [vp_cell_q]
    exact vr_outer cA n.toNatClampNeg H.size n.toNatClampNeg
  rw [hout] at f2
  have hlt : ∀ a, a ∈ L → a < H.size := fun a ha => by
    obtain ⟨k9, hk9⟩ := va_pl_get (X := X) (f := f) ha
    exact (hP k9 _ hk9).lt
  have hnl : ∀ i : Nat, i < n.toNatClampNeg → H.size + 1 + i ∉ L := fun i _ h => by
    have := hlt _ h
    omega
  have hnm : ∀ a, a ∈ (List.range n.toNatClampNeg).map (fun i => H.size + 1 + i) → a ∉ L := fun a ha h => by
    obtain ⟨i, -, rfl⟩ := List.mem_map.mp ha
    have := hlt _ h
    omega
  have hP0 : va_P D cl (X ++ va_pl L f) F.heap := hP.kept (fun k9 x hx => hold x.1 ((hP k9 x hx).lt))
  have hP1 : va_P D cl ((X ++ va_pl L f) ++ [(H.size, .inl (cA, n.toNatClampNeg, .inr (.inr (.inr (.inr (fun i => if i < n.toNatClampNeg then some (H.size + 1 + i) else none))))))]) F.heap := hP0.app (fun k9 x hx => by
    have h0 : k9 < 1 := (List.getElem?_eq_some_iff.mp hx).1
    rw [show k9 = 0 by omega] at hx
    cases hx
    exact f2)
  have hP2 : va_P D cl (((X ++ va_pl L f) ++ [(H.size, .inl (cA, n.toNatClampNeg, .inr (.inr (.inr (.inr (fun i => if i < n.toNatClampNeg then some (H.size + 1 + i) else none))))))]) ++ ((List.range n.toNatClampNeg).map (fun i => H.size + 1 + i)).map (fun a => (a, .inl (cy, z)))) F.heap := hP1.app (fun k9 x hx => by
    obtain ⟨a, ha, rfl⟩ := List.mem_map.mp (List.mem_of_getElem? hx)
    obtain ⟨i, hi, rfl⟩ := List.mem_map.mp ha
    exact hrow i (List.mem_range.mp hi))
  have hD2 : va_D A (((X ++ va_pl L f) ++ [(H.size, .inl (cA, n.toNatClampNeg, .inr (.inr (.inr (.inr (fun i => if i < n.toNatClampNeg then some (H.size + 1 + i) else none))))))]) ++ ((List.range n.toNatClampNeg).map (fun i => H.size + 1 + i)).map (fun a => (a, .inl (cy, z)))) := by
    have hD1 := hD.push (e := .inl (cA, n.toNatClampNeg, .inr (.inr (.inr (.inr (fun i => if i < n.toNatClampNeg then some (H.size + 1 + i) else none)))))) hP rfl (hA _ hS.1)
    generalize hW1 : (X ++ va_pl L f) ++ [(H.size, .inl (cA, n.toNatClampNeg, .inr (.inr (.inr (.inr (fun i => if i < n.toNatClampNeg then some (H.size + 1 + i) else none))))))] = W1 at hD1 hP1 ⊢
    have hle : ∀ (k9 : Nat) (x : Nat × va_E), W1[k9]? = some x → x.1 ≤ H.size := fun k9 x hx => by
      rw [← hW1] at hx
      by_cases hl : k9 < (X ++ va_pl L f).length
      · rw [List.getElem?_append_left hl] at hx
        exact Nat.le_of_lt ((hP k9 x hx).lt)
      · rw [List.getElem?_append_right (by omega)] at hx
        have h0 : k9 - (X ++ va_pl L f).length < 1 := (List.getElem?_eq_some_iff.mp hx).1
        rw [show k9 - (X ++ va_pl L f).length = 0 by omega] at hx
        cases hx
        exact Nat.le_refl _
    have hr : ∀ (k9 : Nat) (x : Nat × va_E), (((List.range n.toNatClampNeg).map (fun i => H.size + 1 + i)).map (fun a => ((a, .inl (cy, z)) : Nat × va_E)))[k9]? = some x → x.1 = H.size + 1 + k9 := fun k9 x hx => by
      rw [List.getElem?_map, List.getElem?_map] at hx
      by_cases h9 : k9 < n.toNatClampNeg
      · rw [List.getElem?_range h9] at hx
        cases hx
        rfl
      · have hn0 : (List.range n.toNatClampNeg)[k9]? = none := List.getElem?_eq_none (by rw [List.length_range]; omega)
        rw [hn0] at hx
        cases hx
    refine ⟨fun i j x y hi hj hxy => ?_, fun k9 x hx => ?_⟩
    · by_cases h1 : i < W1.length <;> by_cases h2 : j < W1.length
      · rw [List.getElem?_append_left h1] at hi
        rw [List.getElem?_append_left h2] at hj
        exact hD1.1 i j x y hi hj hxy
      · rw [List.getElem?_append_left h1] at hi
        rw [List.getElem?_append_right (by omega)] at hj
        have := hle _ _ hi
        have := hr _ _ hj
        omega
      · rw [List.getElem?_append_right (by omega)] at hi
        rw [List.getElem?_append_left h2] at hj
        have := hle _ _ hj
        have := hr _ _ hi
        omega
      · rw [List.getElem?_append_right (by omega)] at hi hj
        have := hr _ _ hi
        have := hr _ _ hj
        omega
    · by_cases h1 : k9 < W1.length
      · rw [List.getElem?_append_left h1] at hx
        exact hD1.2 k9 x hx
      · rw [List.getElem?_append_right (by omega)] at hx
        have := hr _ _ hx
        exact hA _ (by have := hS.1; omega)
  have hAr : ArrOfT s cA (.array ty) := fun N9 z9 => by
    obtain ⟨-, k9, hk9, cm9, hkk9⟩ := (hO 0 0 0).1
    exact ⟨(fun q hq => by cases hq), k9, hk9, cm9, hkk9⟩
  have hK2 : va_K D cl (tys ++ [(cA, .array ty)]) s := ⟨hK.1, fun k9 x hx => by
    by_cases hl : k9 < tys.length
    · rw [List.getElem?_append_left hl] at hx
      exact hK.2 k9 x hx
    · rw [List.getElem?_append_right (by omega)] at hx
      have h0 : k9 - tys.length < 1 := (List.getElem?_eq_some_iff.mp hx).1
      rw [show k9 - tys.length = 0 by omega] at hx
      cases hx
      exact ⟨hAr, fA⟩⟩
  obtain ⟨t, a1, b1⟩ := kk H.size (fun i => H.size + 1 + i) cA F.heap (fun i j _ _ h => by have h9 : H.size + 1 + i = H.size + 1 + j := h; omega) hnl hK2 (by rw [← vr_rows hnm]; exact vr_lay hP2) (by rw [← vr_rows hnm]; exact vr_layD hD2) ⟨by rw [f1]; have := hS.1; omega, fun x h1 h2 => (hold x (Nat.lt_of_lt_of_le h1 hS.1)).trans (hS.2.1 x h1 h2), hS.2.2⟩ F rfl X'
  refine ⟨t, step t ?_, b1⟩
  have e : T.heap.size = H.size := by rw [hT]
  rw [e]
  exact a1
end VGM
/-! ===== END ===== -/

/-! ===== BEGIN exceptions that leave a method, and their catching by the caller (launches without stack traces) ===== -/
section VXA
/-! The laws vx_back, vx_callV, vx_callS, vx_callSW, vx_throw0, vx_throwS follow proofs of the library, with one case more: JvmDerived/Free/Laws.lean (Back.of_free), Shelf42/LK1.lean (callV, callS), Shelf/KitTraced.lean (throwNew0V, throwNewS). -/
/-- where a method has thrown q: the class by its name, the cell, what was written, the world -/
def vx_T (XC : String → State → State → Prop) (st : State) (q : Addr) (t : State) (mc ms : Nat) (free : Addr → Prop) : Prop :=
  ∃ (E : String) (ce : Cell) (L : List Loc), XC E st t ∧ t.heap[q]? = some ce ∧ ce.vm = .none ∧ st.vm.findClass E = some ce.cls ∧ st.WarmedH t.vm ∧ st.sameButNew ({ t with vm := st.vm } : State) L mc ms ∧ ∀ z ∈ L, free z.base
def vx_Q (Qc : Array Value → State → Outcome → State → Prop) (XC : String → State → State → Prop) (mc ms : Nat) (free : Addr → Prop) : Array Value → State → Outcome → State → Prop := fun a st o t =>
  (Qc a st o t ∧ ∃ L, FrameEnd st o t L mc ms ∧ ∀ q ∈ L, free q.base) ∨ ∃ q, o = .threw q ∧ vx_T XC st q t mc ms free
/-- a callee that returns or throws -/
def vx_Met (l : Launch) (y : MethodName) (ws : List Cond) (rm : Room) (Pc : Array Value → State → Prop) (Qc : Array Value → State → Outcome → State → Prop) (XC : String → State → State → Prop) (mc ms : Nat) (free : Addr → Prop) : Prop :=
  MetFree l y (headSpec ws rm) Pc (fun _ _ _ _ _ => True) (vx_Q Qc XC mc ms free)
def vx_Post (XC : String → State → State → Prop) (mc ms : Nat) (free : Addr → Prop) : Pt → Array Value → Addr → Pt → Prop := fun A a q B =>
  ∃ (g : JFrame) (mk : MethodId) (t : State) (L : List Loc) (E : String) (ce : Cell), B.U.heap = t.heap ∧ B.U.vm = t.vm ∧ XC E (A.U.calling g mk a) t ∧ t.heap[q]? = some ce ∧ ce.vm = .none ∧ A.U.vm.findClass E = some ce.cls ∧ B.locs = A.locs ++ L ∧ (∀ z ∈ L, free z.base) ∧ B.cells = A.cells + mc ∧ B.slots = A.slots + ms
def vx_Back (l : Launch) (R : Room) (p : Program) (e : Env) (below : List Frame) (s : State) (sargs : Array Value) (y : MethodName) (len W9 : Nat)
    (Pre : Pt → Array Value → Prop) (Post : Pt → Array Value → Option Value → Pt → Prop) (PostX : Pt → Array Value → Addr → Pt → Prop) : Prop :=
  ∀ (m : MethodId) (meth : Method) (c : Code) (A : Pt) (g : JFrame) (ig : Instr) (mk : MethodId) (a : Array Value),
    Stand p l e R s m sargs below meth c A.U A.locs A.cells A.slots → g.method = m → g.locals.size = c.maxLocals → decode c.code g.pc = .ok (ig, len) →
    2 * g.monitorRoom + (g.stack.map fun v => v.category).sum ≤ W9 → A.U.methodNamed? y = some mk → Pre A a →
    (∃ (v : Option Value) (B : Pt), Stand p l e R s m sargs below meth c B.U B.locs B.cells B.slots ∧ Post A a v B ∧
      Steps p.tables e below (doInvoke e (A.U.setTop g) [] mk a).1 (B.U.setTop { g with pc := g.pc + len, stack := v.toList ++ g.stack })) ∨
    (∃ (q : Addr) (B : Pt), Stand p l e R s m sargs below meth c B.U B.locs B.cells B.slots ∧ PostX A a q B ∧
      Steps p.tables e below (doInvoke e (A.U.setTop g) [] mk a).1 ((B.U.setTop g).pushFrame (.throwing q)))
section Payer
variable {l : Launch} {R : Room} {p : Program} {e : Env} {below : List Frame} {s : State} {sargs : Array Value} {y : MethodName} {len W9 : Nat}
theorem vx_back {ws : List Cond} {rm : Room} {Pc : Array Value → State → Prop} {Qc : Array Value → State → Outcome → State → Prop} {XC : String → State → State → Prop} {mc ms : Nat} {free : Addr → Prop} {bytes : ByteArray} {maxL : Nat} {ret : Option FieldType}
    (hM : vx_Met l y ws rm Pc Qc XC mc ms free) (hblind : FrameBlind Pc) (hrc : rm.cells = mc) (hrs : rm.slots = ms)
    (hframes : rm.frames + 1 ≤ R.frames) (hlocals : W9 + (maxL + 11) + rm.locals ≤ R.locals)
    (hws : ∀ w ∈ ws, ∀ a' U, s.WarmedH U.vm → w.before a' U = true) (hcode : Cond.code y bytes maxL ret ∈ ws) (hinit : ∀ a' U, s.WarmedH U.vm → (Cond.initialized y.cls).before a' U = true) :
    vx_Back l R p e below s sargs y len W9 (PreOf R mc ms Pc) (PostOf Qc mc ms free) (vx_Post XC mc ms free) := by
  intro m meth c A g ig mk a X hg hsize hdg hW hn hp
  have h1 : (headSpec ws rm).pre.before a A.U = true := atoms_intro fun w hw => hws w hw _ _ X.warmed
  have h2 : (Cond.code y bytes maxL ret).before a A.U = true := hws _ hcode _ _ X.warmed
  have h3 : (Cond.initialized y.cls).before a A.U = true := hinit _ _ X.warmed
  have h4 : A.cells + (headSpec ws rm).room.cells ≤ R.cells := by rw [show (headSpec ws rm).room.cells = mc from hrc]; exact hp.1
  have h5 : A.slots + (headSpec ws rm).room.slots ≤ R.slots := by rw [show (headSpec ws rm).room.slots = ms from hrs]; exact hp.2.1
  have hPc : Pc a (A.U.calling g mk a) := hblind _ _ _ _ hp.2.2
  obtain ⟨U, Ls, c0, s0⟩ := A
  dsimp only [Pt.U, Pt.locs, Pt.cells, Pt.slots] at h1 h2 h3 h4 h5 X hn hPc ⊢
  obtain ⟨methY, cY, hmY, hcY, -, hlY, -, -, -, -⟩ := Cond.code_spec hn h2
  obtain ⟨kY, hkY, -⟩ := className_of_methodNamed hn
  have hinitY : kY.init = .initialized := Cond.initialized_spec (findClass_of_methodNamed hn) hkY h3
  have h : At U g.method c below := by rw [hg]; exact X.here
  have hlocals9 : W9 + (maxL + 11) + (headSpec ws rm).room.locals ≤ R.locals := hlocals
  have happ : (headSpec ws rm).appliesLoose y e.platform (U.calling g mk a) = true :=
    Spec.appliesLoose_calling (g := g) h hdg hn hkY hinitY
      (X.room_calling (g := g) (R' := (headSpec ws rm).room) hsize hmY hcY hframes (by rw [hlY]; omega) h4 h5) h1
  obtain ⟨mid, hmid⟩ := h.above
  have hfr : (U.setTop g).frames = (.java g :: mid) ++ below := by rw [State.frames_setTop' g h.top, hmid]; rfl
  obtain ⟨o, s₂, hsteps, -, hend, hq⟩ := Steps.callFree hM p X.admits X.cas X.clock (acts := []) hfr happ hPc trivial
  have hq' : vx_Q Qc XC mc ms free a (U.calling g mk a) o s₂ := hq
  rw [State.frames_setTop' g h.top] at hend
  obtain ⟨g₀, hg0⟩ := Option.isSome_iff_exists.mp h.top
  obtain ⟨r, hr⟩ := State.topJava?_eq_some.mp hg0
  have hr' : (({ U with heap := s₂.heap, slotsUsed := s₂.slotsUsed } : State).setVm s₂.vm).frames = .java g₀ :: r := hr
  rcases hq' with ⟨hqc, L, hfe, hL⟩ | ⟨q, rfl, E, ce, L, hx, hce, hcv, hcl, hW₂, hsm, hL⟩
  · obtain ⟨⟨v, rfl⟩, hW₂, e2, q2, q3, q4, q5, q6⟩ := id hfe
    have e3 : s₂ = ({ (U.calling g mk a).setFrames s₂.frames with heap := s₂.heap, slotsUsed := s₂.slotsUsed } : State).setVm s₂.vm := by
      have : s₂ = ({ s₂ with vm := (U.calling g mk a).vm } : State).setVm s₂.vm := rfl
      rw [e2] at this
      exact this
    obtain ⟨c₂, i₂, len₂, hc₂, hd₂, hf₂⟩ := hend
    have hW' : U.WarmedH s₂.vm := hW₂
    have hcc : c₂ = c := by
      have h1 : s₂.code? g.method = U.code? g.method := by
        rw [State.code?_eq, State.code?_eq, hW'.alike.method?]
      exact Option.some.inj (hc₂.symm.trans (h1.trans h.code))
    subst hcc
    have hlen : len₂ = len := by rw [hdg] at hd₂; cases hd₂; rfl
    subst hlen
    have hs₂ : s₂ = (({ U with heap := s₂.heap, slotsUsed := s₂.slotsUsed } : State).setVm s₂.vm).setTop { g with pc := g.pc + len₂, stack := v.toList ++ g.stack } := by
      refine e3.trans ?_
      rw [hf₂, State.calling_eq h.top, State.setFrames_setFrames, State.setTop_of_frames _ hr', hr]
      rfl
    have hsame : U.sameButNew ({ U with heap := s₂.heap, slotsUsed := s₂.slotsUsed } : State) L mc ms := by
      refine ⟨?_, q2, q3, q4, q5, q6⟩
      obtain ⟨t, ht, -⟩ := State.frames_cons hr
      show ({ U with heap := s₂.heap, slotsUsed := s₂.slotsUsed } : State) = { U.setFrames U.frames with heap := s₂.heap, slotsUsed := s₂.slotsUsed }
      rw [State.setFrames_self ht]
    subst hg
    refine Or.inl ⟨v, ⟨(({ U with heap := s₂.heap, slotsUsed := s₂.slotsUsed } : State).setVm s₂.vm), Ls ++ L, c0 + mc, s0 + ms⟩,
      ⟨X.admits, X.cas, X.clock, X.frames, X.room, X.hears, X.method, X.code, (X.here.setHeapUsed s₂.heap s₂.slotsUsed).setVm hW'.alike, X.tail, State.WarmedH.trans X.warmed hW', X.limits, X.bytes, X.same.trans (hsame.setVm s.vm)⟩,
      ⟨g, mk, s₂, L, rfl, rfl, hqc, rfl, hL, rfl, rfl⟩, ?_⟩
    show Steps p.tables e below _ ((({ U with heap := s₂.heap, slotsUsed := s₂.slotsUsed } : State).setVm s₂.vm).setTop { g with pc := g.pc + len₂, stack := v.toList ++ g.stack })
    rw [← hs₂]
    exact hsteps
  · obtain ⟨e2, q2, q3, q4, q5, q6⟩ := id hsm
    have e3 : s₂ = ({ (U.calling g mk a).setFrames s₂.frames with heap := s₂.heap, slotsUsed := s₂.slotsUsed } : State).setVm s₂.vm := by
      have : s₂ = ({ s₂ with vm := (U.calling g mk a).vm } : State).setVm s₂.vm := rfl
      rw [e2] at this
      exact this
    have hf₂ : s₂.frames = .throwing q :: .java g :: U.frames.tail := hend
    have hW' : U.WarmedH s₂.vm := hW₂
    have hs₂ : s₂ = ((({ U with heap := s₂.heap, slotsUsed := s₂.slotsUsed } : State).setVm s₂.vm).setTop g).pushFrame (.throwing q) := by
      refine e3.trans ?_
      rw [hf₂, State.calling_eq h.top, State.setFrames_setFrames, State.pushFrame, State.frames_setTop _ hr', State.setTop_of_frames _ hr', State.setFrames_setFrames, hr]
      rfl
    have hsame : U.sameButNew ({ U with heap := s₂.heap, slotsUsed := s₂.slotsUsed } : State) L mc ms := by
      refine ⟨?_, q2, q3, q4, q5, q6⟩
      obtain ⟨t, ht, -⟩ := State.frames_cons hr
      show ({ U with heap := s₂.heap, slotsUsed := s₂.slotsUsed } : State) = { U.setFrames U.frames with heap := s₂.heap, slotsUsed := s₂.slotsUsed }
      rw [State.setFrames_self ht]
    subst hg
    refine Or.inr ⟨q, ⟨(({ U with heap := s₂.heap, slotsUsed := s₂.slotsUsed } : State).setVm s₂.vm), Ls ++ L, c0 + mc, s0 + ms⟩,
      ⟨X.admits, X.cas, X.clock, X.frames, X.room, X.hears, X.method, X.code, (X.here.setHeapUsed s₂.heap s₂.slotsUsed).setVm hW'.alike, X.tail, State.WarmedH.trans X.warmed hW', X.limits, X.bytes, X.same.trans (hsame.setVm s.vm)⟩,
      ⟨g, mk, s₂, L, E, ce, rfl, rfl, hx, hce, hcv, hcl, rfl, hL, rfl, rfl⟩, ?_⟩
    show Steps p.tables e below _ (((({ U with heap := s₂.heap, slotsUsed := s₂.slotsUsed } : State).setVm s₂.vm).setTop g).pushFrame (.throwing q))
    rw [← hs₂]
    exact hsteps
end Payer
section Calls
variable {p : Program} {l : Launch} {e : Env} {R : Room} {s : State} {m : MethodId} {args : Array Value} {below : List Frame} {meth : Method} {c : Code} {T : State} {locs : List Loc} {cells slots : Nat}
theorem vx_callV (X : Stand p l e R s m args below meth c T locs cells slots) (hexec : p.tables.exec = Jvm.exec) {own C : String} {index : Nat} {y : MethodName} {bytes : ByteArray} {maxL : Nat} {ret : Option FieldType}
    (hown : s.vm.findClass own = some m.cls) (hlink : (Cond.methodLink own index y).before args s = true) (hinst : (Cond.instanceMethod y).before args s = true) (hsel : (Cond.selects C y y).before args s = true)
    (hcode : (Cond.code y bytes maxL ret).before args s = true) (hy : y.cls ≠ "java/lang/invoke/MethodHandle" ∧ y.cls ≠ "java/lang/invoke/VarHandle")
    {W9 : Nat} {Pre : Pt → Array Value → Prop} {Post : Pt → Array Value → Option Value → Pt → Prop} {PostX : Pt → Array Value → Addr → Pt → Prop} (hK : vx_Back l R p e below s args y 3 W9 Pre Post PostX)
    {b : Addr} {cellB : Cell} (hcell : T.heap[b]? = some cellB) (hobj : cellB.vm.isStatics = false) (hcls : s.vm.findClass C = some cellB.cls)
    {g : JFrame} (hg : g.method = m) (hsize : g.locals.size = c.maxLocals) {argsL rest : List Value} (hlen : ∀ sig, parseMethodDescriptor y.desc = some sig → argsL.length = sig.parameters.length)
    (hstack : g.stack = argsL.reverse ++ .ref b :: rest) (hW : 2 * g.monitorRoom + (rest.map fun v => v.category).sum ≤ W9) (hdg : decode c.code g.pc = .ok (.invokevirtual index, 3))
    (hpre : ∀ vm₁, s.WarmedH vm₁ → Pre ⟨T.setVm vm₁, locs, cells, slots⟩ (Value.ref b :: argsL).toArray) :
    (∃ (v : Option Value) (vm₁ : Vm) (B : Pt), s.WarmedH vm₁ ∧ Stand p l e R s m args below meth c B.U B.locs B.cells B.slots ∧ Post ⟨T.setVm vm₁, locs, cells, slots⟩ (Value.ref b :: argsL).toArray v B ∧
      ∀ target, Steps p.tables e below (B.U.setTop { g with pc := g.pc + 3, stack := v.toList ++ rest }) target → Steps p.tables e below (T.setTop g) target) ∨
    (∃ (q : Addr) (vm₁ : Vm) (B : Pt), s.WarmedH vm₁ ∧ Stand p l e R s m args below meth c B.U B.locs B.cells B.slots ∧ PostX ⟨T.setVm vm₁, locs, cells, slots⟩ (Value.ref b :: argsL).toArray q B ∧
      Steps p.tables e below (T.setTop g) ((B.U.setTop { g with stack := rest }).pushFrame (.throwing q))) := by
  obtain ⟨mk, methM, hnamed, hmethM, hstM, habM⟩ := Cond.instanceMethod_spec hinst
  obtain ⟨methM', cM, hmethM', -, -, -, -, -, -, hsigM⟩ := Cond.code_spec hnamed hcode
  cases hmethM.symm.trans hmethM'
  obtain ⟨c2, r2, m2, q1, q2, q3, q4, kP, hkP, hkPi⟩ := Cond.selects_spec hsel
  cases hcls.symm.trans q1
  cases (State.methodFound?_of_named hnamed hy).symm.trans q2
  cases hnamed.symm.trans q3
  have hselP : selectMethod e.platform s.vm cellB.cls mk = .method mk := by rw [Launch.admits_selectMethod X.admits]; exact q4
  obtain ⟨vm₁, X₁, hstep₁⟩ := X.invokevirtual hexec hown hlink hnamed hmethM hstM hkP hkPi hy (a := b) (cell := cellB) hcell
    (fun z h => by rw [h] at hobj; cases hobj) hselP hmethM habM hkP hkPi (g := g) hg (argsL := argsL) (rest := rest) (hlen _ hsigM) hstack hdg
  rcases hK m meth c ⟨T.setVm vm₁, locs, cells, slots⟩ { g with stack := rest } (.invokevirtual index) mk (Value.ref b :: argsL).toArray X₁ hg hsize hdg hW (X₁.named hnamed) (hpre vm₁ X₁.warmed) with ⟨v, B, X', hpost, hsteps⟩ | ⟨q, B, X', hpost, hsteps⟩
  · exact Or.inl ⟨v, vm₁, B, X₁.warmed, X', hpost, fun target h => hstep₁ _ fun acts => by rw [doInvoke_state]; exact hsteps.trans h⟩
  · exact Or.inr ⟨q, vm₁, B, X₁.warmed, X', hpost, hstep₁ _ fun acts => by rw [doInvoke_state]; exact hsteps⟩
theorem vx_callS (X : Stand p l e R s m args below meth c T locs cells slots) (hexec : p.tables.exec = Jvm.exec) {own : String} {index : Nat} {y : MethodName} {bytes : ByteArray} {maxL : Nat} {ret : Option FieldType}
    (hown : s.vm.findClass own = some m.cls) (hlink : (Cond.methodLink own index y).before args s = true) (hstat : (Cond.static y).before args s = true) (hinit : (Cond.initialized y.cls).before args s = true)
    (hcode : (Cond.code y bytes maxL ret).before args s = true) (hy : y.cls ≠ "java/lang/invoke/MethodHandle" ∧ y.cls ≠ "java/lang/invoke/VarHandle")
    {W9 : Nat} {Pre : Pt → Array Value → Prop} {Post : Pt → Array Value → Option Value → Pt → Prop} {PostX : Pt → Array Value → Addr → Pt → Prop} (hK : vx_Back l R p e below s args y 3 W9 Pre Post PostX)
    {g : JFrame} (hg : g.method = m) (hsize : g.locals.size = c.maxLocals) {argsL rest : List Value} (hlen : ∀ sig, parseMethodDescriptor y.desc = some sig → argsL.length = sig.parameters.length)
    (hstack : g.stack = argsL.reverse ++ rest) (hW : 2 * g.monitorRoom + (rest.map fun v => v.category).sum ≤ W9) (hdg : decode c.code g.pc = .ok (.invokestatic index, 3))
    (hpre : ∀ vm₁, s.WarmedH vm₁ → Pre ⟨T.setVm vm₁, locs, cells, slots⟩ argsL.toArray) :
    (∃ (v : Option Value) (vm₁ : Vm) (B : Pt), s.WarmedH vm₁ ∧ Stand p l e R s m args below meth c B.U B.locs B.cells B.slots ∧ Post ⟨T.setVm vm₁, locs, cells, slots⟩ argsL.toArray v B ∧
      ∀ target, Steps p.tables e below (B.U.setTop { g with pc := g.pc + 3, stack := v.toList ++ rest }) target → Steps p.tables e below (T.setTop g) target) ∨
    (∃ (q : Addr) (vm₁ : Vm) (B : Pt), s.WarmedH vm₁ ∧ Stand p l e R s m args below meth c B.U B.locs B.cells B.slots ∧ PostX ⟨T.setVm vm₁, locs, cells, slots⟩ argsL.toArray q B ∧
      Steps p.tables e below (T.setTop g) ((B.U.setTop { g with stack := rest }).pushFrame (.throwing q))) := by
  obtain ⟨mk, hnamed⟩ := Cond.code_named hcode
  obtain ⟨methM, cM, hmethM, -, -, -, -, -, -, hsigM⟩ := Cond.code_spec hnamed hcode
  have hstatic : methM.isStatic = true := Cond.static_spec hnamed hmethM hstat
  obtain ⟨kP, hkP, -⟩ := className_of_methodNamed hnamed
  have hinitP : kP.init = .initialized := Cond.initialized_spec (findClass_of_methodNamed hnamed) hkP hinit
  obtain ⟨vm₁, X₁, hstep₁⟩ := X.invokestatic hexec hown hlink hnamed hmethM hstatic hkP hinitP hy (g := g) hg (argsL := argsL) (rest := rest) (hlen _ hsigM) hstack hdg
  rcases hK m meth c ⟨T.setVm vm₁, locs, cells, slots⟩ { g with stack := rest } (.invokestatic index) mk argsL.toArray X₁ hg hsize hdg hW (X₁.named hnamed) (hpre vm₁ X₁.warmed) with ⟨v, B, X', hpost, hsteps⟩ | ⟨q, B, X', hpost, hsteps⟩
  · exact Or.inl ⟨v, vm₁, B, X₁.warmed, X', hpost, fun target h => hstep₁ _ fun acts => by rw [doInvoke_state]; exact hsteps.trans h⟩
  · exact Or.inr ⟨q, vm₁, B, X₁.warmed, X', hpost, hstep₁ _ fun acts => by rw [doInvoke_state]; exact hsteps⟩
end Calls
theorem vx_cls {s : State} {T : State} {vm₁ : Vm} {E : String} {k : ClassId} (hW : s.WarmedH vm₁) (h : (T.setVm vm₁).vm.findClass E = some k) : s.vm.findClass E = some k := by
  have h1 : vm₁.findClass E = some k := h
  rw [hW.alike.findClass] at h1
  exact h1
/-- the method's frame g, with q thrown over it -/
def vx_W (p : Program) (l : Launch) (e : Env) (R : Room) (s : State) (m : MethodId) (args : Array Value) (below : List Frame) (meth : Method) (c : Code) (H : Heap) (locs : List Loc) (cells slots : Nat) (Q : State → Prop) (g : JFrame) (q : Addr) : Prop :=
  ∀ T : State, T.heap = H → Stand p l e R s m args below meth c T locs cells slots → ∃ t, Steps p.tables e below ((T.setTop g).pushFrame (.throwing q)) t ∧ Q t
def vx_Run (p : Program) (l : Launch) (e : Env) (R : Room) (s : State) (m : MethodId) (args : Array Value) (below : List Frame) (meth : Method) (c : Code) (H : Heap) (locs : List Loc) (cells slots mc ms : Nat) (g : JFrame) (rest : List Value) (Qa : State → Outcome → State → Prop) (XC : String → State → State → Prop) (free : Addr → Prop) : Prop :=
  ∀ T : State, T.heap = H → Stand p l e R s m args below meth c T locs cells slots →
    (∃ (v : Option Value) (st₀ t T' : State) (L : List Loc), st₀.heap = H ∧ Stand p l e R s m args below meth c T' (locs ++ L) (cells + mc) (slots + ms) ∧ (∀ q ∈ L, free q.base) ∧ T'.heap = t.heap ∧ T'.vm = t.vm ∧ Qa st₀ (.returned v) t ∧
      Goes p e below T g T' { g with pc := g.pc + 3, stack := v.toList ++ rest }) ∨
    (∃ (q : Addr) (st₀ t T' : State) (L : List Loc) (E : String) (ce : Cell), st₀.heap = H ∧ Stand p l e R s m args below meth c T' (locs ++ L) (cells + mc) (slots + ms) ∧ (∀ z ∈ L, free z.base) ∧ T'.heap = t.heap ∧ T'.vm = t.vm ∧ XC E st₀ t ∧ t.heap[q]? = some ce ∧ ce.vm = .none ∧ s.vm.findClass E = some ce.cls ∧
      Steps p.tables e below (T.setTop g) ((T'.setTop { g with stack := rest }).pushFrame (.throwing q)))
def vx_X {S : Type} (px : S → Prop) (B : String → S → State → Prop) (A : Nat → Prop) : String → State → State → Prop := fun E st t => ∃ u : S, px u ∧ B E u t ∧ va_F A st t
section Runs
variable {p : Program} {l : Launch} {e : Env} {R : Room} {s : State} {m : MethodId} {args : Array Value} {below : List Frame} {meth : Method} {c : Code} {H : Heap} {locs : List Loc} {cells slots : Nat}
variable {y : MethodName} {bytes cc : ByteArray} {maxL nL mc ms n index : Nat} {ret : Option FieldType} {ws : List Cond} {rm : Room} {Pc : Array Value → State → Prop} {Qc : Array Value → State → Outcome → State → Prop} {XC : String → State → State → Prop} {free : Addr → Prop} {Ts : List Cond} {own C : String} {b : Addr} {As rest : List Value} {g : JFrame}
theorem vx_callBack (cb : CallB R s args own index y bytes maxL ret ws rm mc ms n) (hM : vx_Met l y ws rm Pc Qc XC mc ms free) (hbl : FrameBlind Pc) : vx_Back l R p e below s args y 3 8 (PreOf R mc ms Pc) (PostOf Qc mc ms free) (vx_Post XC mc ms free) := by
  obtain ⟨hrc, hrs, hfr, hlo, hws, hcw, -, hini, -⟩ := cb
  exact vx_back (bytes := bytes) (maxL := maxL) (ret := ret) hM hbl hrc hrs hfr hlo hws hcw (fun a' U hW => word_at hW (Or.inl (by first | rfl | simp [Cond.onTables, Cond.keeps, Cond.steady])) hini)
theorem vx_runV (S : CallFix p m c cc nL s args Ts own) (hM : vx_Met l y ws rm Pc Qc XC mc ms free) (cw : CallW R s args own C index y bytes maxL ret ws rm mc ms n) (hp : PreV s H C b Pc As)
    (hg : g.method = m) (hn : As.length = n) (hsize : g.locals.size = nL) (hstack : g.stack = As.reverse ++ .ref b :: rest) (hW : 2 * g.monitorRoom + (rest.map fun v => v.category).sum ≤ 8) (hdg : decode cc g.pc = .ok (.invokevirtual index, 3)) (hf : cells + mc ≤ R.cells ∧ slots + ms ≤ R.slots) :
    vx_Run p l e R s m args below meth c H locs cells slots mc ms g rest (Qc (Value.ref b :: As).toArray) XC free := by
  have hK : vx_Back l R p e below s args y 3 8 (PreOf R mc ms Pc) (PostOf Qc mc ms free) (vx_Post XC mc ms free) := vx_callBack cw.1 hM hp.1
  obtain ⟨⟨-, -, -, -, -, -, hcode, -, hy, hlen, hl⟩, hin, hse⟩ := cw
  obtain ⟨hx, hb, hml, ho, -⟩ := S
  obtain ⟨-, ⟨cellB, hcB, hoB, hclB⟩, hPc⟩ := hp
  intro T hT X
  rcases vx_callV X hx (C := C) (bytes := bytes) (maxL := maxL) (ret := ret) ho hl hin hse hcode hy hK (by rw [hT]; exact hcB) hoB hclB hg (hsize.trans hml.symm) (argsL := As) (rest := rest) (fun sig h => hn.trans (hlen sig h)) hstack hW (by rw [hb]; exact hdg)
    (fun vm₁ hW₁ => ⟨hf.1, hf.2, hPc (T.setVm vm₁) hT hW₁⟩) with ⟨v, vm₁, ⟨U', l2, c2, s2⟩, hW₁, X', ⟨g', mk, t, L, e1, e2, hq, h1, hL, h2, h3⟩, st⟩ | ⟨q, vm₁, ⟨U', l2, c2, s2⟩, hW₁, X', ⟨g', mk, t, L, E, ce, e1, e2, hq, hce, hcv, hcl, h1, hL, h2, h3⟩, st⟩
  · dsimp only [Pt.U, Pt.locs, Pt.cells, Pt.slots] at X' e1 e2 h1 h2 h3 st
    subst h1; subst h2; subst h3
    exact Or.inl ⟨v, (T.setVm vm₁).calling g' mk (Value.ref b :: As).toArray, t, U', L, hT, X', hL, e1, e2, hq, st⟩
  · dsimp only [Pt.U, Pt.locs, Pt.cells, Pt.slots] at X' e1 e2 h1 h2 h3 st hcl
    subst h1; subst h2; subst h3
    exact Or.inr ⟨q, (T.setVm vm₁).calling g' mk (Value.ref b :: As).toArray, t, U', L, E, ce, hT, X', hL, e1, e2, hq, hce, hcv, vx_cls hW₁ hcl, st⟩
theorem vx_runS (S : CallFix p m c cc nL s args Ts own) (hM : vx_Met l y ws rm Pc Qc XC mc ms free) (cw : CallB R s args own index y bytes maxL ret ws rm mc ms n ∧ (Cond.static y).before args s = true) (hp : PreS s H Pc As)
    (hg : g.method = m) (hn : As.length = n) (hsize : g.locals.size = nL) (hstack : g.stack = As.reverse ++ rest) (hW : 2 * g.monitorRoom + (rest.map fun v => v.category).sum ≤ 8) (hdg : decode cc g.pc = .ok (.invokestatic index, 3)) (hf : cells + mc ≤ R.cells ∧ slots + ms ≤ R.slots) :
    vx_Run p l e R s m args below meth c H locs cells slots mc ms g rest (Qc As.toArray) XC free := by
  have hK : vx_Back l R p e below s args y 3 8 (PreOf R mc ms Pc) (PostOf Qc mc ms free) (vx_Post XC mc ms free) := vx_callBack cw.1 hM hp.1
  obtain ⟨⟨-, -, -, -, -, -, hcode, hini, hy, hlen, hl⟩, hstt⟩ := cw
  obtain ⟨hx, hb, hml, ho, -⟩ := S
  intro T hT X
  rcases vx_callS X hx (bytes := bytes) (maxL := maxL) (ret := ret) ho hl hstt hini hcode hy hK hg (hsize.trans hml.symm) (argsL := As) (rest := rest) (fun sig h => hn.trans (hlen sig h)) hstack hW (by rw [hb]; exact hdg)
    (fun vm₁ hW₁ => ⟨hf.1, hf.2, hp.2 (T.setVm vm₁) hT hW₁⟩) with ⟨v, vm₁, ⟨U', l2, c2, s2⟩, hW₁, X', ⟨g', mk, t, L, e1, e2, hq, h1, hL, h2, h3⟩, st⟩ | ⟨q, vm₁, ⟨U', l2, c2, s2⟩, hW₁, X', ⟨g', mk, t, L, E, ce, e1, e2, hq, hce, hcv, hcl, h1, hL, h2, h3⟩, st⟩
  · dsimp only [Pt.U, Pt.locs, Pt.cells, Pt.slots] at X' e1 e2 h1 h2 h3 st
    subst h1; subst h2; subst h3
    exact Or.inl ⟨v, (T.setVm vm₁).calling g' mk As.toArray, t, U', L, hT, X', hL, e1, e2, hq, st⟩
  · dsimp only [Pt.U, Pt.locs, Pt.cells, Pt.slots] at X' e1 e2 h1 h2 h3 st hcl
    subst h1; subst h2; subst h3
    exact Or.inr ⟨q, (T.setVm vm₁).calling g' mk As.toArray, t, U', L, E, ce, hT, X', hL, e1, e2, hq, hce, hcv, vx_cls hW₁ hcl, st⟩
end Runs
section Rows
variable {p : Program} {l : Launch} {e : Env} {R : Room} {s : State} {m : MethodId} {args : Array Value} {below : List Frame} {meth : Method} {c : Code} {H : Heap} {locs : List Loc} {cells slots : Nat} {Q : State → Prop}
variable {mc ms : Nat} {free : Addr → Prop} {A0 A1 : Nat → Prop} {H0 : Heap} {a : Array Value} {pc : Nat} {ls : Array Slot} {st0 rest : List Value}
theorem vx_keep {st₀ t T' : State} {L : List Loc} (h0 : st₀.heap = H) (e1 : T'.heap = t.heap) (hS : va_S A0 H0 H locs) (hA : ∀ q, q < H.size → A1 q → A0 q) (hf : ∀ q, free q → A0 q) (hL : ∀ q ∈ L, free q.base) (hF : va_F A1 st₀ t) :
    H.size ≤ T'.heap.size ∧ (∀ q : Nat, q < H.size → ¬ A1 q → T'.heap[q]? = H[q]?) ∧ va_S A0 H0 T'.heap (locs ++ L) := by
  obtain ⟨hz, hk⟩ := hF
  rw [h0] at hz hk
  exact ⟨by rw [e1]; exact hz, fun q h1 h2 => by rw [e1]; exact hk q h1 h2,
    ⟨Nat.le_trans hS.1 (by rw [e1]; exact hz), fun q h1 h2 => by rw [e1, hk q (Nat.lt_of_lt_of_le h1 hS.1) (fun z => h2 (hA q (Nat.lt_of_lt_of_le h1 hS.1) z))]; exact hS.2.1 q h1 h2, fun q hq => by
      rcases List.mem_append.mp hq with h | h
      · exact hS.2.2 q h
      · exact hf _ (hL q h)⟩⟩
theorem vx_calli {S SX : Type} {post : Int32 → S → Prop} {px : SX → Prop} {B : S → State → Prop} {BX : String → SX → State → Prop} {AX : Nat → Prop} (hr : vx_Run p l e R s m args below meth c H locs cells slots mc ms (F0 m pc ls st0) rest (va_Qi post B A1 a) (vx_X px BX AX) free) (hS : va_S A0 H0 H locs) (hA : ∀ q, q < H.size → A1 q → A0 q) (hf : ∀ q, free q → A0 q) (hAX : ∀ q, q < H.size → AX q → A0 q)
    (kx : ∀ (E : String) (ce : Cell) (q9 : Addr) (u : SX) (t : State) (H1 : Heap) (locs1 : List Loc), t.heap = H1 → s.vm.Alike t.vm → px u → BX E u t → H.size ≤ H1.size → (∀ q : Nat, q < H.size → ¬ AX q → H1[q]? = H[q]?) → va_S A0 H0 H1 locs1 → H1[q9]? = some ce → ce.vm = .none → s.vm.findClass E = some ce.cls → vx_W p l e R s m args below meth c H1 locs1 (cells + mc) (slots + ms) Q (F0 m pc ls rest) q9)
    (kk : ∀ (r : Int32) (u : S) (t : State) (H1 : Heap) (locs1 : List Loc), t.heap = H1 → s.vm.Alike t.vm → post r u → B u t → H.size ≤ H1.size → (∀ q : Nat, q < H.size → ¬ A1 q → H1[q]? = H[q]?) → va_S A0 H0 H1 locs1 → W p l e R s m args below meth c H1 locs1 (cells + mc) (slots + ms) Q (F0 m (pc + 3) ls (.int r :: rest))) : W p l e R s m args below meth c H locs cells slots Q (F0 m pc ls st0) := by
  intro T hT X
  rcases hr T hT X with ⟨v, st₀, t, T', L, h0, X', hL, e1, e2, ⟨⟨r, u, hv, hp, hb⟩, hF⟩, st⟩ | ⟨q, st₀, t, T', L, E, ce, h0, X', hL, e1, e2, ⟨u, hp, hb, hF⟩, hce, hcv, hcl, st⟩
  · cases hv
    obtain ⟨k1, k2, k3⟩ := vx_keep h0 e1 hS hA hf hL hF
    obtain ⟨t2, a1, b1⟩ := kk r u t T'.heap (locs ++ L) e1.symm (by rw [← e2]; exact X'.warmed.alike) hp hb k1 k2 k3 T' rfl X'
    exact ⟨t2, st t2 a1, b1⟩
  · obtain ⟨k1, k2, k3⟩ := vx_keep h0 e1 hS hAX hf hL hF
    obtain ⟨t2, a1, b1⟩ := kx E ce q u t T'.heap (locs ++ L) e1.symm (by rw [← e2]; exact X'.warmed.alike) hp hb k1 k2 k3 (by rw [e1]; exact hce) hcv hcl T' rfl X'
    exact ⟨t2, st.trans a1, b1⟩
theorem vx_calll {S SX : Type} {post : Int64 → S → Prop} {px : SX → Prop} {B : S → State → Prop} {BX : String → SX → State → Prop} {AX : Nat → Prop} (hr : vx_Run p l e R s m args below meth c H locs cells slots mc ms (F0 m pc ls st0) rest (va_Ql post B A1 a) (vx_X px BX AX) free) (hS : va_S A0 H0 H locs) (hA : ∀ q, q < H.size → A1 q → A0 q) (hf : ∀ q, free q → A0 q) (hAX : ∀ q, q < H.size → AX q → A0 q)
    (kx : ∀ (E : String) (ce : Cell) (q9 : Addr) (u : SX) (t : State) (H1 : Heap) (locs1 : List Loc), t.heap = H1 → s.vm.Alike t.vm → px u → BX E u t → H.size ≤ H1.size → (∀ q : Nat, q < H.size → ¬ AX q → H1[q]? = H[q]?) → va_S A0 H0 H1 locs1 → H1[q9]? = some ce → ce.vm = .none → s.vm.findClass E = some ce.cls → vx_W p l e R s m args below meth c H1 locs1 (cells + mc) (slots + ms) Q (F0 m pc ls rest) q9)
    (kk : ∀ (r : Int64) (u : S) (t : State) (H1 : Heap) (locs1 : List Loc), t.heap = H1 → s.vm.Alike t.vm → post r u → B u t → H.size ≤ H1.size → (∀ q : Nat, q < H.size → ¬ A1 q → H1[q]? = H[q]?) → va_S A0 H0 H1 locs1 → W p l e R s m args below meth c H1 locs1 (cells + mc) (slots + ms) Q (F0 m (pc + 3) ls (.long r :: rest))) : W p l e R s m args below meth c H locs cells slots Q (F0 m pc ls st0) := by
  intro T hT X
  rcases hr T hT X with ⟨v, st₀, t, T', L, h0, X', hL, e1, e2, ⟨⟨r, u, hv, hp, hb⟩, hF⟩, st⟩ | ⟨q, st₀, t, T', L, E, ce, h0, X', hL, e1, e2, ⟨u, hp, hb, hF⟩, hce, hcv, hcl, st⟩
  · cases hv
    obtain ⟨k1, k2, k3⟩ := vx_keep h0 e1 hS hA hf hL hF
    obtain ⟨t2, a1, b1⟩ := kk r u t T'.heap (locs ++ L) e1.symm (by rw [← e2]; exact X'.warmed.alike) hp hb k1 k2 k3 T' rfl X'
    exact ⟨t2, st t2 a1, b1⟩
  · obtain ⟨k1, k2, k3⟩ := vx_keep h0 e1 hS hAX hf hL hF
    obtain ⟨t2, a1, b1⟩ := kx E ce q u t T'.heap (locs ++ L) e1.symm (by rw [← e2]; exact X'.warmed.alike) hp hb k1 k2 k3 (by rw [e1]; exact hce) hcv hcl T' rfl X'
    exact ⟨t2, st.trans a1, b1⟩
theorem vx_callf {S SX : Type} {post : UInt32 → S → Prop} {px : SX → Prop} {B : S → State → Prop} {BX : String → SX → State → Prop} {AX : Nat → Prop} (hr : vx_Run p l e R s m args below meth c H locs cells slots mc ms (F0 m pc ls st0) rest (va_Qf post B A1 a) (vx_X px BX AX) free) (hS : va_S A0 H0 H locs) (hA : ∀ q, q < H.size → A1 q → A0 q) (hf : ∀ q, free q → A0 q) (hAX : ∀ q, q < H.size → AX q → A0 q)
    (kx : ∀ (E : String) (ce : Cell) (q9 : Addr) (u : SX) (t : State) (H1 : Heap) (locs1 : List Loc), t.heap = H1 → s.vm.Alike t.vm → px u → BX E u t → H.size ≤ H1.size → (∀ q : Nat, q < H.size → ¬ AX q → H1[q]? = H[q]?) → va_S A0 H0 H1 locs1 → H1[q9]? = some ce → ce.vm = .none → s.vm.findClass E = some ce.cls → vx_W p l e R s m args below meth c H1 locs1 (cells + mc) (slots + ms) Q (F0 m pc ls rest) q9)
    (kk : ∀ (r : UInt32) (u : S) (t : State) (H1 : Heap) (locs1 : List Loc), t.heap = H1 → s.vm.Alike t.vm → post r u → B u t → H.size ≤ H1.size → (∀ q : Nat, q < H.size → ¬ A1 q → H1[q]? = H[q]?) → va_S A0 H0 H1 locs1 → W p l e R s m args below meth c H1 locs1 (cells + mc) (slots + ms) Q (F0 m (pc + 3) ls (.float r :: rest))) : W p l e R s m args below meth c H locs cells slots Q (F0 m pc ls st0) := by
  intro T hT X
  rcases hr T hT X with ⟨v, st₀, t, T', L, h0, X', hL, e1, e2, ⟨⟨r, u, hv, hp, hb⟩, hF⟩, st⟩ | ⟨q, st₀, t, T', L, E, ce, h0, X', hL, e1, e2, ⟨u, hp, hb, hF⟩, hce, hcv, hcl, st⟩
  · cases hv
    obtain ⟨k1, k2, k3⟩ := vx_keep h0 e1 hS hA hf hL hF
    obtain ⟨t2, a1, b1⟩ := kk r u t T'.heap (locs ++ L) e1.symm (by rw [← e2]; exact X'.warmed.alike) hp hb k1 k2 k3 T' rfl X'
    exact ⟨t2, st t2 a1, b1⟩
  · obtain ⟨k1, k2, k3⟩ := vx_keep h0 e1 hS hAX hf hL hF
    obtain ⟨t2, a1, b1⟩ := kx E ce q u t T'.heap (locs ++ L) e1.symm (by rw [← e2]; exact X'.warmed.alike) hp hb k1 k2 k3 (by rw [e1]; exact hce) hcv hcl T' rfl X'
    exact ⟨t2, st.trans a1, b1⟩
theorem vx_calld {S SX : Type} {post : UInt64 → S → Prop} {px : SX → Prop} {B : S → State → Prop} {BX : String → SX → State → Prop} {AX : Nat → Prop} (hr : vx_Run p l e R s m args below meth c H locs cells slots mc ms (F0 m pc ls st0) rest (va_Qd post B A1 a) (vx_X px BX AX) free) (hS : va_S A0 H0 H locs) (hA : ∀ q, q < H.size → A1 q → A0 q) (hf : ∀ q, free q → A0 q) (hAX : ∀ q, q < H.size → AX q → A0 q)
    (kx : ∀ (E : String) (ce : Cell) (q9 : Addr) (u : SX) (t : State) (H1 : Heap) (locs1 : List Loc), t.heap = H1 → s.vm.Alike t.vm → px u → BX E u t → H.size ≤ H1.size → (∀ q : Nat, q < H.size → ¬ AX q → H1[q]? = H[q]?) → va_S A0 H0 H1 locs1 → H1[q9]? = some ce → ce.vm = .none → s.vm.findClass E = some ce.cls → vx_W p l e R s m args below meth c H1 locs1 (cells + mc) (slots + ms) Q (F0 m pc ls rest) q9)
    (kk : ∀ (r : UInt64) (u : S) (t : State) (H1 : Heap) (locs1 : List Loc), t.heap = H1 → s.vm.Alike t.vm → post r u → B u t → H.size ≤ H1.size → (∀ q : Nat, q < H.size → ¬ A1 q → H1[q]? = H[q]?) → va_S A0 H0 H1 locs1 → W p l e R s m args below meth c H1 locs1 (cells + mc) (slots + ms) Q (F0 m (pc + 3) ls (.double r :: rest))) : W p l e R s m args below meth c H locs cells slots Q (F0 m pc ls st0) := by
  intro T hT X
  rcases hr T hT X with ⟨v, st₀, t, T', L, h0, X', hL, e1, e2, ⟨⟨r, u, hv, hp, hb⟩, hF⟩, st⟩ | ⟨q, st₀, t, T', L, E, ce, h0, X', hL, e1, e2, ⟨u, hp, hb, hF⟩, hce, hcv, hcl, st⟩
  · cases hv
    obtain ⟨k1, k2, k3⟩ := vx_keep h0 e1 hS hA hf hL hF
    obtain ⟨t2, a1, b1⟩ := kk r u t T'.heap (locs ++ L) e1.symm (by rw [← e2]; exact X'.warmed.alike) hp hb k1 k2 k3 T' rfl X'
    exact ⟨t2, st t2 a1, b1⟩
  · obtain ⟨k1, k2, k3⟩ := vx_keep h0 e1 hS hAX hf hL hF
    obtain ⟨t2, a1, b1⟩ := kx E ce q u t T'.heap (locs ++ L) e1.symm (by rw [← e2]; exact X'.warmed.alike) hp hb k1 k2 k3 (by rw [e1]; exact hce) hcv hcl T' rfl X'
    exact ⟨t2, st.trans a1, b1⟩
theorem vx_callv {S SX : Type} {post : S → Prop} {px : SX → Prop} {B : S → State → Prop} {BX : String → SX → State → Prop} {AX : Nat → Prop} (hr : vx_Run p l e R s m args below meth c H locs cells slots mc ms (F0 m pc ls st0) rest (va_Qv post B A1 a) (vx_X px BX AX) free) (hS : va_S A0 H0 H locs) (hA : ∀ q, q < H.size → A1 q → A0 q) (hf : ∀ q, free q → A0 q) (hAX : ∀ q, q < H.size → AX q → A0 q)
    (kx : ∀ (E : String) (ce : Cell) (q9 : Addr) (u : SX) (t : State) (H1 : Heap) (locs1 : List Loc), t.heap = H1 → s.vm.Alike t.vm → px u → BX E u t → H.size ≤ H1.size → (∀ q : Nat, q < H.size → ¬ AX q → H1[q]? = H[q]?) → va_S A0 H0 H1 locs1 → H1[q9]? = some ce → ce.vm = .none → s.vm.findClass E = some ce.cls → vx_W p l e R s m args below meth c H1 locs1 (cells + mc) (slots + ms) Q (F0 m pc ls rest) q9)
    (kk : ∀ (u : S) (t : State) (H1 : Heap) (locs1 : List Loc), t.heap = H1 → s.vm.Alike t.vm → post u → B u t → H.size ≤ H1.size → (∀ q : Nat, q < H.size → ¬ A1 q → H1[q]? = H[q]?) → va_S A0 H0 H1 locs1 → W p l e R s m args below meth c H1 locs1 (cells + mc) (slots + ms) Q (F0 m (pc + 3) ls (rest))) : W p l e R s m args below meth c H locs cells slots Q (F0 m pc ls st0) := by
  intro T hT X
  rcases hr T hT X with ⟨v, st₀, t, T', L, h0, X', hL, e1, e2, ⟨⟨u, hv, hp, hb⟩, hF⟩, st⟩ | ⟨q, st₀, t, T', L, E, ce, h0, X', hL, e1, e2, ⟨u, hp, hb, hF⟩, hce, hcv, hcl, st⟩
  · cases hv
    obtain ⟨k1, k2, k3⟩ := vx_keep h0 e1 hS hA hf hL hF
    obtain ⟨t2, a1, b1⟩ := kk u t T'.heap (locs ++ L) e1.symm (by rw [← e2]; exact X'.warmed.alike) hp hb k1 k2 k3 T' rfl X'
    exact ⟨t2, st t2 a1, b1⟩
  · obtain ⟨k1, k2, k3⟩ := vx_keep h0 e1 hS hAX hf hL hF
    obtain ⟨t2, a1, b1⟩ := kx E ce q u t T'.heap (locs ++ L) e1.symm (by rw [← e2]; exact X'.warmed.alike) hp hb k1 k2 k3 (by rw [e1]; exact hce) hcv hcl T' rfl X'
    exact ⟨t2, st.trans a1, b1⟩
/-- caught by the row x of this method's table; the rows ahead don't take it -/
theorem vx_catch {own name : String} {E : String} {ce : Cell} {q : Addr} (hown : s.vm.findClass own = some m.cls) (pre : List ExceptionTableEntry) (x : ExceptionTableEntry) (suf : List ExceptionTableEntry) (hsplit : c.exceptionTable.toList = pre ++ x :: suf)
    (hpass : ∀ z ∈ pre, covers z pc = false ∨ (z.catchType ≠ 0 ∧ ∃ nm : String, (Cond.classLink own z.catchType nm).before args s = true ∧ va_Nc E nm s)) (hx : covers x pc = true) (h0 : x.catchType ≠ 0)
    (hlink : (Cond.classLink own x.catchType name).before args s = true) (hcast : (Cond.castable E name).before args s = true) (hcell : H[q]? = some ce) (hv : ce.vm = .none) (hcl : s.vm.findClass E = some ce.cls)
    (kk : W p l e R s m args below meth c H locs cells slots Q (F0 m x.handlerPc ls [.ref q])) : vx_W p l e R s m args below meth c H locs cells slots Q (F0 m pc ls rest) q := by
  intro T hT X
  have hpl : e.platform.magicAccessors = ({} : Platform).magicAccessors := by rw [X.admits.platform]
  obtain ⟨c3, c4, hc3, hc4, hasg⟩ := Cond.castable_spec hcast
  cases Option.some.inj (hc3.symm.trans hcl)
  obtain ⟨c5, hc5, hcl5⟩ := Cond.classLink_spec hown hlink e.platform hpl
  cases Option.some.inj (hc4.symm.trans hc5)
  obtain ⟨vm', X', st⟩ := X.thenCaughtThrough q (g := F0 m pc ls rest) rfl (Steps.refl _) (by rw [hT]; exact hcell) (by rw [hv]; rfl) (by obtain ⟨k9, h9, -⟩ := Vm.findClass_spec hcl; exact ⟨k9, h9⟩) pre x suf hsplit
    (fun z hz => by
      rcases hpass z hz with h | ⟨hz0, nm, hl1, hn1⟩
      · exact Or.inl h
      · obtain ⟨c6, hc6, hcl6⟩ := Cond.classLink_spec hown hl1 e.platform hpl
        obtain ⟨a8, b8, h1, h2, h3⟩ := hn1
        cases Option.some.inj (h1.symm.trans hcl)
        cases Option.some.inj (h2.symm.trans hc6)
        exact Or.inr ⟨hz0, _, hcl6, h3⟩) hx (Or.inr ⟨h0, c4, hcl5, hasg⟩)
  obtain ⟨t, a1, b1⟩ := kk (T.setVm vm') hT X'
  exact ⟨t, st.trans a1, b1⟩
end Rows
section Ends
variable {p : Program} {l : Launch} {e : Env} {R : Room} {s : State} {m : MethodId} {args : Array Value} {below : List Frame} {meth : Method} {c : Code} {H : Heap} {locs : List Loc} {cells slots : Nat} {Q : State → Prop}
variable {mc ms : Nat} {free : Addr → Prop} {A0 A1 : Nat → Prop} {H0 : Heap} {a : Array Value} {ls : Array Slot} {st0 rest : List Value}
variable {Qc : Array Value → State → Outcome → State → Prop} {XC : String → State → State → Prop}
/-- what a body that may throw owes at its end -/
def vx_MQ (below : List Frame) (Qc : Array Value → State → Outcome → State → Prop) (XC : String → State → State → Prop) (a : Array Value) (s : State) (mc ms : Nat) (free : Addr → Prop) : State → Prop := fun t =>
  ∃ o, t.status = .running ∧ Ended t below o ∧ vx_Q Qc XC mc ms free a s o t
theorem vx_ret {g : JFrame} {mc ms : Nat} (k : W p l e R s m args below meth c H locs cells slots (MQ below Qc args s mc ms free) g) : W p l e R s m args below meth c H locs cells slots (vx_MQ below Qc XC args s mc ms free) g := by
  intro T hT X
  obtain ⟨t, a1, o, b1, b2, b3, b4⟩ := k T hT X
  exact ⟨t, a1, o, b1, b2, Or.inl ⟨b3, b4⟩⟩
/-- not caught here: it goes on to the caller -/
theorem vx_widen {g : JFrame} {q : Addr} {k n : Nat} (h1 : cells ≤ k) (h2 : slots ≤ n) (kk : vx_W p l e R s m args below meth c H locs k n Q g q) : vx_W p l e R s m args below meth c H locs cells slots Q g q := fun T hT X => kk T hT (stand_widen X h1 h2)
theorem vx_out {pc : Nat} {E : String} {ce : Cell} {q : Addr} {mc ms : Nat} (hout : ∀ x ∈ c.exceptionTable.toList, covers x pc = false) (hlocks : meth.locks = false) (hcell : H[q]? = some ce) (hv : ce.vm = .none) (hcl : s.vm.findClass E = some ce.cls)
    (hx : ∀ t : State, t.heap = H → s.vm.Alike t.vm → XC E s t) (hf : ∀ z ∈ locs, free z.base) (hc : cells ≤ mc) (hs : slots ≤ ms) :
    vx_W p l e R s m args below meth c H locs cells slots (vx_MQ below Qc XC args s mc ms free) (F0 m pc ls rest) q := by
  intro T hT X
  obtain ⟨st1, hrun, hend, hW, hsm⟩ := X.leaveThrown q (g := F0 m pc ls rest) rfl rfl rfl hout hlocks
  have hcell9 : (T.setFrames (.throwing q :: below)).heap[q]? = some ce := by
    show T.heap[q]? = some ce
    rw [hT]; exact hcell
  exact ⟨_, st1, .threw q, hrun, hend, Or.inr ⟨q, rfl, E, ce, locs, hx _ hT hW.alike, hcell9, hv, hcl, hW, hsm.mono hc hs, hf⟩⟩
theorem vx_frame {U : State} {k n : Nat} (h : s.sameButNew ({ U with vm := s.vm } : State) locs k n) : s.heap.size ≤ U.heap.size ∧ ∀ q : Nat, q < s.heap.size → (∀ z ∈ locs, z.base ≠ q) → U.heap[q]? = s.heap[q]? := by
  obtain ⟨-, h2, -, -, -, h6⟩ := h
  refine ⟨h2, fun q hq hz => ?_⟩
  obtain ⟨c9, e1, e2, e3, e4⟩ := h6 q _ (Array.getElem?_eq_getElem hq)
  have hs : c9.slots = (s.heap[q]).slots := Array.ext_getElem? fun i => e4 i fun hm => hz _ hm rfl
  have h9 : c9 = s.heap[q] := by
    rw [hs] at e2
    exact e2
  have e5 : U.heap[q]? = some c9 := e1
  rw [e5, h9, Array.getElem?_eq_getElem hq]
/-- the words of a throw but the four that speak of the heap -/
def vx_no (w : Cond) : Bool := decide (w ≠ .isRef (.static Bundle.tN "UNASSIGNED_STACK" Bundle.steD)) && decide (w ≠ .isRef (.static Bundle.tN "SUPPRESSED_SENTINEL" Bundle.listD)) && decide (w ≠ .laysStatic Bundle.tN "UNASSIGNED_STACK" Bundle.steD) && decide (w ≠ .laysStatic Bundle.tN "SUPPRESSED_SENTINEL" Bundle.listD)
def vx_at0 (own : String) (ic : Nat) (X : String) (names : List String) : List Cond := (Bundle.ownAtoms0 own ic X names).filter vx_no
def vx_atS (own : String) (ic : Nat) (X : String) (names : List String) : List Cond := (Bundle.ownAtoms own ic X names).filter vx_no
/-- a word that the tables alone decide, or a good one -/
def vx_ot (w : Cond) : Bool := w.onTables || goodWord w
theorem vx_ot_at {args a' : Array Value} {s U : State} {w : Cond} (hW : s.WarmedH U.vm) (hvm : s.vm = U.vm) (hg : vx_ot w = true) (h : w.before args s = true) : w.before a' U = true := by
  simp only [vx_ot, Bool.or_eq_true] at hg
  rcases hg with hg | hg
  · exact va_tabs hg hvm h
  · exact word_at hW (good_of_word hg) h
/-- a list's words: the good ones out of the method's own list, the others by premises of their own -/
theorem vx_hat {args : Array Value} {s : State} {L B : List Cond} (h1 : ∀ w ∈ L.filter goodWord, w.before args s = true) (h2 : ∀ w ∈ L.filter (fun w => !goodWord w), w ∈ B) (h3 : ∀ w ∈ B, w.before args s = true) : ∀ w ∈ L, w.before args s = true := by
  intro w hw
  by_cases g : goodWord w = true
  · exact h1 w (List.mem_filter.mpr ⟨hw, g⟩)
  · refine h3 w (h2 w (List.mem_filter.mpr ⟨hw, ?_⟩))
    show (!goodWord w) = true
    cases hgw : goodWord w
    · rfl
    · exact absurd hgw g
theorem vx_c {args : Array Value} {s : State} {w : Cond} {B : List Cond} (h : w.before args s = true) (t : ∀ w ∈ B, w.before args s = true) : ∀ w' ∈ w :: B, w'.before args s = true := fun w' h' => (List.mem_cons.mp h').elim (fun e => by rw [e]; exact h) (t w')
theorem vx_n {args : Array Value} {s : State} : ∀ w ∈ ([] : List Cond), w.before args s = true := fun _ h => nomatch h
theorem vx_own {args : Array Value} {s : State} {L : List Cond} (h1 : ∀ w ∈ L.filter vx_no, w.before args s = true)
    (hU : (Cond.isRef (.static Bundle.tN "UNASSIGNED_STACK" Bundle.steD)).before args s = true) (hN : (Cond.isRef (.static Bundle.tN "SUPPRESSED_SENTINEL" Bundle.listD)).before args s = true)
    (lU : (Cond.laysStatic Bundle.tN "UNASSIGNED_STACK" Bundle.steD).before args s = true) (lN : (Cond.laysStatic Bundle.tN "SUPPRESSED_SENTINEL" Bundle.listD).before args s = true) : ∀ w ∈ L, w.before args s = true := by
  intro w hw
  by_cases e1 : w = .isRef (.static Bundle.tN "UNASSIGNED_STACK" Bundle.steD)
  · rw [e1]; exact hU
  · by_cases e2 : w = .isRef (.static Bundle.tN "SUPPRESSED_SENTINEL" Bundle.listD)
    · rw [e2]; exact hN
    · by_cases e3 : w = .laysStatic Bundle.tN "UNASSIGNED_STACK" Bundle.steD
      · rw [e3]; exact lU
      · by_cases e4 : w = .laysStatic Bundle.tN "SUPPRESSED_SENTINEL" Bundle.listD
        · rw [e4]; exact lN
        · exact h1 w (List.mem_filter.mpr ⟨hw, by unfold vx_no; rw [decide_eq_true e1, decide_eq_true e2, decide_eq_true e3, decide_eq_true e4]; rfl⟩)
/-- where a static field lies, its class's statics cell in H -/
def vx_L (C n d : String) (A : Nat → Prop) (U : State) (H : Heap) : Prop := ∃ (c : ClassId) (k : Class) (i : Nat) (f : Field) (a : Nat) (cell : Cell), U.vm.findClass C = some c ∧ U.fieldFound? C n d = some (c, k, i, f) ∧ f.isStatic = true ∧ k.statics = some a ∧ H[a]? = some cell ∧ cell.vm.isStatics = true ∧ cell.cls = c ∧ f.slot < cell.slots.size ∧ k.staticTypes[f.slot]? = some f.type ∧ ¬ A a
theorem vx_L.moved {C n d : String} {A : Nat → Prop} {u U : State} {H : Heap} (hvm : u.vm.Alike U.vm) (h : vx_L C n d A u H) : vx_L C n d A U H := by
  obtain ⟨c, k, i, f, a, cell, h1, h2, h3, h4, h5, h6, h7, h8, h9, h10⟩ := h
  obtain ⟨k', hi', he⟩ := State.fieldFound?_setVm hvm h2
  exact ⟨c, k', i, f, a, cell, by rw [hvm.findClass]; exact h1, hi', h3, by rw [he]; exact h4, h5, h6, h7, h8, by rw [he]; exact h9, h10⟩
theorem vx_L.kept {C n d : String} {A : Nat → Prop} {U : State} {H H1 : Heap} (h : vx_L C n d A U H) (hq : ∀ a : Nat, a < H.size → ¬ A a → H1[a]? = H[a]?) : vx_L C n d A U H1 := by
  obtain ⟨c, k, i, f, a, cell, h1, h2, h3, h4, h5, h6, h7, h8, h9, h10⟩ := h
  exact ⟨c, k, i, f, a, cell, h1, h2, h3, h4, by rw [hq a (Array.getElem?_eq_some_iff.mp h5).1 h10]; exact h5, h6, h7, h8, h9, h10⟩
theorem vx_L.narrow {C n d : String} {A B : Nat → Prop} {U : State} {H : Heap} (h : vx_L C n d A U H) (hAB : ∀ q, B q → A q) : vx_L C n d B U H := by
  obtain ⟨c, k, i, f, a, cell, h1, h2, h3, h4, h5, h6, h7, h8, h9, h10⟩ := h
  exact ⟨c, k, i, f, a, cell, h1, h2, h3, h4, h5, h6, h7, h8, h9, fun z => h10 (hAB _ z)⟩
theorem vx_L.word {C n d : String} {A : Nat → Prop} {s : State} {args : Array Value} (h : vx_L C n d A s s.heap) : (Cond.laysStatic C n d).before args s = true := by
  obtain ⟨c, k, i, f, a, cell, h1, h2, h3, h4, h5, h6, h7, h8, h9, -⟩ := h
  show (Cond.laysStatic C n d).holds args s none s [] = true
  exact Cond.laysStatic_of h1 h2 h3 h4 h5 h6 h7 h8 h9
/-- .. and what it holds: null or some reference -/
def vx_Zq (C n d : String) (A : Nat → Prop) (U : State) (H : Heap) : Prop := va_Zq C n d A U H ∧ vx_L C n d A U H
theorem vx_Zq.moved {C n d : String} {A : Nat → Prop} {u U : State} {H : Heap} (hvm : u.vm.Alike U.vm) (h : vx_Zq C n d A u H) : vx_Zq C n d A U H := ⟨va_Zq.moved hvm h.1, vx_L.moved hvm h.2⟩
theorem vx_Zq.kept {C n d : String} {A : Nat → Prop} {U : State} {H H1 : Heap} (h : vx_Zq C n d A U H) (hq : ∀ a : Nat, a < H.size → ¬ A a → H1[a]? = H[a]?) : vx_Zq C n d A U H1 := ⟨va_Zq.kept h.1 hq, vx_L.kept h.2 hq⟩
theorem vx_Zq.narrow {C n d : String} {A B : Nat → Prop} {U : State} {H : Heap} (h : vx_Zq C n d A U H) (hAB : ∀ q, B q → A q) : vx_Zq C n d B U H := ⟨va_Zq.narrow h.1 hAB, vx_L.narrow h.2 hAB⟩
theorem vx_Zqof {args : Array Value} {s : State} {C n d : String} {A : Nat → Prop} (hl : (Cond.laysStatic C n d).before args s = true) (hini : (Cond.initialized C).before args s = true) (h : (Cond.isRef (.static C n d)).before args s = true) (hA : ∀ a : Nat, a < s.heap.size → ¬ A a) : vx_Zq C n d A s s.heap := by
  refine ⟨va_Zqof hl hini h hA, ?_⟩
  obtain ⟨c, k, i, f, a, cell, h1, h2, h3, h4, h5, h6, h7, h8, h9⟩ := Cond.laysStatic_spec hl
  exact ⟨c, k, i, f, a, cell, h1, h2, h3, h4, h5, h6, h7, h8, h9, hA a (Array.getElem?_eq_some_iff.mp h5).1⟩
theorem vx_isRef {C n d : String} {v : Value} {A : Nat → Prop} {s : State} {args : Array Value} (h : va_Z C n d v A s s.heap) (hv : v.isRef = true) : (Cond.isRef (.static C n d)).before args s = true := by
  obtain ⟨cf, kf, fi, f, a, cell, h1, h2, h3, h4, h5, h6, h7, -⟩ := h
  have he : (Term.static C n d).eval args s none [] s = some v := by
    simp [Term.eval, State.fieldNamed?, h1, h2, h4, h5, h6, h7]
  simp only [Cond.before, Cond.holds, Cond.value, he]
  cases v <;> simp_all [Value.isRef]
theorem vx_isRefq {C n d : String} {A : Nat → Prop} {s : State} {args : Array Value} (h : va_Zq C n d A s s.heap) : (Cond.isRef (.static C n d)).before args s = true := by
  rcases h with h | ⟨t, h⟩
  · exact vx_isRef h rfl
  · exact vx_isRef h rfl
/-- the same frame, seen from here: as if the method were called anew in this heap -/
theorem vx_rebase {T : State} (X : Stand p l e R s m args below meth c T locs cells slots) {R' : Room} (hf : R'.frames ≤ R.frames) (hl : R'.locals ≤ R.locals) (hc : cells + R'.cells ≤ R.cells) (hs : slots + R'.slots ≤ R.slots) :
    Stand p l e R' ((T.setVm s.vm).setFrames (.invoking m args :: below)) m args below meth c T [] 0 0 := by
  have htop : (T.setVm s.vm).topJava?.isSome := X.here.top
  have hF : ((T.setVm s.vm).setFrames (.invoking m args :: below)).frames = .invoking m args :: below := State.frames_setFrames _ (State.cur_lt_of_top htop)
  obtain ⟨g₀, hg0⟩ := Option.isSome_iff_exists.mp htop
  obtain ⟨r, hr⟩ := State.topJava?_eq_some.mp hg0
  have hl9 : e.platform.stackLimits (T.setVm s.vm).me = e.platform.stackLimits s.me := X.limits
  have hb9 : (T.setVm s.vm).me.stackBytes = s.me.stackBytes := X.bytes
  refine ⟨X.admits, X.cas, X.clock, hF, ?_, X.hears, X.method, X.code, X.here, X.tail, X.warmed, ?_, ?_, ?_⟩
  · have h := X.room
    have hU : ((T.setVm s.vm).setFrames (.invoking m args :: below)).localsInUse = s.localsInUse := by
      rw [State.localsInUse_invoking hF (meth := meth) (c := c) X.method X.code, State.localsInUse_invoking X.frames X.method X.code]
    simp only [State.hasRoom, Bool.and_eq_true, decide_eq_true_eq] at h ⊢
    obtain ⟨⟨⟨⟨h1, h2, h3, h4, h5, h6⟩, h7⟩, h8⟩, h9⟩ := h
    rw [X.frames, List.length_cons] at h2 h3
    have q1 := X.heapSize
    have q2 := X.used
    simp only [hF, hU, List.length_cons, State.stackLimits_setFrames, State.stackBytes_setFrames, hl9, hb9]
    refine ⟨⟨⟨⟨by omega, by omega, by omega, by omega, by omega, h6⟩, ?_⟩, ?_⟩, X.book⟩
    · show T.heap.size + R'.cells ≤ e.platform.maxCells
      omega
    · show T.slotsUsed + R'.slots ≤ e.platform.maxSlots
      omega
  · rw [State.stackLimits_setFrames]; rfl
  · rw [State.stackBytes_setFrames]; rfl
  · refine ⟨?_, Nat.le_refl _, Nat.le_refl _, ?_, ?_, fun a c9 h9 => ⟨c9, h9, rfl, rfl, fun _ _ => rfl⟩⟩
    · obtain ⟨t, ht, -⟩ := State.frames_cons hr
      show T.setVm s.vm = { ((T.setVm s.vm).setFrames (.invoking m args :: below)).setFrames (T.setVm s.vm).frames with heap := T.heap, slotsUsed := T.slotsUsed }
      rw [State.setFrames_setFrames, State.setFrames_self ht]
      rfl
    · show T.slotsUsed = T.slotsUsed + ((T.heap.toList.drop T.heap.size).map (·.slots.size)).sum
      rw [List.drop_eq_nil_of_le (Nat.le_of_eq Array.length_toList)]
      rfl
    · show ((T.heap.toList.drop T.heap.size).map (·.slots.size)).sum ≤ 0
      rw [List.drop_eq_nil_of_le (Nat.le_of_eq Array.length_toList)]
      exact Nat.le_refl _
/-- 'throw new E()': new; dup; invokespecial; athrow -/
theorem vx_throw0 {cc : ByteArray} {pc : Nat} (hexec : p.tables.exec = Jvm.exec) (hb : c.code = cc) (hl : l.stackTraces = false) {own cls : String} {names : List String} {ik ic mc ms : Nat} {A : Nat → Prop}
    (hown : s.vm.findClass own = some m.cls) (hcls : Bundle.fit cls = true) (hnames : ∀ n ∈ names, Bundle.fit n = true)
    (hk : (Cond.classLink own ik cls).before args s = true) (hini : (Cond.initialized cls).before args s = true) (hat : ∀ w ∈ vx_at0 own ic cls names, w.before args s = true)
    (hgood : ∀ w ∈ Cond.classLink own ik cls :: Cond.initialized cls :: vx_at0 own ic cls names, vx_ot w = true)
    (hU : vx_Zq Bundle.tN "UNASSIGNED_STACK" Bundle.steD A s s.heap) (hN : vx_Zq Bundle.tN "SUPPRESSED_SENTINEL" Bundle.listD A s s.heap) (hS : va_S A s.heap H locs) (hsize : ls.size = c.maxLocals)
    (d0 : decode cc pc = .ok (.new ik, 3)) (d3 : decode cc (pc + 3) = .ok (.dup, 1)) (d4 : decode cc (pc + 4) = .ok (.invokespecial ic, 3)) (d7 : decode cc (pc + 7) = .ok (.athrow, 1))
    (hout : ∀ x ∈ c.exceptionTable.toList, covers x (pc + 7) = false)
    (hRframes : names.length + 3 < R.frames) (hRlocals : (rest.map fun v => v.category).sum + (13 * (names.length + 1) + 42) ≤ R.locals) (hRcells : cells + 1 ≤ R.cells) (hRslots : slots + 6 ≤ R.slots) (hlocks : meth.locks = false)
    (hx : ∀ t : State, s.vm.Alike t.vm → H.size ≤ t.heap.size → (∀ q : Nat, q < H.size → t.heap[q]? = H[q]?) → XC cls s t)
    (hf : ∀ z ∈ locs, free z.base) (hc : cells + 1 ≤ mc) (hs : slots + 6 ≤ ms) :
    W p l e R s m args below meth c H locs cells slots (vx_MQ below Qc XC args s mc ms free) (F0 m pc ls rest) := by
  intro T hT X
  have htr : e.platform.stackTraces = false := (show e.platform.stackTraces = l.stackTraces by rw [X.admits.platform]).trans hl
  have Y := vx_rebase X (R' := { frames := R.frames, locals := R.locals, cells := 1, slots := 6 }) (Nat.le_refl _) (Nat.le_refl _) hRcells hRslots
  obtain ⟨s', hA⟩ : ∃ z, z = (T.setVm s.vm).setFrames (.invoking m args :: below) := ⟨_, rfl⟩
  rw [← hA] at Y
  have hvm : s'.vm = s.vm := by rw [hA]; rfl
  have hhp : s'.heap = H := by rw [hA]; exact hT
  have hW0 : s.WarmedH s'.vm := by rw [hvm]; exact State.WarmedH.refl s
  have hat' : ∀ w ∈ vx_at0 own ic cls names, w.before args s' = true := fun w hw => vx_ot_at hW0 hvm.symm (hgood w (List.mem_cons_of_mem _ (List.mem_cons_of_mem _ hw))) (hat w hw)
  have hk' : (Cond.classLink own ik cls).before args s' = true := vx_ot_at hW0 hvm.symm (hgood _ List.mem_cons_self) hk
  have hini' : (Cond.initialized cls).before args s' = true := vx_ot_at hW0 hvm.symm (hgood _ (List.mem_cons_of_mem _ List.mem_cons_self)) hini
  have hU' : vx_Zq Bundle.tN "UNASSIGNED_STACK" Bundle.steD A s' s'.heap := by rw [hhp]; exact vx_Zq.moved hW0.alike (hU.kept hS.2.1)
  have hN' : vx_Zq Bundle.tN "SUPPRESSED_SENTINEL" Bundle.listD A s' s'.heap := by rw [hhp]; exact vx_Zq.moved hW0.alike (hN.kept hS.2.1)
  have h : ∀ w ∈ Bundle.ownAtoms0 own ic cls names, w.before args s' = true := vx_own hat' (vx_isRefq hU'.1) (vx_isRefq hN'.1) hU'.2.word hN'.2.word
  have hown' : s'.vm.findClass own = some m.cls := by rw [hvm]; exact hown
  have hins : (Cond.instantiable cls 6).before args s' = true := h _ (by simp [Bundle.ownAtoms0])
  obtain ⟨vm₁, cX, kX, hfX, hkX, -, -, X₁, st1⟩ := Y.newCold hexec (own := own) (C := cls) (index := ik) (n := 6) hown' hk' hins hini'
    (g := F0 m pc ls rest) rfl (by rw [hb]; exact d0) (Nat.le_refl _) (Nat.le_refl _)
  generalize hT1 : (T.setVm vm₁).pushCell { cls := cX, slots := kX.instanceTypes.map defaultValue, vm := .none } = T1 at X₁ st1
  have hcat : (Value.ref T.heap.size).category = 1 := rfl
  have hcellA : T1.heap[T.heap.size]? = some (freshCell cX kX) := by rw [← hT1]; exact State.heap_pushCell_size _ _
  have d3' : decode c.code (pc + 3) = .ok (.dup, 1) := by rw [hb]; exact d3
  obtain ⟨U, hsteps, hrun, hend, hW, hsame, ce, hce, hO⟩ := X₁.ctorThrow0 hexec htr (own := own) (cls := cls) (names := names) (ic := ic) hown' hcls hnames h (fun x hx => nomatch hx) hfX hkX hcellA (by rw [hhp, hT]; exact Nat.le_refl _)
    (g := { method := m, pc := pc + 4, locals := ls, stack := .ref T.heap.size :: .ref T.heap.size :: rest, locked := none }) rfl hsize rfl rfl (rest := rest) rfl
    (by rw [hb]; exact d4) (by rw [hb]; exact d7) hout hRframes (by simp only [List.map_cons, List.sum_cons, hcat]; omega) hlocks
  obtain ⟨f1, f2⟩ := vx_frame hsame
  rw [hhp] at f1 f2
  have hWs : s.WarmedH U.vm := State.WarmedH.trans hW0 hW
  have hcl : s.vm.findClass cls = some ce.cls := by
    have h9 := hO.cls
    rw [hvm] at h9
    exact h9
  have hall : s.sameButNew ({ U with vm := s.vm } : State) locs mc ms := by
    subst hA
    obtain ⟨e1, e2⟩ := hsame
    rw [State.setFrames_setFrames] at e1
    have h2 : (T.setVm s.vm).sameButNew ({ U with vm := s.vm } : State) [] (0 + 1) (0 + 6) := ⟨e1, e2⟩
    have h3 := X.same.trans h2
    rw [List.append_nil] at h3
    exact h3.mono hc hs
  refine ⟨U, ?_, .threw T.heap.size, hrun, hend, Or.inr ⟨T.heap.size, rfl, cls, ce, locs, hx U hWs.alike f1 (fun q hq => f2 q hq (fun z hz => nomatch hz)), hce, hO.vm, hcl, hWs, hall, hf⟩⟩
  refine st1 _ ?_
  show Steps p.tables e below (T1.setTop { method := m, pc := pc + 3, locals := ls, stack := .ref T.heap.size :: rest, locked := none }) _
  jvm_step X₁.here [X₁.here.top, hexec, d3', Value.category]
  exact hsteps
/-- 'throw new E("text")': new; dup; ldc; invokespecial; athrow -/
theorem vx_throwS {cc : ByteArray} {pc : Nat} (hexec : p.tables.exec = Jvm.exec) (hb : c.code = cc) (hl : l.stackTraces = false) {own cls text : String} {names : List String} {ik is ic mc ms sa : Nat} {A : Nat → Prop}
    (hown : s.vm.findClass own = some m.cls) (hcls : Bundle.fit cls = true) (hnames : ∀ n ∈ names, Bundle.fit n = true)
    (hk : (Cond.classLink own ik cls).before args s = true) (hini : (Cond.initialized cls).before args s = true) (hstr : vk_R own is text sa s) (hat : ∀ w ∈ vx_atS own ic cls names, w.before args s = true)
    (hgood : ∀ w ∈ Cond.classLink own ik cls :: Cond.initialized cls :: vx_atS own ic cls names, vx_ot w = true)
    (hU : vx_Zq Bundle.tN "UNASSIGNED_STACK" Bundle.steD A s s.heap) (hN : vx_Zq Bundle.tN "SUPPRESSED_SENTINEL" Bundle.listD A s s.heap) (hS : va_S A s.heap H locs) (hsize : ls.size = c.maxLocals)
    (d0 : decode cc pc = .ok (.new ik, 3)) (d3 : decode cc (pc + 3) = .ok (.dup, 1)) (d4 : decode cc (pc + 4) = .ok (.ldc is, 2)) (d6 : decode cc (pc + 6) = .ok (.invokespecial ic, 3)) (d9 : decode cc (pc + 9) = .ok (.athrow, 1))
    (hout : ∀ x ∈ c.exceptionTable.toList, covers x (pc + 9) = false)
    (hRframes : names.length + 3 < R.frames) (hRlocals : (rest.map fun v => v.category).sum + (13 * (names.length + 1) + 43) ≤ R.locals) (hRcells : cells + 1 ≤ R.cells) (hRslots : slots + 6 ≤ R.slots) (hlocks : meth.locks = false)
    (hx : ∀ t : State, s.vm.Alike t.vm → H.size ≤ t.heap.size → (∀ q : Nat, q < H.size → t.heap[q]? = H[q]?) → XC cls s t)
    (hf : ∀ z ∈ locs, free z.base) (hc : cells + 1 ≤ mc) (hs : slots + 6 ≤ ms) :
    W p l e R s m args below meth c H locs cells slots (vx_MQ below Qc XC args s mc ms free) (F0 m pc ls rest) := by
  intro T hT X
  have htr : e.platform.stackTraces = false := (show e.platform.stackTraces = l.stackTraces by rw [X.admits.platform]).trans hl
  have Y := vx_rebase X (R' := { frames := R.frames, locals := R.locals, cells := 1, slots := 6 }) (Nat.le_refl _) (Nat.le_refl _) hRcells hRslots
  obtain ⟨s', hA⟩ : ∃ z, z = (T.setVm s.vm).setFrames (.invoking m args :: below) := ⟨_, rfl⟩
  rw [← hA] at Y
  have hvm : s'.vm = s.vm := by rw [hA]; rfl
  have hhp : s'.heap = H := by rw [hA]; exact hT
  have hW0 : s.WarmedH s'.vm := by rw [hvm]; exact State.WarmedH.refl s
  have hat' : ∀ w ∈ vx_atS own ic cls names, w.before args s' = true := fun w hw => vx_ot_at hW0 hvm.symm (hgood w (List.mem_cons_of_mem _ (List.mem_cons_of_mem _ hw))) (hat w hw)
  have hk' : (Cond.classLink own ik cls).before args s' = true := vx_ot_at hW0 hvm.symm (hgood _ List.mem_cons_self) hk
  have hini' : (Cond.initialized cls).before args s' = true := vx_ot_at hW0 hvm.symm (hgood _ (List.mem_cons_of_mem _ List.mem_cons_self)) hini
  have hU' : vx_Zq Bundle.tN "UNASSIGNED_STACK" Bundle.steD A s' s'.heap := by rw [hhp]; exact vx_Zq.moved hW0.alike (hU.kept hS.2.1)
  have hN' : vx_Zq Bundle.tN "SUPPRESSED_SENTINEL" Bundle.listD A s' s'.heap := by rw [hhp]; exact vx_Zq.moved hW0.alike (hN.kept hS.2.1)
  have h : ∀ w ∈ Bundle.ownAtoms own ic cls names, w.before args s' = true := vx_own hat' (vx_isRefq hU'.1) (vx_isRefq hN'.1) hU'.2.word hN'.2.word
  have hown' : s'.vm.findClass own = some m.cls := by rw [hvm]; exact hown
  have hins : (Cond.instantiable cls 6).before args s' = true := h _ (by simp [Bundle.ownAtoms])
  obtain ⟨vm₁, cX, kX, hfX, hkX, -, -, X₁, st1⟩ := Y.newCold hexec (own := own) (C := cls) (index := ik) (n := 6) hown' hk' hins hini'
    (g := F0 m pc ls rest) rfl (by rw [hb]; exact d0) (Nat.le_refl _) (Nat.le_refl _)
  generalize hT1 : (T.setVm vm₁).pushCell { cls := cX, slots := kX.instanceTypes.map defaultValue, vm := .none } = T1 at X₁ st1
  have hcat : (Value.ref T.heap.size).category = 1 := rfl
  have hcellA : T1.heap[T.heap.size]? = some (freshCell cX kX) := by rw [← hT1]; exact State.heap_pushCell_size _ _
  have d3' : decode c.code (pc + 3) = .ok (.dup, 1) := by rw [hb]; exact d3
  have d4' : decode c.code (pc + 4) = .ok (.ldc is, 2) := by rw [hb]; exact d4
  have hstr' : vk_R own is text sa s' := vk_R.warm hW0 hstr
  obtain ⟨U, hsteps, hrun, hend, hW, hsame, ce, hce, hO⟩ := X₁.ctorThrowS hexec htr (own := own) (cls := cls) (names := names) (ic := ic) hown' hcls hnames h (fun x hx => nomatch hx) hfX hkX hcellA (by rw [hhp, hT]; exact Nat.le_refl _) (msg := .ref sa) rfl
    (g := { method := m, pc := pc + 6, locals := ls, stack := .ref sa :: .ref T.heap.size :: .ref T.heap.size :: rest, locked := none }) rfl hsize rfl rfl (rest := rest) rfl
    (by rw [hb]; exact d6) (by rw [hb]; exact d9) hout hRframes (by simp only [List.map_cons, List.sum_cons, hcat]; omega) hlocks
  obtain ⟨f1, f2⟩ := vx_frame hsame
  rw [hhp] at f1 f2
  have hWs : s.WarmedH U.vm := State.WarmedH.trans hW0 hW
  have hcl : s.vm.findClass cls = some ce.cls := by
    have h9 := hO.cls
    rw [hvm] at h9
    exact h9
  have hall : s.sameButNew ({ U with vm := s.vm } : State) locs mc ms := by
    subst hA
    obtain ⟨e1, e2⟩ := hsame
    rw [State.setFrames_setFrames] at e1
    have h2 : (T.setVm s.vm).sameButNew ({ U with vm := s.vm } : State) [] (0 + 1) (0 + 6) := ⟨e1, e2⟩
    have h3 := X.same.trans h2
    rw [List.append_nil] at h3
    exact h3.mono hc hs
  refine ⟨U, ?_, .threw T.heap.size, hrun, hend, Or.inr ⟨T.heap.size, rfl, cls, ce, locs, hx U hWs.alike f1 (fun q hq => f2 q hq (fun z hz => nomatch hz)), hce, hO.vm, hcl, hWs, hall, hf⟩⟩
  refine st1 _ ?_
  show Steps p.tables e below (T1.setTop { method := m, pc := pc + 3, locals := ls, stack := .ref T.heap.size :: rest, locked := none }) _
  jvm_step X₁.here [X₁.here.top, hexec, d3', Value.category]
  exact X₁.ldcString hexec (own := own) (text := text) (index := is) (a := sa) hown' hstr'.1 hstr'.2
    (g := { method := m, pc := pc + 4, locals := ls, stack := .ref T.heap.size :: .ref T.heap.size :: rest, locked := none }) rfl d4' _ hsteps
/-- 'throw new E("text")', the text by a wide index -/
theorem vx_throwSW {cc : ByteArray} {pc : Nat} (hexec : p.tables.exec = Jvm.exec) (hb : c.code = cc) (hl : l.stackTraces = false) {own cls text : String} {names : List String} {ik is ic mc ms sa : Nat} {A : Nat → Prop}
    (hown : s.vm.findClass own = some m.cls) (hcls : Bundle.fit cls = true) (hnames : ∀ n ∈ names, Bundle.fit n = true)
    (hk : (Cond.classLink own ik cls).before args s = true) (hini : (Cond.initialized cls).before args s = true) (hstr : vk_R own is text sa s) (hat : ∀ w ∈ vx_atS own ic cls names, w.before args s = true)
    (hgood : ∀ w ∈ Cond.classLink own ik cls :: Cond.initialized cls :: vx_atS own ic cls names, vx_ot w = true)
    (hU : vx_Zq Bundle.tN "UNASSIGNED_STACK" Bundle.steD A s s.heap) (hN : vx_Zq Bundle.tN "SUPPRESSED_SENTINEL" Bundle.listD A s s.heap) (hS : va_S A s.heap H locs) (hsize : ls.size = c.maxLocals)
    (d0 : decode cc pc = .ok (.new ik, 3)) (d3 : decode cc (pc + 3) = .ok (.dup, 1)) (d4 : decode cc (pc + 4) = .ok (.ldc_w is, 3)) (d7 : decode cc (pc + 7) = .ok (.invokespecial ic, 3)) (d10 : decode cc (pc + 10) = .ok (.athrow, 1))
    (hout : ∀ x ∈ c.exceptionTable.toList, covers x (pc + 10) = false)
    (hRframes : names.length + 3 < R.frames) (hRlocals : (rest.map fun v => v.category).sum + (13 * (names.length + 1) + 43) ≤ R.locals) (hRcells : cells + 1 ≤ R.cells) (hRslots : slots + 6 ≤ R.slots) (hlocks : meth.locks = false)
    (hx : ∀ t : State, s.vm.Alike t.vm → H.size ≤ t.heap.size → (∀ q : Nat, q < H.size → t.heap[q]? = H[q]?) → XC cls s t)
    (hf : ∀ z ∈ locs, free z.base) (hc : cells + 1 ≤ mc) (hs : slots + 6 ≤ ms) :
    W p l e R s m args below meth c H locs cells slots (vx_MQ below Qc XC args s mc ms free) (F0 m pc ls rest) := by
  intro T hT X
  have htr : e.platform.stackTraces = false := (show e.platform.stackTraces = l.stackTraces by rw [X.admits.platform]).trans hl
  have Y := vx_rebase X (R' := { frames := R.frames, locals := R.locals, cells := 1, slots := 6 }) (Nat.le_refl _) (Nat.le_refl _) hRcells hRslots
  obtain ⟨s', hA⟩ : ∃ z, z = (T.setVm s.vm).setFrames (.invoking m args :: below) := ⟨_, rfl⟩
  rw [← hA] at Y
  have hvm : s'.vm = s.vm := by rw [hA]; rfl
  have hhp : s'.heap = H := by rw [hA]; exact hT
  have hW0 : s.WarmedH s'.vm := by rw [hvm]; exact State.WarmedH.refl s
  have hat' : ∀ w ∈ vx_atS own ic cls names, w.before args s' = true := fun w hw => vx_ot_at hW0 hvm.symm (hgood w (List.mem_cons_of_mem _ (List.mem_cons_of_mem _ hw))) (hat w hw)
  have hk' : (Cond.classLink own ik cls).before args s' = true := vx_ot_at hW0 hvm.symm (hgood _ List.mem_cons_self) hk
  have hini' : (Cond.initialized cls).before args s' = true := vx_ot_at hW0 hvm.symm (hgood _ (List.mem_cons_of_mem _ List.mem_cons_self)) hini
  have hU' : vx_Zq Bundle.tN "UNASSIGNED_STACK" Bundle.steD A s' s'.heap := by rw [hhp]; exact vx_Zq.moved hW0.alike (hU.kept hS.2.1)
  have hN' : vx_Zq Bundle.tN "SUPPRESSED_SENTINEL" Bundle.listD A s' s'.heap := by rw [hhp]; exact vx_Zq.moved hW0.alike (hN.kept hS.2.1)
  have h : ∀ w ∈ Bundle.ownAtoms own ic cls names, w.before args s' = true := vx_own hat' (vx_isRefq hU'.1) (vx_isRefq hN'.1) hU'.2.word hN'.2.word
  have hown' : s'.vm.findClass own = some m.cls := by rw [hvm]; exact hown
  have hins : (Cond.instantiable cls 6).before args s' = true := h _ (by simp [Bundle.ownAtoms])
  obtain ⟨vm₁, cX, kX, hfX, hkX, -, -, X₁, st1⟩ := Y.newCold hexec (own := own) (C := cls) (index := ik) (n := 6) hown' hk' hins hini'
    (g := F0 m pc ls rest) rfl (by rw [hb]; exact d0) (Nat.le_refl _) (Nat.le_refl _)
  generalize hT1 : (T.setVm vm₁).pushCell { cls := cX, slots := kX.instanceTypes.map defaultValue, vm := .none } = T1 at X₁ st1
  have hcat : (Value.ref T.heap.size).category = 1 := rfl
  have hcellA : T1.heap[T.heap.size]? = some (freshCell cX kX) := by rw [← hT1]; exact State.heap_pushCell_size _ _
  have d3' : decode c.code (pc + 3) = .ok (.dup, 1) := by rw [hb]; exact d3
  have d4' : decode c.code (pc + 4) = .ok (.ldc_w is, 3) := by rw [hb]; exact d4
  have hstr' : vk_R own is text sa s' := vk_R.warm hW0 hstr
  obtain ⟨U, hsteps, hrun, hend, hW, hsame, ce, hce, hO⟩ := X₁.ctorThrowS hexec htr (own := own) (cls := cls) (names := names) (ic := ic) hown' hcls hnames h (fun x hx => nomatch hx) hfX hkX hcellA (by rw [hhp, hT]; exact Nat.le_refl _) (msg := .ref sa) rfl
    (g := { method := m, pc := pc + 7, locals := ls, stack := .ref sa :: .ref T.heap.size :: .ref T.heap.size :: rest, locked := none }) rfl hsize rfl rfl (rest := rest) rfl
    (by rw [hb]; exact d7) (by rw [hb]; exact d10) hout hRframes (by simp only [List.map_cons, List.sum_cons, hcat]; omega) hlocks
  obtain ⟨f1, f2⟩ := vx_frame hsame
  rw [hhp] at f1 f2
  have hWs : s.WarmedH U.vm := State.WarmedH.trans hW0 hW
  have hcl : s.vm.findClass cls = some ce.cls := by
    have h9 := hO.cls
    rw [hvm] at h9
    exact h9
  have hall : s.sameButNew ({ U with vm := s.vm } : State) locs mc ms := by
    subst hA
    obtain ⟨e1, e2⟩ := hsame
    rw [State.setFrames_setFrames] at e1
    have h2 : (T.setVm s.vm).sameButNew ({ U with vm := s.vm } : State) [] (0 + 1) (0 + 6) := ⟨e1, e2⟩
    have h3 := X.same.trans h2
    rw [List.append_nil] at h3
    exact h3.mono hc hs
  refine ⟨U, ?_, .threw T.heap.size, hrun, hend, Or.inr ⟨T.heap.size, rfl, cls, ce, locs, hx U hWs.alike f1 (fun q hq => f2 q hq (fun z hz => nomatch hz)), hce, hO.vm, hcl, hWs, hall, hf⟩⟩
  refine st1 _ ?_
  show Steps p.tables e below (T1.setTop { method := m, pc := pc + 3, locals := ls, stack := .ref T.heap.size :: rest, locked := none }) _
  jvm_step X₁.here [X₁.here.top, hexec, d3', Value.category]
  exact X₁.ldcStringW hexec (own := own) (text := text) (index := is) (a := sa) hown' hstr'.1 hstr'.2
    (g := { method := m, pc := pc + 4, locals := ls, stack := .ref T.heap.size :: .ref T.heap.size :: rest, locked := none }) rfl d4' _ hsteps
end Ends
section Bodies
variable {l : Launch}
theorem vx_ofW {y : MethodName} {ws ws' : List Cond} {rm : Room} {Pc : Array Value → State → Prop} {Qc : Array Value → State → Outcome → State → Prop} {XC : String → State → State → Prop} {mc ms : Nat} {free : Addr → Prop} {cc : ByteArray} {maxL : Nat} {ret : Option FieldType}
    (hy : plainName y.cls = true) (hw : ws = Cond.code y cc maxL ret :: ws')
    (body : ∀ p e s m args below meth c s₁, BodyLoose p l y (headSpec ws rm) cc maxL ret e s m args below meth c s₁ → c.maxLocals = maxL → (∀ x ∈ c.exceptionTable.toList, False) → Pc args s →
      W p l e (headSpec ws rm).room s m args below meth c s.heap [] 0 0 (vx_MQ below Qc XC args s mc ms free) (entryFrame m args maxL)) : vx_Met l y ws rm Pc Qc XC mc ms free := by
  refine MetFree.of_bodyS (code := cc) (maxLocals := maxL) (ret := ret) hy ?_ ?_
  · intro args s m h hn
    obtain ⟨meth, c, h1, h2, h3, h4, h5, h6, -, -⟩ := Cond.code_spec hn (atoms_spec (ws := ws) h _ (by rw [hw]; exact List.mem_cons_self))
    exact ⟨meth, c, h1, h2, h3, h4, h5, h6⟩
  · intro p e s m args below meth c s₁ B hml hP _
    have hh0 : s₁.heap = s.heap := by rw [B.state]; rfl
    have ht : ∀ x ∈ c.exceptionTable.toList, False := by
      obtain ⟨meth9, c9, h1, h2, -, -, -, -, h7, -⟩ := Cond.code_spec B.named (atoms_spec (ws := ws) B.pre _ (by rw [hw]; exact List.mem_cons_self))
      cases Option.some.inj (h1.symm.trans B.method)
      cases Option.some.inj (h2.symm.trans (Stand.of_body B).code)
      intro x hx
      rw [Array.isEmpty_iff.mp h7] at hx
      cases hx
    obtain ⟨t, a1, o, b1, b2, b3⟩ := body p e s m args below meth c s₁ B hml ht hP s₁ hh0 (Stand.of_body B)
    exact ⟨t, o, a1, b1, b2, b3⟩
/-- the table of a body with handlers -/
theorem vx_table {p : Program} {x y : MethodName} {S : Spec} {cc bytes : ByteArray} {maxL maxL' : Nat} {ret ret' : Option FieldType} {e : Env} {s s₁ : State} {m : MethodId} {args : Array Value} {below : List Frame} {meth : Method} {c : Code} {hh : List (Nat × Nat × Nat × Nat)}
    (B : BodyLoose p l y S cc maxL ret e s m args below meth c s₁) (h : (Cond.codeWith y bytes maxL' ret' hh).before args s = true) : c.exceptionTable.toList = tableOf hh := by
  obtain ⟨m9, meth9, c9, hn9, h1, h2, -, -, h6, -⟩ := Cond.codeWith_spec h
  cases Option.some.inj (hn9.symm.trans B.named)
  cases Option.some.inj (h1.symm.trans B.method)
  cases Option.some.inj (h2.symm.trans (Stand.of_body B).code)
  rw [← h6, table_eq]
end Bodies
end VXA
/-! ===== END ===== -/
/-! ===== BEGIN a static call of a method with an exception table ===== -/
section VXS
variable {p : Program} {l : Launch} {e : Env} {R : Room} {s : State} {m : MethodId} {args : Array Value} {below : List Frame} {meth : Method} {c : Code} {T : State} {H : Heap} {locs : List Loc} {cells slots : Nat}
abbrev vx_CSW (R : Room) (s : State) (args : Array Value) (own : String) (index : Nat) (y : MethodName) (bytes : ByteArray) (maxL : Nat) (ret : Option FieldType) (hh : List (Nat × Nat × Nat × Nat)) (ws : List Cond) (rm : Room) (mc ms n : Nat) : Prop :=
  (rm.cells = mc ∧ rm.slots = ms ∧ rm.frames + 1 ≤ R.frames ∧ 8 + (maxL + 11) + rm.locals ≤ R.locals ∧ (∀ w ∈ ws, ∀ (a' : Array Value) (U : State), s.WarmedH U.vm → w.before a' U = true) ∧ Cond.codeWith y bytes maxL ret hh ∈ ws) ∧
  (Cond.codeWith y bytes maxL ret hh).before args s = true ∧ (Cond.initialized y.cls).before args s = true ∧ (y.cls ≠ "java/lang/invoke/MethodHandle" ∧ y.cls ≠ "java/lang/invoke/VarHandle") ∧
  (∀ sig, parseMethodDescriptor y.desc = some sig → n = sig.parameters.length) ∧ (Cond.methodLink own index y).before args s = true ∧ (Cond.static y).before args s = true
theorem vx_cwSW {own : String} {index maxL mc ms : Nat} {y : MethodName} {bytes : ByteArray} {ret : Option FieldType} {hh : List (Nat × Nat × Nat × Nat)} {Ts ws ws' : List Cond} {rm : Room} (n : Nat) (ht : ∀ w ∈ Ts, w.before args s = true) (hT : GoodIn Ts (va_wsS own index y ws)) (hw : ws = Cond.codeWith y bytes maxL ret hh :: ws') (hrc : rm.cells = mc) (hrs : rm.slots = ms)
    (hd : y.cls ≠ "java/lang/invoke/MethodHandle" ∧ y.cls ≠ "java/lang/invoke/VarHandle" ∧ (parseMethodDescriptor y.desc).map (fun d => d.parameters.length) = some n) (hR : rm.frames + 1 ≤ R.frames ∧ 8 + (maxL + 11) + rm.locals ≤ R.locals) :
    vx_CSW R s args own index y bytes maxL ret hh ws rm mc ms n := by
  have ok : ∀ w ∈ va_wsS own index y ws, w.before args s = true := fun w h => ht w (hT w h).1
  have hG : GoodIn Ts ws := fun w h => hT w (by unfold va_wsS; exact List.mem_append_right _ h)
  have hc : Cond.codeWith y bytes maxL ret hh ∈ ws := by rw [hw]; exact List.mem_cons_self
  refine ⟨⟨hrc, hrs, hR.1, hR.2, pay_in ht hG, hc⟩, ht _ (hG _ hc).1, ok _ (by simp [va_wsS]), ⟨hd.1, hd.2.1⟩, fun sig h => ?_, ok _ (by simp [va_wsS]), ok _ (by simp [va_wsS])⟩
  have h2 := hd.2.2
  rw [h] at h2
  exact (Option.some.inj h2).symm
theorem vx_callSW (X : Stand p l e R s m args below meth c T locs cells slots) (hexec : p.tables.exec = Jvm.exec) {own : String} {index : Nat} {y : MethodName} {bytes : ByteArray} {maxL : Nat} {ret : Option FieldType} {hh : List (Nat × Nat × Nat × Nat)}
    (hown : s.vm.findClass own = some m.cls) (hlink : (Cond.methodLink own index y).before args s = true) (hstat : (Cond.static y).before args s = true) (hinit : (Cond.initialized y.cls).before args s = true)
    (hcode : (Cond.codeWith y bytes maxL ret hh).before args s = true) (hy : y.cls ≠ "java/lang/invoke/MethodHandle" ∧ y.cls ≠ "java/lang/invoke/VarHandle")
    {W9 : Nat} {Pre : Pt → Array Value → Prop} {Post : Pt → Array Value → Option Value → Pt → Prop} (hK : Back l R p e below s args y 3 W9 Pre Post)
    {g : JFrame} (hg : g.method = m) (hsize : g.locals.size = c.maxLocals) {argsL rest : List Value} (hlen : ∀ sig, parseMethodDescriptor y.desc = some sig → argsL.length = sig.parameters.length)
    (hstack : g.stack = argsL.reverse ++ rest) (hW : 2 * g.monitorRoom + (rest.map fun v => v.category).sum ≤ W9) (hdg : decode c.code g.pc = .ok (.invokestatic index, 3))
    (hpre : ∀ vm₁, s.WarmedH vm₁ → Pre ⟨T.setVm vm₁, locs, cells, slots⟩ argsL.toArray) :
    ∃ (v : Option Value) (vm₁ : Vm) (B : Pt), s.WarmedH vm₁ ∧ Stand p l e R s m args below meth c B.U B.locs B.cells B.slots ∧ Post ⟨T.setVm vm₁, locs, cells, slots⟩ argsL.toArray v B ∧
      ∀ target, Steps p.tables e below (B.U.setTop { g with pc := g.pc + 3, stack := v.toList ++ rest }) target → Steps p.tables e below (T.setTop g) target := by
  obtain ⟨mk, methM, cM, hnamed, hmethM, -, -, -, -, -, -, hsigM⟩ := Cond.codeWith_spec hcode
  have hstatic : methM.isStatic = true := Cond.static_spec hnamed hmethM hstat
  obtain ⟨kP, hkP, -⟩ := className_of_methodNamed hnamed
  have hinitP : kP.init = .initialized := Cond.initialized_spec (findClass_of_methodNamed hnamed) hkP hinit
  obtain ⟨vm₁, X₁, hstep₁⟩ := X.invokestatic hexec hown hlink hnamed hmethM hstatic hkP hinitP hy (g := g) hg (argsL := argsL) (rest := rest) (hlen _ hsigM) hstack hdg
  obtain ⟨v, B, X', hpost, hsteps⟩ := hK m meth c ⟨T.setVm vm₁, locs, cells, slots⟩ { g with stack := rest } (.invokestatic index) mk argsL.toArray X₁ hg hsize hdg hW (X₁.named hnamed) (hpre vm₁ X₁.warmed)
  exact ⟨v, vm₁, B, X₁.warmed, X', hpost, fun target h => hstep₁ _ fun acts => by rw [doInvoke_state]; exact hsteps.trans h⟩
theorem vx_runSW {y : MethodName} {bytes cc : ByteArray} {maxL nL mc ms n index : Nat} {ret : Option FieldType} {hh : List (Nat × Nat × Nat × Nat)} {ws : List Cond} {rm : Room} {Pc : Array Value → State → Prop} {Qc : Array Value → State → Outcome → State → Prop} {free : Addr → Prop} {Ts : List Cond} {own : String} {As rest : List Value} {g : JFrame}
    (S : CallFix p m c cc nL s args Ts own) (hM : Met l y ws rm Pc Qc mc ms free) (cw : vx_CSW R s args own index y bytes maxL ret hh ws rm mc ms n) (hp : PreS s H Pc As)
    (hg : g.method = m) (hn : As.length = n) (hsize : g.locals.size = nL) (hstack : g.stack = As.reverse ++ rest) (hW : 2 * g.monitorRoom + (rest.map fun v => v.category).sum ≤ 8) (hdg : decode cc g.pc = .ok (.invokestatic index, 3)) (hf : cells + mc ≤ R.cells ∧ slots + ms ≤ R.slots) :
    va_Run p l e R s m args below meth c H locs cells slots mc ms g rest (Qc As.toArray) (free) := by
  obtain ⟨⟨hrc, hrs, hfr, hlo, hws, hcw⟩, hcode, hini, hy, hlen, hl, hstt⟩ := cw
  have hK : Back l R p e below s args y 3 8 (PreOf R mc ms Pc) (PostOf Qc mc ms free) := va_backW (hh := hh) (bytes := bytes) (maxL := maxL) (ret := ret) hM hp.1 hrc hrs hfr hlo hws hcw (fun a' U hW => word_at hW (Or.inl (by first | rfl | simp [Cond.onTables, Cond.keeps, Cond.steady])) hini)
  obtain ⟨hx, hb, hml, ho, -⟩ := S
  intro T hT X
  obtain ⟨v, vm₁, ⟨U', l2, c2, s2⟩, hW₁, X', ⟨g', mk, t, L, e1, e2, hq, h1, hL, h2, h3⟩, st⟩ := vx_callSW X hx (hh := hh) (bytes := bytes) (maxL := maxL) (ret := ret) ho hl hstt hini hcode hy hK hg (hsize.trans hml.symm) (argsL := As) (rest := rest) (fun sig h => hn.trans (hlen sig h)) hstack hW (by rw [hb]; exact hdg)
    (fun vm₁ hW₁ => ⟨hf.1, hf.2, hp.2 (T.setVm vm₁) hT hW₁⟩)
  dsimp only [Pt.U, Pt.locs, Pt.cells, Pt.slots] at X' e1 e2 h1 h2 h3 st
  subst h1; subst h2; subst h3
  exact ⟨v, (T.setVm vm₁).calling g' mk As.toArray, t, U', L, hT, X', hL, e1, e2, hq, st⟩
/-- not caught here, past rows that name other classes: it goes on to the caller -/
theorem vx_outP {p : Program} {l : Launch} {e : Env} {R : Room} {s : State} {m : MethodId} {args : Array Value} {below : List Frame} {meth : Method} {c : Code} {H : Heap} {locs : List Loc} {cells slots : Nat} {free : Addr → Prop} {ls : Array Slot} {rest : List Value} {Qc : Array Value → State → Outcome → State → Prop} {XC : String → State → State → Prop}
    {pc : Nat} {own E : String} {ce : Cell} {q : Addr} {mc ms : Nat} (hown : s.vm.findClass own = some m.cls) (hlocks : meth.locks = false)
    (hpass : ∀ z ∈ c.exceptionTable.toList, covers z pc = false ∨ (z.catchType ≠ 0 ∧ ∃ nm : String, (Cond.classLink own z.catchType nm).before args s = true ∧ va_Nc E nm s)) (hcell : H[q]? = some ce) (hv : ce.vm = .none) (hcl : s.vm.findClass E = some ce.cls)
    (hx : ∀ t : State, t.heap = H → s.vm.Alike t.vm → XC E s t) (hf : ∀ z ∈ locs, free z.base) (hc : cells ≤ mc) (hs : slots ≤ ms) :
    vx_W p l e R s m args below meth c H locs cells slots (vx_MQ below Qc XC args s mc ms free) (F0 m pc ls rest) q := by
  intro T hT X
  have hpl : e.platform.magicAccessors = ({} : Platform).magicAccessors := by rw [X.admits.platform]
  obtain ⟨vm', hW', X', st⟩ := X.outThrough hlocks q (g := F0 m pc ls rest) rfl rfl rfl (cell := ce) (by rw [hT]; exact hcell) (by rw [hv]; rfl)
    (by obtain ⟨k9, h9, -⟩ := Vm.findClass_spec hcl; exact ⟨k9, h9⟩) (fun z hz => by
      rcases hpass z hz with h | ⟨hz0, nm, hl1, hn1⟩
      · exact Or.inl h
      · obtain ⟨c6, hc6, hcl6⟩ := Cond.classLink_spec hown hl1 e.platform hpl
        obtain ⟨a8, b8, h1, h2, h3⟩ := hn1
        cases Option.some.inj (h1.symm.trans hcl)
        cases Option.some.inj (h2.symm.trans hc6)
        exact Or.inr ⟨hz0, _, hcl6, h3⟩)
  obtain ⟨g₀, hfr⟩ := X'.frames_eq
  have hcell9 : ((T.setVm vm').setFrames (.throwing q :: below)).heap[q]? = some ce := by
    show T.heap[q]? = some ce
    rw [hT]; exact hcell
  have hend : Ended ((T.setVm vm').setFrames (.throwing q :: below)) below (.threw q) := State.frames_setFrames _ (State.cur_lt_of_frames hfr)
  refine ⟨(T.setVm vm').setFrames (.throwing q :: below), ?_, .threw q, X'.here.running, hend, Or.inr ⟨q, rfl, E, ce, locs, hx _ hT (X'.ends _).1.alike, hcell9, hv, hcl, (X'.ends _).1, (X'.ends _).2.mono hc hs, hf⟩⟩
  rw [X.pushThrowing_eq]
  exact st
/-- a thing of a world lies in the heap -/
theorem vx_lt {D : va_G} {cl : List vw_C} {ws : va_W} {H1 : Heap} (h : va_P D cl ws H1) {k : Nat} {q : Nat × va_E} (hk : ws[k]? = some q) : q.1 < H1.size := (h k q hk).lt
end VXS
/-! ===== END ===== -/
/-! ===== BEGIN methods with a table of their own: called by a name, returning or throwing ===== -/
section VXH
/-! vx_backW, vx_callVX, vx_callSX, vx_callVW, vx_runVW, vx_runVX, vx_runSX, vx_ofWH follow the same proofs as their sisters above (Free/Laws.lean, Shelf42/LK1.lean); vx_outP calls Shelf42/NT130.lean (outThrough). -/
section
variable {l : Launch} {R : Room} {p : Program} {e : Env} {below : List Frame} {s : State} {sargs : Array Value} {y : MethodName} {len W9 : Nat}
theorem vx_backW {ws : List Cond} {rm : Room} {Pc : Array Value → State → Prop} {Qc : Array Value → State → Outcome → State → Prop} {XC : String → State → State → Prop} {mc ms : Nat} {free : Addr → Prop} {bytes : ByteArray} {maxL : Nat} {ret : Option FieldType} {hh : List (Nat × Nat × Nat × Nat)}
    (hM : vx_Met l y ws rm Pc Qc XC mc ms free) (hblind : FrameBlind Pc) (hrc : rm.cells = mc) (hrs : rm.slots = ms)
    (hframes : rm.frames + 1 ≤ R.frames) (hlocals : W9 + (maxL + 11) + rm.locals ≤ R.locals)
    (hws : ∀ w ∈ ws, ∀ a' U, s.WarmedH U.vm → w.before a' U = true) (hcode : Cond.codeWith y bytes maxL ret hh ∈ ws) (hinit : ∀ a' U, s.WarmedH U.vm → (Cond.initialized y.cls).before a' U = true) :
    vx_Back l R p e below s sargs y len W9 (PreOf R mc ms Pc) (PostOf Qc mc ms free) (vx_Post XC mc ms free) := by
  intro m meth c A g ig mk a X hg hsize hdg hW hn hp
  have h1 : (headSpec ws rm).pre.before a A.U = true := atoms_intro fun w hw => hws w hw _ _ X.warmed
  have h2 : (Cond.codeWith y bytes maxL ret hh).before a A.U = true := hws _ hcode _ _ X.warmed
  have h3 : (Cond.initialized y.cls).before a A.U = true := hinit _ _ X.warmed
  have h4 : A.cells + (headSpec ws rm).room.cells ≤ R.cells := by rw [show (headSpec ws rm).room.cells = mc from hrc]; exact hp.1
  have h5 : A.slots + (headSpec ws rm).room.slots ≤ R.slots := by rw [show (headSpec ws rm).room.slots = ms from hrs]; exact hp.2.1
  have hPc : Pc a (A.U.calling g mk a) := hblind _ _ _ _ hp.2.2
  obtain ⟨U, Ls, c0, s0⟩ := A
  dsimp only [Pt.U, Pt.locs, Pt.cells, Pt.slots] at h1 h2 h3 h4 h5 X hn hPc ⊢
  obtain ⟨m9, methY, cY, hn9, hmY, hcY, -, hlY, -⟩ := Cond.codeWith_spec h2
  cases Option.some.inj (hn9.symm.trans hn)
  obtain ⟨kY, hkY, -⟩ := className_of_methodNamed hn
  have hinitY : kY.init = .initialized := Cond.initialized_spec (findClass_of_methodNamed hn) hkY h3
  have h : At U g.method c below := by rw [hg]; exact X.here
  have hlocals9 : W9 + (maxL + 11) + (headSpec ws rm).room.locals ≤ R.locals := hlocals
  have happ : (headSpec ws rm).appliesLoose y e.platform (U.calling g mk a) = true :=
    Spec.appliesLoose_calling (g := g) h hdg hn hkY hinitY
      (X.room_calling (g := g) (R' := (headSpec ws rm).room) hsize hmY hcY hframes (by rw [hlY]; omega) h4 h5) h1
  obtain ⟨mid, hmid⟩ := h.above
  have hfr : (U.setTop g).frames = (.java g :: mid) ++ below := by rw [State.frames_setTop' g h.top, hmid]; rfl
  obtain ⟨o, s₂, hsteps, -, hend, hq⟩ := Steps.callFree hM p X.admits X.cas X.clock (acts := []) hfr happ hPc trivial
  have hq' : vx_Q Qc XC mc ms free a (U.calling g mk a) o s₂ := hq
  rw [State.frames_setTop' g h.top] at hend
  obtain ⟨g₀, hg0⟩ := Option.isSome_iff_exists.mp h.top
  obtain ⟨r, hr⟩ := State.topJava?_eq_some.mp hg0
  have hr' : (({ U with heap := s₂.heap, slotsUsed := s₂.slotsUsed } : State).setVm s₂.vm).frames = .java g₀ :: r := hr
  rcases hq' with ⟨hqc, L, hfe, hL⟩ | ⟨q, rfl, E, ce, L, hx, hce, hcv, hcl, hW₂, hsm, hL⟩
  · obtain ⟨⟨v, rfl⟩, hW₂, e2, q2, q3, q4, q5, q6⟩ := id hfe
    have e3 : s₂ = ({ (U.calling g mk a).setFrames s₂.frames with heap := s₂.heap, slotsUsed := s₂.slotsUsed } : State).setVm s₂.vm := by
      have : s₂ = ({ s₂ with vm := (U.calling g mk a).vm } : State).setVm s₂.vm := rfl
      rw [e2] at this
      exact this
    obtain ⟨c₂, i₂, len₂, hc₂, hd₂, hf₂⟩ := hend
    have hW' : U.WarmedH s₂.vm := hW₂
    have hcc : c₂ = c := by
      have h1 : s₂.code? g.method = U.code? g.method := by
        rw [State.code?_eq, State.code?_eq, hW'.alike.method?]
      exact Option.some.inj (hc₂.symm.trans (h1.trans h.code))
    subst hcc
    have hlen : len₂ = len := by rw [hdg] at hd₂; cases hd₂; rfl
    subst hlen
    have hs₂ : s₂ = (({ U with heap := s₂.heap, slotsUsed := s₂.slotsUsed } : State).setVm s₂.vm).setTop { g with pc := g.pc + len₂, stack := v.toList ++ g.stack } := by
      refine e3.trans ?_
      rw [hf₂, State.calling_eq h.top, State.setFrames_setFrames, State.setTop_of_frames _ hr', hr]
      rfl
    have hsame : U.sameButNew ({ U with heap := s₂.heap, slotsUsed := s₂.slotsUsed } : State) L mc ms := by
      refine ⟨?_, q2, q3, q4, q5, q6⟩
      obtain ⟨t, ht, -⟩ := State.frames_cons hr
      show ({ U with heap := s₂.heap, slotsUsed := s₂.slotsUsed } : State) = { U.setFrames U.frames with heap := s₂.heap, slotsUsed := s₂.slotsUsed }
      rw [State.setFrames_self ht]
    subst hg
    refine Or.inl ⟨v, ⟨(({ U with heap := s₂.heap, slotsUsed := s₂.slotsUsed } : State).setVm s₂.vm), Ls ++ L, c0 + mc, s0 + ms⟩,
      ⟨X.admits, X.cas, X.clock, X.frames, X.room, X.hears, X.method, X.code, (X.here.setHeapUsed s₂.heap s₂.slotsUsed).setVm hW'.alike, X.tail, State.WarmedH.trans X.warmed hW', X.limits, X.bytes, X.same.trans (hsame.setVm s.vm)⟩,
      ⟨g, mk, s₂, L, rfl, rfl, hqc, rfl, hL, rfl, rfl⟩, ?_⟩
    show Steps p.tables e below _ ((({ U with heap := s₂.heap, slotsUsed := s₂.slotsUsed } : State).setVm s₂.vm).setTop { g with pc := g.pc + len₂, stack := v.toList ++ g.stack })
    rw [← hs₂]
    exact hsteps
  · obtain ⟨e2, q2, q3, q4, q5, q6⟩ := id hsm
    have e3 : s₂ = ({ (U.calling g mk a).setFrames s₂.frames with heap := s₂.heap, slotsUsed := s₂.slotsUsed } : State).setVm s₂.vm := by
      have : s₂ = ({ s₂ with vm := (U.calling g mk a).vm } : State).setVm s₂.vm := rfl
      rw [e2] at this
      exact this
    have hf₂ : s₂.frames = .throwing q :: .java g :: U.frames.tail := hend
    have hW' : U.WarmedH s₂.vm := hW₂
    have hs₂ : s₂ = ((({ U with heap := s₂.heap, slotsUsed := s₂.slotsUsed } : State).setVm s₂.vm).setTop g).pushFrame (.throwing q) := by
      refine e3.trans ?_
      rw [hf₂, State.calling_eq h.top, State.setFrames_setFrames, State.pushFrame, State.frames_setTop _ hr', State.setTop_of_frames _ hr', State.setFrames_setFrames, hr]
      rfl
    have hsame : U.sameButNew ({ U with heap := s₂.heap, slotsUsed := s₂.slotsUsed } : State) L mc ms := by
      refine ⟨?_, q2, q3, q4, q5, q6⟩
      obtain ⟨t, ht, -⟩ := State.frames_cons hr
      show ({ U with heap := s₂.heap, slotsUsed := s₂.slotsUsed } : State) = { U.setFrames U.frames with heap := s₂.heap, slotsUsed := s₂.slotsUsed }
      rw [State.setFrames_self ht]
    subst hg
    refine Or.inr ⟨q, ⟨(({ U with heap := s₂.heap, slotsUsed := s₂.slotsUsed } : State).setVm s₂.vm), Ls ++ L, c0 + mc, s0 + ms⟩,
      ⟨X.admits, X.cas, X.clock, X.frames, X.room, X.hears, X.method, X.code, (X.here.setHeapUsed s₂.heap s₂.slotsUsed).setVm hW'.alike, X.tail, State.WarmedH.trans X.warmed hW', X.limits, X.bytes, X.same.trans (hsame.setVm s.vm)⟩,
      ⟨g, mk, s₂, L, E, ce, rfl, rfl, hx, hce, hcv, hcl, rfl, hL, rfl, rfl⟩, ?_⟩
    show Steps p.tables e below _ (((({ U with heap := s₂.heap, slotsUsed := s₂.slotsUsed } : State).setVm s₂.vm).setTop g).pushFrame (.throwing q))
    rw [← hs₂]
    exact hsteps
end
variable {p : Program} {l : Launch} {e : Env} {R : Room} {s : State} {m : MethodId} {args : Array Value} {below : List Frame} {meth : Method} {c : Code} {T : State} {H : Heap} {locs : List Loc} {cells slots : Nat}
theorem vx_callVX (X : Stand p l e R s m args below meth c T locs cells slots) (hexec : p.tables.exec = Jvm.exec) {own C : String} {index : Nat} {y : MethodName} {bytes : ByteArray} {maxL : Nat} {ret : Option FieldType} {hh : List (Nat × Nat × Nat × Nat)}
    (hown : s.vm.findClass own = some m.cls) (hlink : (Cond.methodLink own index y).before args s = true) (hinst : (Cond.instanceMethod y).before args s = true) (hsel : (Cond.selects C y y).before args s = true)
    (hcode : (Cond.codeWith y bytes maxL ret hh).before args s = true) (hy : y.cls ≠ "java/lang/invoke/MethodHandle" ∧ y.cls ≠ "java/lang/invoke/VarHandle")
    {W9 : Nat} {Pre : Pt → Array Value → Prop} {Post : Pt → Array Value → Option Value → Pt → Prop} {PostX : Pt → Array Value → Addr → Pt → Prop} (hK : vx_Back l R p e below s args y 3 W9 Pre Post PostX)
    {b : Addr} {cellB : Cell} (hcell : T.heap[b]? = some cellB) (hobj : cellB.vm.isStatics = false) (hcls : s.vm.findClass C = some cellB.cls)
    {g : JFrame} (hg : g.method = m) (hsize : g.locals.size = c.maxLocals) {argsL rest : List Value} (hlen : ∀ sig, parseMethodDescriptor y.desc = some sig → argsL.length = sig.parameters.length)
    (hstack : g.stack = argsL.reverse ++ .ref b :: rest) (hW : 2 * g.monitorRoom + (rest.map fun v => v.category).sum ≤ W9) (hdg : decode c.code g.pc = .ok (.invokevirtual index, 3))
    (hpre : ∀ vm₁, s.WarmedH vm₁ → Pre ⟨T.setVm vm₁, locs, cells, slots⟩ (Value.ref b :: argsL).toArray) :
    (∃ (v : Option Value) (vm₁ : Vm) (B : Pt), s.WarmedH vm₁ ∧ Stand p l e R s m args below meth c B.U B.locs B.cells B.slots ∧ Post ⟨T.setVm vm₁, locs, cells, slots⟩ (Value.ref b :: argsL).toArray v B ∧
      ∀ target, Steps p.tables e below (B.U.setTop { g with pc := g.pc + 3, stack := v.toList ++ rest }) target → Steps p.tables e below (T.setTop g) target) ∨
    (∃ (q : Addr) (vm₁ : Vm) (B : Pt), s.WarmedH vm₁ ∧ Stand p l e R s m args below meth c B.U B.locs B.cells B.slots ∧ PostX ⟨T.setVm vm₁, locs, cells, slots⟩ (Value.ref b :: argsL).toArray q B ∧
      Steps p.tables e below (T.setTop g) ((B.U.setTop { g with stack := rest }).pushFrame (.throwing q))) := by
  obtain ⟨mk, methM, hnamed, hmethM, hstM, habM⟩ := Cond.instanceMethod_spec hinst
  obtain ⟨m8, methM', cM, hn8, hmethM', -, -, -, -, -, -, hsigM⟩ := Cond.codeWith_spec hcode
  cases Option.some.inj (hn8.symm.trans hnamed)
  cases hmethM.symm.trans hmethM'
  obtain ⟨c2, r2, m2, q1, q2, q3, q4, kP, hkP, hkPi⟩ := Cond.selects_spec hsel
  cases hcls.symm.trans q1
  cases (State.methodFound?_of_named hnamed hy).symm.trans q2
  cases hnamed.symm.trans q3
  have hselP : selectMethod e.platform s.vm cellB.cls mk = .method mk := by rw [Launch.admits_selectMethod X.admits]; exact q4
  obtain ⟨vm₁, X₁, hstep₁⟩ := X.invokevirtual hexec hown hlink hnamed hmethM hstM hkP hkPi hy (a := b) (cell := cellB) hcell
    (fun z h => by rw [h] at hobj; cases hobj) hselP hmethM habM hkP hkPi (g := g) hg (argsL := argsL) (rest := rest) (hlen _ hsigM) hstack hdg
  rcases hK m meth c ⟨T.setVm vm₁, locs, cells, slots⟩ { g with stack := rest } (.invokevirtual index) mk (Value.ref b :: argsL).toArray X₁ hg hsize hdg hW (X₁.named hnamed) (hpre vm₁ X₁.warmed) with ⟨v, B, X', hpost, hsteps⟩ | ⟨q, B, X', hpost, hsteps⟩
  · exact Or.inl ⟨v, vm₁, B, X₁.warmed, X', hpost, fun target h => hstep₁ _ fun acts => by rw [doInvoke_state]; exact hsteps.trans h⟩
  · exact Or.inr ⟨q, vm₁, B, X₁.warmed, X', hpost, hstep₁ _ fun acts => by rw [doInvoke_state]; exact hsteps⟩
theorem vx_callSX (X : Stand p l e R s m args below meth c T locs cells slots) (hexec : p.tables.exec = Jvm.exec) {own : String} {index : Nat} {y : MethodName} {bytes : ByteArray} {maxL : Nat} {ret : Option FieldType} {hh : List (Nat × Nat × Nat × Nat)}
    (hown : s.vm.findClass own = some m.cls) (hlink : (Cond.methodLink own index y).before args s = true) (hstat : (Cond.static y).before args s = true) (hinit : (Cond.initialized y.cls).before args s = true)
    (hcode : (Cond.codeWith y bytes maxL ret hh).before args s = true) (hy : y.cls ≠ "java/lang/invoke/MethodHandle" ∧ y.cls ≠ "java/lang/invoke/VarHandle")
    {W9 : Nat} {Pre : Pt → Array Value → Prop} {Post : Pt → Array Value → Option Value → Pt → Prop} {PostX : Pt → Array Value → Addr → Pt → Prop} (hK : vx_Back l R p e below s args y 3 W9 Pre Post PostX)
    {g : JFrame} (hg : g.method = m) (hsize : g.locals.size = c.maxLocals) {argsL rest : List Value} (hlen : ∀ sig, parseMethodDescriptor y.desc = some sig → argsL.length = sig.parameters.length)
    (hstack : g.stack = argsL.reverse ++ rest) (hW : 2 * g.monitorRoom + (rest.map fun v => v.category).sum ≤ W9) (hdg : decode c.code g.pc = .ok (.invokestatic index, 3))
    (hpre : ∀ vm₁, s.WarmedH vm₁ → Pre ⟨T.setVm vm₁, locs, cells, slots⟩ argsL.toArray) :
    (∃ (v : Option Value) (vm₁ : Vm) (B : Pt), s.WarmedH vm₁ ∧ Stand p l e R s m args below meth c B.U B.locs B.cells B.slots ∧ Post ⟨T.setVm vm₁, locs, cells, slots⟩ argsL.toArray v B ∧
      ∀ target, Steps p.tables e below (B.U.setTop { g with pc := g.pc + 3, stack := v.toList ++ rest }) target → Steps p.tables e below (T.setTop g) target) ∨
    (∃ (q : Addr) (vm₁ : Vm) (B : Pt), s.WarmedH vm₁ ∧ Stand p l e R s m args below meth c B.U B.locs B.cells B.slots ∧ PostX ⟨T.setVm vm₁, locs, cells, slots⟩ argsL.toArray q B ∧
      Steps p.tables e below (T.setTop g) ((B.U.setTop { g with stack := rest }).pushFrame (.throwing q))) := by
  obtain ⟨mk, methM, cM, hnamed, hmethM, -, -, -, -, -, -, hsigM⟩ := Cond.codeWith_spec hcode
  have hstatic : methM.isStatic = true := Cond.static_spec hnamed hmethM hstat
  obtain ⟨kP, hkP, -⟩ := className_of_methodNamed hnamed
  have hinitP : kP.init = .initialized := Cond.initialized_spec (findClass_of_methodNamed hnamed) hkP hinit
  obtain ⟨vm₁, X₁, hstep₁⟩ := X.invokestatic hexec hown hlink hnamed hmethM hstatic hkP hinitP hy (g := g) hg (argsL := argsL) (rest := rest) (hlen _ hsigM) hstack hdg
  rcases hK m meth c ⟨T.setVm vm₁, locs, cells, slots⟩ { g with stack := rest } (.invokestatic index) mk argsL.toArray X₁ hg hsize hdg hW (X₁.named hnamed) (hpre vm₁ X₁.warmed) with ⟨v, B, X', hpost, hsteps⟩ | ⟨q, B, X', hpost, hsteps⟩
  · exact Or.inl ⟨v, vm₁, B, X₁.warmed, X', hpost, fun target h => hstep₁ _ fun acts => by rw [doInvoke_state]; exact hsteps.trans h⟩
  · exact Or.inr ⟨q, vm₁, B, X₁.warmed, X', hpost, hstep₁ _ fun acts => by rw [doInvoke_state]; exact hsteps⟩
theorem vx_callVW (X : Stand p l e R s m args below meth c T locs cells slots) (hexec : p.tables.exec = Jvm.exec) {own C : String} {index : Nat} {y : MethodName} {bytes : ByteArray} {maxL : Nat} {ret : Option FieldType} {hh : List (Nat × Nat × Nat × Nat)}
    (hown : s.vm.findClass own = some m.cls) (hlink : (Cond.methodLink own index y).before args s = true) (hinst : (Cond.instanceMethod y).before args s = true) (hsel : (Cond.selects C y y).before args s = true)
    (hcode : (Cond.codeWith y bytes maxL ret hh).before args s = true) (hy : y.cls ≠ "java/lang/invoke/MethodHandle" ∧ y.cls ≠ "java/lang/invoke/VarHandle")
    {W9 : Nat} {Pre : Pt → Array Value → Prop} {Post : Pt → Array Value → Option Value → Pt → Prop} (hK : Back l R p e below s args y 3 W9 Pre Post)
    {b : Addr} {cellB : Cell} (hcell : T.heap[b]? = some cellB) (hobj : cellB.vm.isStatics = false) (hcls : s.vm.findClass C = some cellB.cls)
    {g : JFrame} (hg : g.method = m) (hsize : g.locals.size = c.maxLocals) {argsL rest : List Value} (hlen : ∀ sig, parseMethodDescriptor y.desc = some sig → argsL.length = sig.parameters.length)
    (hstack : g.stack = argsL.reverse ++ .ref b :: rest) (hW : 2 * g.monitorRoom + (rest.map fun v => v.category).sum ≤ W9) (hdg : decode c.code g.pc = .ok (.invokevirtual index, 3))
    (hpre : ∀ vm₁, s.WarmedH vm₁ → Pre ⟨T.setVm vm₁, locs, cells, slots⟩ (Value.ref b :: argsL).toArray) :
    ∃ (v : Option Value) (vm₁ : Vm) (B : Pt), s.WarmedH vm₁ ∧ Stand p l e R s m args below meth c B.U B.locs B.cells B.slots ∧ Post ⟨T.setVm vm₁, locs, cells, slots⟩ (Value.ref b :: argsL).toArray v B ∧
      ∀ target, Steps p.tables e below (B.U.setTop { g with pc := g.pc + 3, stack := v.toList ++ rest }) target → Steps p.tables e below (T.setTop g) target := by
  obtain ⟨mk, methM, hnamed, hmethM, hstM, habM⟩ := Cond.instanceMethod_spec hinst
  obtain ⟨m8, methM', cM, hn8, hmethM', -, -, -, -, -, -, hsigM⟩ := Cond.codeWith_spec hcode
  cases Option.some.inj (hn8.symm.trans hnamed)
  cases hmethM.symm.trans hmethM'
  obtain ⟨c2, r2, m2, q1, q2, q3, q4, kP, hkP, hkPi⟩ := Cond.selects_spec hsel
  cases hcls.symm.trans q1
  cases (State.methodFound?_of_named hnamed hy).symm.trans q2
  cases hnamed.symm.trans q3
  have hselP : selectMethod e.platform s.vm cellB.cls mk = .method mk := by rw [Launch.admits_selectMethod X.admits]; exact q4
  obtain ⟨vm₁, X₁, hstep₁⟩ := X.invokevirtual hexec hown hlink hnamed hmethM hstM hkP hkPi hy (a := b) (cell := cellB) hcell
    (fun z h => by rw [h] at hobj; cases hobj) hselP hmethM habM hkP hkPi (g := g) hg (argsL := argsL) (rest := rest) (hlen _ hsigM) hstack hdg
  obtain ⟨v, B, X', hpost, hsteps⟩ := hK m meth c ⟨T.setVm vm₁, locs, cells, slots⟩ { g with stack := rest } (.invokevirtual index) mk (Value.ref b :: argsL).toArray X₁ hg hsize hdg hW (X₁.named hnamed) (hpre vm₁ X₁.warmed)
  exact ⟨v, vm₁, B, X₁.warmed, X', hpost, fun target h => hstep₁ _ fun acts => by rw [doInvoke_state]; exact hsteps.trans h⟩
abbrev vx_CVW (R : Room) (s : State) (args : Array Value) (own C : String) (index : Nat) (y : MethodName) (bytes : ByteArray) (maxL : Nat) (ret : Option FieldType) (hh : List (Nat × Nat × Nat × Nat)) (ws : List Cond) (rm : Room) (mc ms n : Nat) : Prop :=
  (rm.cells = mc ∧ rm.slots = ms ∧ rm.frames + 1 ≤ R.frames ∧ 8 + (maxL + 11) + rm.locals ≤ R.locals ∧ (∀ w ∈ ws, ∀ (a' : Array Value) (U : State), s.WarmedH U.vm → w.before a' U = true) ∧ Cond.codeWith y bytes maxL ret hh ∈ ws) ∧
  (Cond.codeWith y bytes maxL ret hh).before args s = true ∧ (Cond.initialized y.cls).before args s = true ∧ (y.cls ≠ "java/lang/invoke/MethodHandle" ∧ y.cls ≠ "java/lang/invoke/VarHandle") ∧
  (∀ sig, parseMethodDescriptor y.desc = some sig → n = sig.parameters.length) ∧ (Cond.methodLink own index y).before args s = true ∧ (Cond.instanceMethod y).before args s = true ∧ (Cond.selects C y y).before args s = true
theorem vx_cwVW {own C : String} {index maxL mc ms : Nat} {y : MethodName} {bytes : ByteArray} {ret : Option FieldType} {hh : List (Nat × Nat × Nat × Nat)} {Ts ws ws' : List Cond} {rm : Room} (n : Nat) (ht : ∀ w ∈ Ts, w.before args s = true) (hT : GoodIn Ts (wsV own index C y ws)) (hw : ws = Cond.codeWith y bytes maxL ret hh :: ws') (hrc : rm.cells = mc) (hrs : rm.slots = ms)
    (hd : y.cls = C ∧ y.cls ≠ "java/lang/invoke/MethodHandle" ∧ y.cls ≠ "java/lang/invoke/VarHandle" ∧ (parseMethodDescriptor y.desc).map (fun d => d.parameters.length) = some n) (hR : rm.frames + 1 ≤ R.frames ∧ 8 + (maxL + 11) + rm.locals ≤ R.locals) :
    vx_CVW R s args own C index y bytes maxL ret hh ws rm mc ms n := by
  obtain ⟨hC, hd⟩ := hd
  subst hC
  have ok : ∀ w ∈ wsV own index y.cls y ws, w.before args s = true := fun w h => ht w (hT w h).1
  have hG : GoodIn Ts ws := fun w h => hT w (by unfold wsV; exact List.mem_append_right _ h)
  have hc : Cond.codeWith y bytes maxL ret hh ∈ ws := by rw [hw]; exact List.mem_cons_self
  refine ⟨⟨hrc, hrs, hR.1, hR.2, pay_in ht hG, hc⟩, ht _ (hG _ hc).1, ok _ (by simp [wsV]), ⟨hd.1, hd.2.1⟩, fun sig h => ?_, ok _ (by simp [wsV]), ok _ (by simp [wsV]), ok _ (by simp [wsV])⟩
  have h2 := hd.2.2
  rw [h] at h2
  exact (Option.some.inj h2).symm
theorem vx_runVW {y : MethodName} {bytes cc : ByteArray} {maxL nL mc ms n index : Nat} {ret : Option FieldType} {hh : List (Nat × Nat × Nat × Nat)} {ws : List Cond} {rm : Room} {Pc : Array Value → State → Prop} {Qc : Array Value → State → Outcome → State → Prop} {free : Addr → Prop} {Ts : List Cond} {own C : String} {b : Addr} {As rest : List Value} {g : JFrame}
    (S : CallFix p m c cc nL s args Ts own) (hM : Met l y ws rm Pc Qc mc ms free) (cw : vx_CVW R s args own C index y bytes maxL ret hh ws rm mc ms n) (hp : PreV s H C b Pc As)
    (hg : g.method = m) (hn : As.length = n) (hsize : g.locals.size = nL) (hstack : g.stack = As.reverse ++ .ref b :: rest) (hW : 2 * g.monitorRoom + (rest.map fun v => v.category).sum ≤ 8) (hdg : decode cc g.pc = .ok (.invokevirtual index, 3)) (hf : cells + mc ≤ R.cells ∧ slots + ms ≤ R.slots) :
    va_Run p l e R s m args below meth c H locs cells slots mc ms g rest (Qc (Value.ref b :: As).toArray) free := by
  obtain ⟨⟨hrc, hrs, hfr, hlo, hws, hcw⟩, hcode, hini, hy, hlen, hl, hin, hse⟩ := cw
  have hK : Back l R p e below s args y 3 8 (PreOf R mc ms Pc) (PostOf Qc mc ms free) := va_backW (hh := hh) (bytes := bytes) (maxL := maxL) (ret := ret) hM hp.1 hrc hrs hfr hlo hws hcw (fun a' U hW => word_at hW (Or.inl (by first | rfl | simp [Cond.onTables, Cond.keeps, Cond.steady])) hini)
  obtain ⟨hx, hb, hml, ho, -⟩ := S
  obtain ⟨-, ⟨cellB, hcB, hoB, hclB⟩, hPc⟩ := hp
  intro T hT X
  obtain ⟨v, vm₁, ⟨U', l2, c2, s2⟩, hW₁, X', ⟨g', mk, t, L, e1, e2, hq, h1, hL, h2, h3⟩, st⟩ := vx_callVW X hx (C := C) (hh := hh) (bytes := bytes) (maxL := maxL) (ret := ret) ho hl hin hse hcode hy hK (by rw [hT]; exact hcB) hoB hclB hg (hsize.trans hml.symm) (argsL := As) (rest := rest) (fun sig h => hn.trans (hlen sig h)) hstack hW (by rw [hb]; exact hdg)
    (fun vm₁ hW₁ => ⟨hf.1, hf.2, hPc (T.setVm vm₁) hT hW₁⟩)
  dsimp only [Pt.U, Pt.locs, Pt.cells, Pt.slots] at X' e1 e2 h1 h2 h3 st
  subst h1; subst h2; subst h3
  exact ⟨v, (T.setVm vm₁).calling g' mk (Value.ref b :: As).toArray, t, U', L, hT, X', hL, e1, e2, hq, st⟩
section
variable {y : MethodName} {bytes cc : ByteArray} {maxL nL mc ms n index : Nat} {ret : Option FieldType} {ws : List Cond} {rm : Room} {Pc : Array Value → State → Prop} {Qc : Array Value → State → Outcome → State → Prop} {XC : String → State → State → Prop} {free : Addr → Prop} {Ts : List Cond} {own C : String} {b : Addr} {As rest : List Value} {g : JFrame}
theorem vx_runVX {hh : List (Nat × Nat × Nat × Nat)} (S : CallFix p m c cc nL s args Ts own) (hM : vx_Met l y ws rm Pc Qc XC mc ms free) (cw : vx_CVW R s args own C index y bytes maxL ret hh ws rm mc ms n) (hp : PreV s H C b Pc As)
    (hg : g.method = m) (hn : As.length = n) (hsize : g.locals.size = nL) (hstack : g.stack = As.reverse ++ .ref b :: rest) (hW : 2 * g.monitorRoom + (rest.map fun v => v.category).sum ≤ 8) (hdg : decode cc g.pc = .ok (.invokevirtual index, 3)) (hf : cells + mc ≤ R.cells ∧ slots + ms ≤ R.slots) :
    vx_Run p l e R s m args below meth c H locs cells slots mc ms g rest (Qc (Value.ref b :: As).toArray) XC free := by
  obtain ⟨⟨hrc, hrs, hfr, hlo, hws, hcw⟩, hcode, hini, hy, hlen, hl, hin, hse⟩ := cw
  have hK : vx_Back l R p e below s args y 3 8 (PreOf R mc ms Pc) (PostOf Qc mc ms free) (vx_Post XC mc ms free) := vx_backW (hh := hh) (bytes := bytes) (maxL := maxL) (ret := ret) hM hp.1 hrc hrs hfr hlo hws hcw (fun a' U hW => word_at hW (Or.inl (by first | rfl | simp [Cond.onTables, Cond.keeps, Cond.steady])) hini)
  obtain ⟨hx, hb, hml, ho, -⟩ := S
  obtain ⟨-, ⟨cellB, hcB, hoB, hclB⟩, hPc⟩ := hp
  intro T hT X
  rcases vx_callVX X hx (C := C) (hh := hh) (bytes := bytes) (maxL := maxL) (ret := ret) ho hl hin hse hcode hy hK (by rw [hT]; exact hcB) hoB hclB hg (hsize.trans hml.symm) (argsL := As) (rest := rest) (fun sig h => hn.trans (hlen sig h)) hstack hW (by rw [hb]; exact hdg)
    (fun vm₁ hW₁ => ⟨hf.1, hf.2, hPc (T.setVm vm₁) hT hW₁⟩) with ⟨v, vm₁, ⟨U', l2, c2, s2⟩, hW₁, X', ⟨g', mk, t, L, e1, e2, hq, h1, hL, h2, h3⟩, st⟩ | ⟨q, vm₁, ⟨U', l2, c2, s2⟩, hW₁, X', ⟨g', mk, t, L, E, ce, e1, e2, hq, hce, hcv, hcl, h1, hL, h2, h3⟩, st⟩
  · dsimp only [Pt.U, Pt.locs, Pt.cells, Pt.slots] at X' e1 e2 h1 h2 h3 st
    subst h1; subst h2; subst h3
    exact Or.inl ⟨v, (T.setVm vm₁).calling g' mk (Value.ref b :: As).toArray, t, U', L, hT, X', hL, e1, e2, hq, st⟩
  · dsimp only [Pt.U, Pt.locs, Pt.cells, Pt.slots] at X' e1 e2 h1 h2 h3 st hcl
    subst h1; subst h2; subst h3
    exact Or.inr ⟨q, (T.setVm vm₁).calling g' mk (Value.ref b :: As).toArray, t, U', L, E, ce, hT, X', hL, e1, e2, hq, hce, hcv, vx_cls hW₁ hcl, st⟩
theorem vx_runSX {hh : List (Nat × Nat × Nat × Nat)} (S : CallFix p m c cc nL s args Ts own) (hM : vx_Met l y ws rm Pc Qc XC mc ms free) (cw : vx_CSW R s args own index y bytes maxL ret hh ws rm mc ms n) (hp : PreS s H Pc As)
    (hg : g.method = m) (hn : As.length = n) (hsize : g.locals.size = nL) (hstack : g.stack = As.reverse ++ rest) (hW : 2 * g.monitorRoom + (rest.map fun v => v.category).sum ≤ 8) (hdg : decode cc g.pc = .ok (.invokestatic index, 3)) (hf : cells + mc ≤ R.cells ∧ slots + ms ≤ R.slots) :
    vx_Run p l e R s m args below meth c H locs cells slots mc ms g rest (Qc As.toArray) XC free := by
  obtain ⟨⟨hrc, hrs, hfr, hlo, hws, hcw⟩, hcode, hini, hy, hlen, hl, hstt⟩ := cw
  have hK : vx_Back l R p e below s args y 3 8 (PreOf R mc ms Pc) (PostOf Qc mc ms free) (vx_Post XC mc ms free) := vx_backW (hh := hh) (bytes := bytes) (maxL := maxL) (ret := ret) hM hp.1 hrc hrs hfr hlo hws hcw (fun a' U hW => word_at hW (Or.inl (by first | rfl | simp [Cond.onTables, Cond.keeps, Cond.steady])) hini)
  obtain ⟨hx, hb, hml, ho, -⟩ := S
  intro T hT X
  rcases vx_callSX X hx (hh := hh) (bytes := bytes) (maxL := maxL) (ret := ret) ho hl hstt hini hcode hy hK hg (hsize.trans hml.symm) (argsL := As) (rest := rest) (fun sig h => hn.trans (hlen sig h)) hstack hW (by rw [hb]; exact hdg)
    (fun vm₁ hW₁ => ⟨hf.1, hf.2, hp.2 (T.setVm vm₁) hT hW₁⟩) with ⟨v, vm₁, ⟨U', l2, c2, s2⟩, hW₁, X', ⟨g', mk, t, L, e1, e2, hq, h1, hL, h2, h3⟩, st⟩ | ⟨q, vm₁, ⟨U', l2, c2, s2⟩, hW₁, X', ⟨g', mk, t, L, E, ce, e1, e2, hq, hce, hcv, hcl, h1, hL, h2, h3⟩, st⟩
  · dsimp only [Pt.U, Pt.locs, Pt.cells, Pt.slots] at X' e1 e2 h1 h2 h3 st
    subst h1; subst h2; subst h3
    exact Or.inl ⟨v, (T.setVm vm₁).calling g' mk As.toArray, t, U', L, hT, X', hL, e1, e2, hq, st⟩
  · dsimp only [Pt.U, Pt.locs, Pt.cells, Pt.slots] at X' e1 e2 h1 h2 h3 st hcl
    subst h1; subst h2; subst h3
    exact Or.inr ⟨q, (T.setVm vm₁).calling g' mk As.toArray, t, U', L, E, ce, hT, X', hL, e1, e2, hq, hce, hcv, vx_cls hW₁ hcl, st⟩
end
end VXH
theorem vx_ofWH {l : Launch} {y : MethodName} {ws ws' : List Cond} {rm : Room} {Pc : Array Value → State → Prop} {Qc : Array Value → State → Outcome → State → Prop} {XC : String → State → State → Prop} {mc ms : Nat} {free : Addr → Prop} {cc : ByteArray} {maxL : Nat} {ret : Option FieldType} {hh : List (Nat × Nat × Nat × Nat)}
    (hy : plainName y.cls = true) (hw : ws = Cond.codeWith y cc maxL ret hh :: ws')
    (body : ∀ p e s m args below meth c s₁, BodyLoose p l y (headSpec ws rm) cc maxL ret e s m args below meth c s₁ → c.maxLocals = maxL → Pc args s →
      W p l e (headSpec ws rm).room s m args below meth c s.heap [] 0 0 (vx_MQ below Qc XC args s mc ms free) (entryFrame m args maxL)) : vx_Met l y ws rm Pc Qc XC mc ms free := by
  refine MetFree.of_bodyS (code := cc) (maxLocals := maxL) (ret := ret) hy ?_ ?_
  · intro args s m h hn
    obtain ⟨m9, meth, c, hn9, h1, h2, h3, h4, -, h5, h6, -⟩ := Cond.codeWith_spec (atoms_spec (ws := ws) h _ (by rw [hw]; exact List.mem_cons_self))
    cases hn.symm.trans hn9
    exact ⟨meth, c, h1, h2, h3, h4, h5, h6⟩
  · intro p e s m args below meth c s₁ B hml hP _
    have hh0 : s₁.heap = s.heap := by rw [B.state]; rfl
    obtain ⟨t, a1, o, b1, b2, b3⟩ := body p e s m args below meth c s₁ B hml hP s₁ hh0 (Stand.of_body B)
    exact ⟨t, o, a1, b1, b2, b3⟩
/-! ===== END ===== -/
end
section
/-! NAMES, by program (wip/whole/names.py): the good words of the tables, by their places; methods; fields -/
def zT : List Cond := lw_tbl.filter goodWord
theorem zT_in {w : Cond} (h : w ∈ lw_tbl) (g : goodWord w = true) : w ∈ zT := List.mem_filter.mpr ⟨h, g⟩
theorem zT_good {w : Cond} (h : w ∈ zT) : (w.onTables && w.keeps) = true ∨ ∃ ty, w = .arrayClass ty := good_of_word (List.mem_filter.mp h).2
theorem zT_hts {args : Array Value} {s : State} (h : ∀ w ∈ lw_tbl, w.before args s = true) : ∀ w ∈ zT, w.before args s = true := fun w hw => h w (List.mem_filter.mp hw).1
def yK_init : MethodName := ⟨"PolynomialDesk", "<init>", "()V"⟩
abbrev bK_init : ByteArray := prog_1_method_1_code
def yR_init : MethodName := ⟨"PolynomialDesk$Ring", "<init>", "()V"⟩
abbrev bR_init : ByteArray := prog_4_method_1_code
def yR_prepare : MethodName := ⟨"PolynomialDesk$Ring", "prepare", "(III)V"⟩
abbrev bR_prepare : ByteArray := prog_4_method_2_code
def yJ_fill : MethodName := ⟨"java/util/Arrays", "fill", "([II)V"⟩
abbrev bJ_fill : ByteArray := prog_17_method_103_code
def yR_listMonomials : MethodName := ⟨"PolynomialDesk$Ring", "listMonomials", "(III)V"⟩
abbrev bR_listMonomials : ByteArray := prog_4_method_3_code
def yR_recordMonomial : MethodName := ⟨"PolynomialDesk$Ring", "recordMonomial", "(I)V"⟩
abbrev bR_recordMonomial : ByteArray := prog_4_method_4_code
def yE_init : MethodName := ⟨"PolynomialDesk$Reader", "<init>", "(LPolynomialDesk$Ring;)V"⟩
abbrev bE_init : ByteArray := prog_3_method_1_code
def yP_init : MethodName := ⟨"PolynomialDesk$Printer", "<init>", "(LPolynomialDesk$Ring;)V"⟩
abbrev bP_init : ByteArray := prog_2_method_1_code
def yK_put : MethodName := ⟨"PolynomialDesk", "put", "(JI)Z"⟩
abbrev bK_put : ByteArray := prog_1_method_3_code
def yE_takeBytes : MethodName := ⟨"PolynomialDesk$Reader", "takeBytes", "(JI)Z"⟩
abbrev bE_takeBytes : ByteArray := prog_3_method_2_code
def yK_fault : MethodName := ⟨"PolynomialDesk", "fault", "(I)I"⟩
abbrev bK_fault : ByteArray := prog_1_method_5_code
def yE_latestFault : MethodName := ⟨"PolynomialDesk$Reader", "latestFault", "()I"⟩
abbrev bE_latestFault : ByteArray := prog_3_method_3_code
def yE_latestPlace : MethodName := ⟨"PolynomialDesk$Reader", "latestPlace", "()I"⟩
abbrev bE_latestPlace : ByteArray := prog_3_method_4_code
def yK_about : MethodName := ⟨"PolynomialDesk", "about", "(II)I"⟩
abbrev bK_about : ByteArray := prog_1_method_11_code
def yK_isPolynomial : MethodName := ⟨"PolynomialDesk", "isPolynomial", "(I)Z"⟩
abbrev bK_isPolynomial : ByteArray := prog_1_method_15_code
def yR_countTerms : MethodName := ⟨"PolynomialDesk$Ring", "countTerms", "([I)I"⟩
abbrev bR_countTerms : ByteArray := prog_4_method_7_code
def yR_degreeOf : MethodName := ⟨"PolynomialDesk$Ring", "degreeOf", "([I)I"⟩
abbrev bR_degreeOf : ByteArray := prog_4_method_9_code
def yR_leadingOf : MethodName := ⟨"PolynomialDesk$Ring", "leadingOf", "([I)I"⟩
abbrev bR_leadingOf : ByteArray := prog_4_method_23_code
def yK_term : MethodName := ⟨"PolynomialDesk", "term", "(III)I"⟩
abbrev bK_term : ByteArray := prog_1_method_12_code
def yR_indexOfTerm : MethodName := ⟨"PolynomialDesk$Ring", "indexOfTerm", "([II)I"⟩
abbrev bR_indexOfTerm : ByteArray := prog_4_method_8_code
def yR_exponentOf : MethodName := ⟨"PolynomialDesk$Ring", "exponentOf", "(II)I"⟩
abbrev bR_exponentOf : ByteArray := prog_4_method_6_code
def yK_output : MethodName := ⟨"PolynomialDesk", "output", "(I)I"⟩
abbrev bK_output : ByteArray := prog_1_method_14_code
def yP_byteAt : MethodName := ⟨"PolynomialDesk$Printer", "byteAt", "(I)I"⟩
abbrev bP_byteAt : ByteArray := prog_2_method_3_code
def yL_field : MethodName := ⟨"PolynomialDeskLaw", "field", "(LPolynomialDesk;III)I"⟩
abbrev bL_field : ByteArray := method_3_code
def yK_field : MethodName := ⟨"PolynomialDesk", "field", "(III)V"⟩
abbrev bK_field : ByteArray := prog_1_method_2_code
def yK_isPrime : MethodName := ⟨"PolynomialDesk", "isPrime", "(I)Z"⟩
abbrev bK_isPrime : ByteArray := prog_1_method_18_code
def yP_clear : MethodName := ⟨"PolynomialDesk$Printer", "clear", "()V"⟩
abbrev bP_clear : ByteArray := prog_2_method_2_code
def yL_read : MethodName := ⟨"PolynomialDeskLaw", "read", "(LPolynomialDesk;I[J)I"⟩
abbrev bL_read : ByteArray := method_4_code
def yK_read : MethodName := ⟨"PolynomialDesk", "read", "(I)I"⟩
abbrev bK_read : ByteArray := prog_1_method_4_code
def yK_requirePolynomial : MethodName := ⟨"PolynomialDesk", "requirePolynomial", "(I)V"⟩
abbrev bK_requirePolynomial : ByteArray := prog_1_method_16_code
def yE_readText : MethodName := ⟨"PolynomialDesk$Reader", "readText", "([I)Z"⟩
abbrev bE_readText : ByteArray := prog_3_method_5_code
def yE_readSum : MethodName := ⟨"PolynomialDesk$Reader", "readSum", "(I)V"⟩
abbrev bE_readSum : ByteArray := prog_3_method_6_code
def yE_nextByte : MethodName := ⟨"PolynomialDesk$Reader", "nextByte", "()I"⟩
abbrev bE_nextByte : ByteArray := prog_3_method_12_code
def yE_readTerm : MethodName := ⟨"PolynomialDesk$Reader", "readTerm", "(I)V"⟩
abbrev bE_readTerm : ByteArray := prog_3_method_7_code
def yE_readFactor : MethodName := ⟨"PolynomialDesk$Reader", "readFactor", "(I)V"⟩
abbrev bE_readFactor : ByteArray := prog_3_method_8_code
def yE_readBareFactor : MethodName := ⟨"PolynomialDesk$Reader", "readBareFactor", "(I)V"⟩
abbrev bE_readBareFactor : ByteArray := prog_3_method_9_code
def yE_variableOf : MethodName := ⟨"PolynomialDesk$Reader", "variableOf", "(I)I"⟩
abbrev bE_variableOf : ByteArray := prog_3_method_16_code
def yE_isDigit : MethodName := ⟨"PolynomialDesk$Reader", "isDigit", "(I)Z"⟩
abbrev bE_isDigit : ByteArray := prog_3_method_15_code
def yE_readNumber : MethodName := ⟨"PolynomialDesk$Reader", "readNumber", "(I)I"⟩
abbrev bE_readNumber : ByteArray := prog_3_method_11_code
def yE_noteFault : MethodName := ⟨"PolynomialDesk$Reader", "noteFault", "(II)V"⟩
abbrev bE_noteFault : ByteArray := prog_3_method_13_code
def yR_writeNumber : MethodName := ⟨"PolynomialDesk$Ring", "writeNumber", "(I[I)V"⟩
abbrev bR_writeNumber : ByteArray := prog_4_method_12_code
def yR_reduce : MethodName := ⟨"PolynomialDesk$Ring", "reduce", "(I)I"⟩
abbrev bR_reduce : ByteArray := prog_4_method_24_code
def yR_addAt : MethodName := ⟨"PolynomialDesk$Ring", "addAt", "(II[I)V"⟩
abbrev bR_addAt : ByteArray := prog_4_method_22_code
def yR_variables : MethodName := ⟨"PolynomialDesk$Ring", "variables", "()I"⟩
abbrev bR_variables : ByteArray := prog_4_method_5_code
def yR_writeVariable : MethodName := ⟨"PolynomialDesk$Ring", "writeVariable", "(I[I)V"⟩
abbrev bR_writeVariable : ByteArray := prog_4_method_13_code
def yE_readGroup : MethodName := ⟨"PolynomialDesk$Reader", "readGroup", "(I)V"⟩
abbrev bE_readGroup : ByteArray := prog_3_method_10_code
def yR_writeCopy : MethodName := ⟨"PolynomialDesk$Ring", "writeCopy", "([I[I)V"⟩
abbrev bR_writeCopy : ByteArray := prog_4_method_14_code
def yR_isPowerTooHigh : MethodName := ⟨"PolynomialDesk$Ring", "isPowerTooHigh", "([II)Z"⟩
abbrev bR_isPowerTooHigh : ByteArray := prog_4_method_11_code
def yR_writePower : MethodName := ⟨"PolynomialDesk$Ring", "writePower", "([II[I)V"⟩
abbrev bR_writePower : ByteArray := prog_4_method_17_code
def yR_writeProduct : MethodName := ⟨"PolynomialDesk$Ring", "writeProduct", "([I[I[I)V"⟩
abbrev bR_writeProduct : ByteArray := prog_4_method_16_code
def yR_isProductTooHigh : MethodName := ⟨"PolynomialDesk$Ring", "isProductTooHigh", "([I[I)Z"⟩
abbrev bR_isProductTooHigh : ByteArray := prog_4_method_10_code
def yR_writeSum : MethodName := ⟨"PolynomialDesk$Ring", "writeSum", "([II[I[I)V"⟩
abbrev bR_writeSum : ByteArray := prog_4_method_15_code
def yE_isSign : MethodName := ⟨"PolynomialDesk$Reader", "isSign", "(I)Z"⟩
abbrev bE_isSign : ByteArray := prog_3_method_14_code
def yL_add : MethodName := ⟨"PolynomialDeskLaw", "add", "(LPolynomialDesk;IIII)I"⟩
abbrev bL_add : ByteArray := method_5_code
def yK_add : MethodName := ⟨"PolynomialDesk", "add", "(IIII)V"⟩
abbrev bK_add : ByteArray := prog_1_method_6_code
def yL_multiply : MethodName := ⟨"PolynomialDeskLaw", "multiply", "(LPolynomialDesk;III)I"⟩
abbrev bL_multiply : ByteArray := method_6_code
def yK_multiply : MethodName := ⟨"PolynomialDesk", "multiply", "(III)V"⟩
abbrev bK_multiply : ByteArray := prog_1_method_7_code
def yL_derive : MethodName := ⟨"PolynomialDeskLaw", "derive", "(LPolynomialDesk;III)I"⟩
abbrev bL_derive : ByteArray := method_7_code
def yK_derive : MethodName := ⟨"PolynomialDesk", "derive", "(III)V"⟩
abbrev bK_derive : ByteArray := prog_1_method_8_code
def yK_requireVariable : MethodName := ⟨"PolynomialDesk", "requireVariable", "(I)V"⟩
abbrev bK_requireVariable : ByteArray := prog_1_method_17_code
def yR_writeDerivative : MethodName := ⟨"PolynomialDesk$Ring", "writeDerivative", "([II[I)V"⟩
abbrev bR_writeDerivative : ByteArray := prog_4_method_18_code
def yL_set : MethodName := ⟨"PolynomialDeskLaw", "set", "(LPolynomialDesk;IIII)I"⟩
abbrev bL_set : ByteArray := method_8_code
def yK_set : MethodName := ⟨"PolynomialDesk", "set", "(IIII)V"⟩
abbrev bK_set : ByteArray := prog_1_method_9_code
def yR_writeSubstitute : MethodName := ⟨"PolynomialDesk$Ring", "writeSubstitute", "([III[I)V"⟩
abbrev bR_writeSubstitute : ByteArray := prog_4_method_19_code
def yR_timesPower : MethodName := ⟨"PolynomialDesk$Ring", "timesPower", "(III)I"⟩
abbrev bR_timesPower : ByteArray := prog_4_method_21_code
def yL_value : MethodName := ⟨"PolynomialDeskLaw", "value", "(LPolynomialDesk;IIIII[J)I"⟩
abbrev bL_value : ByteArray := method_9_code
def yK_value : MethodName := ⟨"PolynomialDesk", "value", "(IIIII)I"⟩
abbrev bK_value : ByteArray := prog_1_method_10_code
def yR_evaluate : MethodName := ⟨"PolynomialDesk$Ring", "evaluate", "([I[I)I"⟩
abbrev bR_evaluate : ByteArray := prog_4_method_20_code
def yL_print : MethodName := ⟨"PolynomialDeskLaw", "print", "(LPolynomialDesk;I[J)I"⟩
abbrev bL_print : ByteArray := method_10_code
def yK_print : MethodName := ⟨"PolynomialDesk", "print", "(I)I"⟩
abbrev bK_print : ByteArray := prog_1_method_13_code
def yP_writePolynomial : MethodName := ⟨"PolynomialDesk$Printer", "writePolynomial", "([I)I"⟩
abbrev bP_writePolynomial : ByteArray := prog_2_method_4_code
def yP_writeByte : MethodName := ⟨"PolynomialDesk$Printer", "writeByte", "(C)V"⟩
abbrev bP_writeByte : ByteArray := prog_2_method_7_code
def yP_writeTerm : MethodName := ⟨"PolynomialDesk$Printer", "writeTerm", "(II)V"⟩
abbrev bP_writeTerm : ByteArray := prog_2_method_5_code
def yP_writeNumber : MethodName := ⟨"PolynomialDesk$Printer", "writeNumber", "(I)V"⟩
abbrev bP_writeNumber : ByteArray := prog_2_method_6_code
def yM_init : MethodName := ⟨"PolynomialDeskModel", "<init>", "()V"⟩
abbrev bM_init : ByteArray := prog_6_method_1_code
def yM_prepare : MethodName := ⟨"PolynomialDeskModel", "prepare", "(III)V"⟩
abbrev bM_prepare : ByteArray := prog_6_method_4_code
def yM_list : MethodName := ⟨"PolynomialDeskModel", "list", "(I)V"⟩
abbrev bM_list : ByteArray := prog_6_method_5_code
def yM_isGreater : MethodName := ⟨"PolynomialDeskModel", "isGreater", "(II)Z"⟩
abbrev bM_isGreater : ByteArray := prog_6_method_6_code
def yM_thrown : MethodName := ⟨"PolynomialDeskModel", "thrown", "()I"⟩
abbrev bM_thrown : ByteArray := prog_6_method_2_code
def yM_field : MethodName := ⟨"PolynomialDeskModel", "field", "(III)V"⟩
abbrev bM_field : ByteArray := prog_6_method_7_code
def yM_isPrime : MethodName := ⟨"PolynomialDeskModel", "isPrime", "(I)Z"⟩
abbrev bM_isPrime : ByteArray := prog_6_method_3_code
def yM_put : MethodName := ⟨"PolynomialDeskModel", "put", "(JI)Z"⟩
abbrev bM_put : ByteArray := prog_6_method_18_code
def yM_read : MethodName := ⟨"PolynomialDeskModel", "read", "(I)I"⟩
abbrev bM_read : ByteArray := prog_6_method_31_code
def yM_isPolynomial : MethodName := ⟨"PolynomialDeskModel", "isPolynomial", "(I)Z"⟩
abbrev bM_isPolynomial : ByteArray := prog_6_method_33_code
def yM_begin : MethodName := ⟨"PolynomialDeskModel", "begin", "()V"⟩
abbrev bM_begin : ByteArray := prog_6_method_27_code
def yM_sum : MethodName := ⟨"PolynomialDeskModel", "sum", "()I"⟩
abbrev bM_sum : ByteArray := prog_6_method_19_code
def yM_clear : MethodName := ⟨"PolynomialDeskModel", "clear", "(I)V"⟩
abbrev bM_clear : ByteArray := prog_6_method_11_code
def yM_lay : MethodName := ⟨"PolynomialDeskModel", "lay", "(III)V"⟩
abbrev bM_lay : ByteArray := prog_6_method_10_code
def yM_here : MethodName := ⟨"PolynomialDeskModel", "here", "()I"⟩
abbrev bM_here : ByteArray := prog_6_method_22_code
def yM_readFactor : MethodName := ⟨"PolynomialDeskModel", "readFactor", "(I)V"⟩
abbrev bM_readFactor : ByteArray := prog_6_method_28_code
def yM_fail : MethodName := ⟨"PolynomialDeskModel", "fail", "(II)V"⟩
abbrev bM_fail : ByteArray := prog_6_method_23_code
def yM_variable : MethodName := ⟨"PolynomialDeskModel", "variable", "(I)I"⟩
abbrev bM_variable : ByteArray := prog_6_method_26_code
def yM_isDigit : MethodName := ⟨"PolynomialDeskModel", "isDigit", "(I)Z"⟩
abbrev bM_isDigit : ByteArray := prog_6_method_24_code
def yM_factor : MethodName := ⟨"PolynomialDeskModel", "factor", "()I"⟩
abbrev bM_factor : ByteArray := prog_6_method_21_code
def yM_number : MethodName := ⟨"PolynomialDeskModel", "number", "(I)J"⟩
abbrev bM_number : ByteArray := prog_6_method_25_code
def yM_modulo : MethodName := ⟨"PolynomialDeskModel", "modulo", "(J)I"⟩
abbrev bM_modulo : ByteArray := prog_6_method_8_code
def yM_readPower : MethodName := ⟨"PolynomialDeskModel", "readPower", "(I)V"⟩
abbrev bM_readPower : ByteArray := prog_6_method_29_code
def yM_degreeOf : MethodName := ⟨"PolynomialDeskModel", "degreeOf", "(I)I"⟩
abbrev bM_degreeOf : ByteArray := prog_6_method_13_code
def yM_cell : MethodName := ⟨"PolynomialDeskModel", "cell", "(II)I"⟩
abbrev bM_cell : ByteArray := prog_6_method_9_code
def yM_times : MethodName := ⟨"PolynomialDeskModel", "times", "(III)V"⟩
abbrev bM_times : ByteArray := prog_6_method_17_code
def yM_copy : MethodName := ⟨"PolynomialDeskModel", "copy", "(II)V"⟩
abbrev bM_copy : ByteArray := prog_6_method_12_code
def yM_goOn : MethodName := ⟨"PolynomialDeskModel", "goOn", "(I)V"⟩
abbrev bM_goOn : ByteArray := prog_6_method_30_code
def yM_product : MethodName := ⟨"PolynomialDeskModel", "product", "()I"⟩
abbrev bM_product : ByteArray := prog_6_method_20_code
def yM_isTooHigh : MethodName := ⟨"PolynomialDeskModel", "isTooHigh", "(II)Z"⟩
abbrev bM_isTooHigh : ByteArray := prog_6_method_16_code
def yM_addTo : MethodName := ⟨"PolynomialDeskModel", "addTo", "(III)V"⟩
abbrev bM_addTo : ByteArray := prog_6_method_15_code
def yM_terms : MethodName := ⟨"PolynomialDeskModel", "terms", "(I)I"⟩
abbrev bM_terms : ByteArray := prog_6_method_14_code
def yM_fault : MethodName := ⟨"PolynomialDeskModel", "fault", "(I)I"⟩
abbrev bM_fault : ByteArray := prog_6_method_32_code
def yM_add : MethodName := ⟨"PolynomialDeskModel", "add", "(IIII)V"⟩
abbrev bM_add : ByteArray := prog_6_method_35_code
def yM_lacks : MethodName := ⟨"PolynomialDeskModel", "lacks", "(IIZ)Z"⟩
abbrev bM_lacks : ByteArray := prog_6_method_34_code
def yM_multiply : MethodName := ⟨"PolynomialDeskModel", "multiply", "(III)V"⟩
abbrev bM_multiply : ByteArray := prog_6_method_36_code
def yM_derive : MethodName := ⟨"PolynomialDeskModel", "derive", "(III)V"⟩
abbrev bM_derive : ByteArray := prog_6_method_37_code
def yM_set : MethodName := ⟨"PolynomialDeskModel", "set", "(IIII)V"⟩
abbrev bM_set : ByteArray := prog_6_method_39_code
def yM_power : MethodName := ⟨"PolynomialDeskModel", "power", "(II)I"⟩
abbrev bM_power : ByteArray := prog_6_method_38_code
def yM_value : MethodName := ⟨"PolynomialDeskModel", "value", "(IIIII)I"⟩
abbrev bM_value : ByteArray := prog_6_method_40_code
def yM_about : MethodName := ⟨"PolynomialDeskModel", "about", "(II)I"⟩
abbrev bM_about : ByteArray := prog_6_method_41_code
def yM_term : MethodName := ⟨"PolynomialDeskModel", "term", "(III)I"⟩
abbrev bM_term : ByteArray := prog_6_method_43_code
def yM_placeOf : MethodName := ⟨"PolynomialDeskModel", "placeOf", "(II)I"⟩
abbrev bM_placeOf : ByteArray := prog_6_method_42_code
def yM_print : MethodName := ⟨"PolynomialDeskModel", "print", "(I)I"⟩
abbrev bM_print : ByteArray := prog_6_method_47_code
def yM_say : MethodName := ⟨"PolynomialDeskModel", "say", "(I)V"⟩
abbrev bM_say : ByteArray := prog_6_method_44_code
def yM_sayTerm : MethodName := ⟨"PolynomialDeskModel", "sayTerm", "(II)V"⟩
abbrev bM_sayTerm : ByteArray := prog_6_method_46_code
def yM_sayNumber : MethodName := ⟨"PolynomialDeskModel", "sayNumber", "(I)V"⟩
abbrev bM_sayNumber : ByteArray := prog_6_method_45_code
def yM_output : MethodName := ⟨"PolynomialDeskModel", "output", "(I)I"⟩
abbrev bM_output : ByteArray := prog_6_method_48_code
abbrev bL_law : ByteArray := code
abbrev kK_init : Cond := .code yK_init bK_init 1 none
theorem mk_K_init : kK_init ∈ zT := zT_in (List.mem_append_right _ (List.mem_append_left _ (List.mem_of_getElem? (l := tables_1_1) (i := 22) rfl))) rfl
abbrev wK_init : List Cond := kK_init :: zT
abbrev kR_init : Cond := .code yR_init bR_init 1 none
theorem mk_R_init : kR_init ∈ zT := zT_in (List.mem_append_right _ (List.mem_append_left _ (List.mem_of_getElem? (l := tables_1_1) (i := 30) rfl))) rfl
abbrev wR_init : List Cond := kR_init :: zT
abbrev kR_prepare : Cond := .code yR_prepare bR_prepare 6 none
theorem mk_R_prepare : kR_prepare ∈ zT := zT_in (List.mem_append_right _ (List.mem_append_left _ (List.mem_of_getElem? (l := tables_1_1) (i := 78) rfl))) rfl
abbrev wR_prepare : List Cond := kR_prepare :: zT
abbrev kJ_fill : Cond := .code yJ_fill bJ_fill 4 none
theorem mk_J_fill : kJ_fill ∈ zT := zT_in (List.mem_append_right _ (List.mem_append_left _ (List.mem_of_getElem? (l := tables_1_1) (i := 83) rfl))) rfl
abbrev wJ_fill : List Cond := kJ_fill :: zT
abbrev kR_listMonomials : Cond := .code yR_listMonomials bR_listMonomials 7 none
theorem mk_R_listMonomials : kR_listMonomials ∈ zT := zT_in (List.mem_append_right _ (List.mem_append_left _ (List.mem_of_getElem? (l := tables_1_1) (i := 87) rfl))) rfl
abbrev wR_listMonomials : List Cond := kR_listMonomials :: zT
abbrev kR_recordMonomial : Cond := .code yR_recordMonomial bR_recordMonomial 4 none
theorem mk_R_recordMonomial : kR_recordMonomial ∈ zT := zT_in (List.mem_append_right _ (List.mem_append_left _ (List.mem_of_getElem? (l := tables_1_1) (i := 91) rfl))) rfl
abbrev wR_recordMonomial : List Cond := kR_recordMonomial :: zT
abbrev kE_init : Cond := .code yE_init bE_init 2 none
theorem mk_E_init : kE_init ∈ zT := zT_in (List.mem_append_right _ (List.mem_append_left _ (List.mem_of_getElem? (l := tables_1_1) (i := 96) rfl))) rfl
abbrev wE_init : List Cond := kE_init :: zT
abbrev kP_init : Cond := .code yP_init bP_init 2 none
theorem mk_P_init : kP_init ∈ zT := zT_in (List.mem_append_right _ (List.mem_append_left _ (List.mem_of_getElem? (l := tables_1_1) (i := 132) rfl))) rfl
abbrev wP_init : List Cond := kP_init :: zT
abbrev kK_put : Cond := .code yK_put bK_put 4 (some .boolean)
theorem mk_K_put : kK_put ∈ zT := zT_in (List.mem_append_right _ (List.mem_append_left _ (List.mem_of_getElem? (l := tables_1_1) (i := 164) rfl))) rfl
abbrev wK_put : List Cond := kK_put :: zT
abbrev kE_takeBytes : Cond := .code yE_takeBytes bE_takeBytes 5 (some .boolean)
theorem mk_E_takeBytes : kE_takeBytes ∈ zT := zT_in (List.mem_append_right _ (List.mem_append_left _ (List.mem_of_getElem? (l := tables_1_1) (i := 168) rfl))) rfl
abbrev wE_takeBytes : List Cond := kE_takeBytes :: zT
abbrev kK_fault : Cond := .code yK_fault bK_fault 2 (some .int)
theorem mk_K_fault : kK_fault ∈ zT := zT_in (List.mem_append_right _ (List.mem_append_left _ (List.mem_of_getElem? (l := tables_1_1) (i := 173) rfl))) rfl
abbrev wK_fault : List Cond := kK_fault :: zT
abbrev kE_latestFault : Cond := .code yE_latestFault bE_latestFault 1 (some .int)
theorem mk_E_latestFault : kE_latestFault ∈ zT := zT_in (List.mem_append_right _ (List.mem_append_left _ (List.mem_of_getElem? (l := tables_1_1) (i := 177) rfl))) rfl
abbrev wE_latestFault : List Cond := kE_latestFault :: zT
abbrev kE_latestPlace : Cond := .code yE_latestPlace bE_latestPlace 1 (some .int)
theorem mk_E_latestPlace : kE_latestPlace ∈ zT := zT_in (List.mem_append_right _ (List.mem_append_left _ (List.mem_of_getElem? (l := tables_1_1) (i := 181) rfl))) rfl
abbrev wE_latestPlace : List Cond := kE_latestPlace :: zT
abbrev kK_about : Cond := .code yK_about bK_about 3 (some .int)
theorem mk_K_about : kK_about ∈ zT := zT_in (List.mem_append_right _ (List.mem_append_left _ (List.mem_of_getElem? (l := tables_1_1) (i := 185) rfl))) rfl
abbrev wK_about : List Cond := kK_about :: zT
abbrev kK_isPolynomial : Cond := .code yK_isPolynomial bK_isPolynomial 1 (some .boolean)
theorem mk_K_isPolynomial : kK_isPolynomial ∈ zT := zT_in (List.mem_append_right _ (List.mem_append_left _ (List.mem_of_getElem? (l := tables_1_1) (i := 188) rfl))) rfl
abbrev wK_isPolynomial : List Cond := kK_isPolynomial :: zT
abbrev kR_countTerms : Cond := .code yR_countTerms bR_countTerms 4 (some .int)
theorem mk_R_countTerms : kR_countTerms ∈ zT := zT_in (List.mem_append_right _ (List.mem_append_left _ (List.mem_of_getElem? (l := tables_1_1) (i := 192) rfl))) rfl
abbrev wR_countTerms : List Cond := kR_countTerms :: zT
abbrev kR_degreeOf : Cond := .code yR_degreeOf bR_degreeOf 3 (some .int)
theorem mk_R_degreeOf : kR_degreeOf ∈ zT := zT_in (List.mem_append_right _ (List.mem_append_left _ (List.mem_of_getElem? (l := tables_1_1) (i := 196) rfl))) rfl
abbrev wR_degreeOf : List Cond := kR_degreeOf :: zT
abbrev kR_leadingOf : Cond := .code yR_leadingOf bR_leadingOf 3 (some .int)
theorem mk_R_leadingOf : kR_leadingOf ∈ zT := zT_in (List.mem_append_right _ (List.mem_append_left _ (List.mem_of_getElem? (l := tables_1_1) (i := 200) rfl))) rfl
abbrev wR_leadingOf : List Cond := kR_leadingOf :: zT
abbrev kK_term : Cond := .code yK_term bK_term 5 (some .int)
theorem mk_K_term : kK_term ∈ zT := zT_in (List.mem_append_right _ (List.mem_append_left _ (List.mem_of_getElem? (l := tables_1_1) (i := 204) rfl))) rfl
abbrev wK_term : List Cond := kK_term :: zT
abbrev kR_indexOfTerm : Cond := .code yR_indexOfTerm bR_indexOfTerm 5 (some .int)
theorem mk_R_indexOfTerm : kR_indexOfTerm ∈ zT := zT_in (List.mem_append_right _ (List.mem_append_left _ (List.mem_of_getElem? (l := tables_1_1) (i := 208) rfl))) rfl
abbrev wR_indexOfTerm : List Cond := kR_indexOfTerm :: zT
abbrev kR_exponentOf : Cond := .code yR_exponentOf bR_exponentOf 3 (some .int)
theorem mk_R_exponentOf : kR_exponentOf ∈ zT := zT_in (List.mem_append_right _ (List.mem_append_left _ (List.mem_of_getElem? (l := tables_1_1) (i := 212) rfl))) rfl
abbrev wR_exponentOf : List Cond := kR_exponentOf :: zT
abbrev kK_output : Cond := .code yK_output bK_output 2 (some .int)
theorem mk_K_output : kK_output ∈ zT := zT_in (List.mem_append_right _ (List.mem_append_left _ (List.mem_of_getElem? (l := tables_1_1) (i := 216) rfl))) rfl
abbrev wK_output : List Cond := kK_output :: zT
abbrev kP_byteAt : Cond := .code yP_byteAt bP_byteAt 2 (some .int)
theorem mk_P_byteAt : kP_byteAt ∈ zT := zT_in (List.mem_append_right _ (List.mem_append_left _ (List.mem_of_getElem? (l := tables_1_1) (i := 220) rfl))) rfl
abbrev wP_byteAt : List Cond := kP_byteAt :: zT
abbrev kL_field : Cond := .codeWith yL_field bL_field 5 (some .int) [(0, 7, 10, 13)]
abbrev kK_field : Cond := .code yK_field bK_field 5 none
theorem mk_K_field : kK_field ∈ zT := zT_in (List.mem_append_right _ (List.mem_append_left _ (List.mem_of_getElem? (l := tables_1_1) (i := 228) rfl))) rfl
abbrev wK_field : List Cond := kK_field :: zT
abbrev kK_isPrime : Cond := .code yK_isPrime bK_isPrime 2 (some .boolean)
theorem mk_K_isPrime : kK_isPrime ∈ zT := zT_in (List.mem_append_right _ (List.mem_append_left _ (List.mem_of_getElem? (l := tables_1_1) (i := 231) rfl))) rfl
abbrev wK_isPrime : List Cond := kK_isPrime :: zT
abbrev kP_clear : Cond := .code yP_clear bP_clear 1 none
theorem mk_P_clear : kP_clear ∈ zT := zT_in (List.mem_append_right _ (List.mem_append_right _ (List.mem_append_left _ (List.mem_of_getElem? (l := tables_1_2) (i := 66) rfl)))) rfl
abbrev wP_clear : List Cond := kP_clear :: zT
abbrev kL_read : Cond := .codeWith yL_read bL_read 4 (some .int) [(0, 9, 12, 19), (0, 9, 15, 13)]
abbrev kK_read : Cond := .code yK_read bK_read 2 (some .int)
theorem mk_K_read : kK_read ∈ zT := zT_in (List.mem_append_right _ (List.mem_append_right _ (List.mem_append_left _ (List.mem_of_getElem? (l := tables_1_2) (i := 74) rfl)))) rfl
abbrev wK_read : List Cond := kK_read :: zT
abbrev kK_requirePolynomial : Cond := .code yK_requirePolynomial bK_requirePolynomial 1 none
theorem mk_K_requirePolynomial : kK_requirePolynomial ∈ zT := zT_in (List.mem_append_right _ (List.mem_append_right _ (List.mem_append_left _ (List.mem_of_getElem? (l := tables_1_2) (i := 77) rfl)))) rfl
abbrev wK_requirePolynomial : List Cond := kK_requirePolynomial :: zT
abbrev kE_readText : Cond := .code yE_readText bE_readText 2 (some .boolean)
theorem mk_E_readText : kE_readText ∈ zT := zT_in (List.mem_append_right _ (List.mem_append_right _ (List.mem_append_left _ (List.mem_of_getElem? (l := tables_1_2) (i := 97) rfl)))) rfl
abbrev wE_readText : List Cond := kE_readText :: zT
abbrev kE_readSum : Cond := .code yE_readSum bE_readSum 5 none
theorem mk_E_readSum : kE_readSum ∈ zT := zT_in (List.mem_append_right _ (List.mem_append_right _ (List.mem_append_left _ (List.mem_of_getElem? (l := tables_1_2) (i := 101) rfl)))) rfl
abbrev wE_readSum : List Cond := kE_readSum :: zT
abbrev kE_nextByte : Cond := .code yE_nextByte bE_nextByte 1 (some .int)
theorem mk_E_nextByte : kE_nextByte ∈ zT := zT_in (List.mem_append_right _ (List.mem_append_right _ (List.mem_append_left _ (List.mem_of_getElem? (l := tables_1_2) (i := 106) rfl)))) rfl
abbrev wE_nextByte : List Cond := kE_nextByte :: zT
abbrev kE_readTerm : Cond := .code yE_readTerm bE_readTerm 5 none
theorem mk_E_readTerm : kE_readTerm ∈ zT := zT_in (List.mem_append_right _ (List.mem_append_right _ (List.mem_append_left _ (List.mem_of_getElem? (l := tables_1_2) (i := 110) rfl)))) rfl
abbrev wE_readTerm : List Cond := kE_readTerm :: zT
abbrev kE_readFactor : Cond := .code yE_readFactor bE_readFactor 4 none
theorem mk_E_readFactor : kE_readFactor ∈ zT := zT_in (List.mem_append_right _ (List.mem_append_right _ (List.mem_append_left _ (List.mem_of_getElem? (l := tables_1_2) (i := 114) rfl)))) rfl
abbrev wE_readFactor : List Cond := kE_readFactor :: zT
abbrev kE_readBareFactor : Cond := .code yE_readBareFactor bE_readBareFactor 4 none
theorem mk_E_readBareFactor : kE_readBareFactor ∈ zT := zT_in (List.mem_append_right _ (List.mem_append_right _ (List.mem_append_left _ (List.mem_of_getElem? (l := tables_1_2) (i := 118) rfl)))) rfl
abbrev wE_readBareFactor : List Cond := kE_readBareFactor :: zT
abbrev kE_variableOf : Cond := .code yE_variableOf bE_variableOf 1 (some .int)
theorem mk_E_variableOf : kE_variableOf ∈ zT := zT_in (List.mem_append_right _ (List.mem_append_right _ (List.mem_append_left _ (List.mem_of_getElem? (l := tables_1_2) (i := 121) rfl)))) rfl
abbrev wE_variableOf : List Cond := kE_variableOf :: zT
abbrev kE_isDigit : Cond := .code yE_isDigit bE_isDigit 1 (some .boolean)
theorem mk_E_isDigit : kE_isDigit ∈ zT := zT_in (List.mem_append_right _ (List.mem_append_right _ (List.mem_append_left _ (List.mem_of_getElem? (l := tables_1_2) (i := 124) rfl)))) rfl
abbrev wE_isDigit : List Cond := kE_isDigit :: zT
abbrev kE_readNumber : Cond := .code yE_readNumber bE_readNumber 4 (some .int)
theorem mk_E_readNumber : kE_readNumber ∈ zT := zT_in (List.mem_append_right _ (List.mem_append_right _ (List.mem_append_left _ (List.mem_of_getElem? (l := tables_1_2) (i := 128) rfl)))) rfl
abbrev wE_readNumber : List Cond := kE_readNumber :: zT
abbrev kE_noteFault : Cond := .code yE_noteFault bE_noteFault 3 none
theorem mk_E_noteFault : kE_noteFault ∈ zT := zT_in (List.mem_append_right _ (List.mem_append_right _ (List.mem_append_left _ (List.mem_of_getElem? (l := tables_1_2) (i := 132) rfl)))) rfl
abbrev wE_noteFault : List Cond := kE_noteFault :: zT
abbrev kR_writeNumber : Cond := .code yR_writeNumber bR_writeNumber 3 none
theorem mk_R_writeNumber : kR_writeNumber ∈ zT := zT_in (List.mem_append_right _ (List.mem_append_right _ (List.mem_append_left _ (List.mem_of_getElem? (l := tables_1_2) (i := 136) rfl)))) rfl
abbrev wR_writeNumber : List Cond := kR_writeNumber :: zT
abbrev kR_reduce : Cond := .code yR_reduce bR_reduce 3 (some .int)
theorem mk_R_reduce : kR_reduce ∈ zT := zT_in (List.mem_append_right _ (List.mem_append_right _ (List.mem_append_left _ (List.mem_of_getElem? (l := tables_1_2) (i := 140) rfl)))) rfl
abbrev wR_reduce : List Cond := kR_reduce :: zT
abbrev kR_addAt : Cond := .code yR_addAt bR_addAt 5 none
theorem mk_R_addAt : kR_addAt ∈ zT := zT_in (List.mem_append_right _ (List.mem_append_right _ (List.mem_append_left _ (List.mem_of_getElem? (l := tables_1_2) (i := 144) rfl)))) rfl
abbrev wR_addAt : List Cond := kR_addAt :: zT
abbrev kR_variables : Cond := .code yR_variables bR_variables 1 (some .int)
theorem mk_R_variables : kR_variables ∈ zT := zT_in (List.mem_append_right _ (List.mem_append_right _ (List.mem_append_left _ (List.mem_of_getElem? (l := tables_1_2) (i := 148) rfl)))) rfl
abbrev wR_variables : List Cond := kR_variables :: zT
abbrev kR_writeVariable : Cond := .code yR_writeVariable bR_writeVariable 3 none
theorem mk_R_writeVariable : kR_writeVariable ∈ zT := zT_in (List.mem_append_right _ (List.mem_append_right _ (List.mem_append_left _ (List.mem_of_getElem? (l := tables_1_2) (i := 152) rfl)))) rfl
abbrev wR_writeVariable : List Cond := kR_writeVariable :: zT
abbrev kE_readGroup : Cond := .code yE_readGroup bE_readGroup 2 none
theorem mk_E_readGroup : kE_readGroup ∈ zT := zT_in (List.mem_append_right _ (List.mem_append_right _ (List.mem_append_left _ (List.mem_of_getElem? (l := tables_1_2) (i := 156) rfl)))) rfl
abbrev wE_readGroup : List Cond := kE_readGroup :: zT
abbrev kR_writeCopy : Cond := .code yR_writeCopy bR_writeCopy 3 none
theorem mk_R_writeCopy : kR_writeCopy ∈ zT := zT_in (List.mem_append_right _ (List.mem_append_right _ (List.mem_append_left _ (List.mem_of_getElem? (l := tables_1_2) (i := 160) rfl)))) rfl
abbrev wR_writeCopy : List Cond := kR_writeCopy :: zT
abbrev kR_isPowerTooHigh : Cond := .code yR_isPowerTooHigh bR_isPowerTooHigh 4 (some .boolean)
theorem mk_R_isPowerTooHigh : kR_isPowerTooHigh ∈ zT := zT_in (List.mem_append_right _ (List.mem_append_right _ (List.mem_append_left _ (List.mem_of_getElem? (l := tables_1_2) (i := 167) rfl)))) rfl
abbrev wR_isPowerTooHigh : List Cond := kR_isPowerTooHigh :: zT
abbrev kR_writePower : Cond := .code yR_writePower bR_writePower 5 none
theorem mk_R_writePower : kR_writePower ∈ zT := zT_in (List.mem_append_right _ (List.mem_append_right _ (List.mem_append_left _ (List.mem_of_getElem? (l := tables_1_2) (i := 172) rfl)))) rfl
abbrev wR_writePower : List Cond := kR_writePower :: zT
abbrev kR_writeProduct : Cond := .code yR_writeProduct bR_writeProduct 7 none
theorem mk_R_writeProduct : kR_writeProduct ∈ zT := zT_in (List.mem_append_right _ (List.mem_append_right _ (List.mem_append_left _ (List.mem_of_getElem? (l := tables_1_2) (i := 177) rfl)))) rfl
abbrev wR_writeProduct : List Cond := kR_writeProduct :: zT
abbrev kR_isProductTooHigh : Cond := .code yR_isProductTooHigh bR_isProductTooHigh 5 (some .boolean)
theorem mk_R_isProductTooHigh : kR_isProductTooHigh ∈ zT := zT_in (List.mem_append_right _ (List.mem_append_right _ (List.mem_append_left _ (List.mem_of_getElem? (l := tables_1_2) (i := 181) rfl)))) rfl
abbrev wR_isProductTooHigh : List Cond := kR_isProductTooHigh :: zT
abbrev kR_writeSum : Cond := .code yR_writeSum bR_writeSum 7 none
theorem mk_R_writeSum : kR_writeSum ∈ zT := zT_in (List.mem_append_right _ (List.mem_append_right _ (List.mem_append_left _ (List.mem_of_getElem? (l := tables_1_2) (i := 186) rfl)))) rfl
abbrev wR_writeSum : List Cond := kR_writeSum :: zT
abbrev kE_isSign : Cond := .code yE_isSign bE_isSign 1 (some .boolean)
theorem mk_E_isSign : kE_isSign ∈ zT := zT_in (List.mem_append_right _ (List.mem_append_right _ (List.mem_append_left _ (List.mem_of_getElem? (l := tables_1_2) (i := 189) rfl)))) rfl
abbrev wE_isSign : List Cond := kE_isSign :: zT
abbrev kL_add : Cond := .codeWith yL_add bL_add 6 (some .int) [(0, 9, 12, 19)]
abbrev kK_add : Cond := .code yK_add bK_add 5 none
theorem mk_K_add : kK_add ∈ zT := zT_in (List.mem_append_right _ (List.mem_append_right _ (List.mem_append_left _ (List.mem_of_getElem? (l := tables_1_2) (i := 197) rfl)))) rfl
abbrev wK_add : List Cond := kK_add :: zT
abbrev kL_multiply : Cond := .codeWith yL_multiply bL_multiply 5 (some .int) [(0, 7, 10, 19), (0, 7, 14, 28)]
abbrev kK_multiply : Cond := .code yK_multiply bK_multiply 4 none
theorem mk_K_multiply : kK_multiply ∈ zT := zT_in (List.mem_append_right _ (List.mem_append_right _ (List.mem_append_left _ (List.mem_of_getElem? (l := tables_1_2) (i := 206) rfl)))) rfl
abbrev wK_multiply : List Cond := kK_multiply :: zT
abbrev kL_derive : Cond := .codeWith yL_derive bL_derive 5 (some .int) [(0, 7, 10, 19)]
abbrev kK_derive : Cond := .code yK_derive bK_derive 4 none
theorem mk_K_derive : kK_derive ∈ zT := zT_in (List.mem_append_right _ (List.mem_append_right _ (List.mem_append_left _ (List.mem_of_getElem? (l := tables_1_2) (i := 231) rfl)))) rfl
abbrev wK_derive : List Cond := kK_derive :: zT
abbrev kK_requireVariable : Cond := .code yK_requireVariable bK_requireVariable 2 none
theorem mk_K_requireVariable : kK_requireVariable ∈ zT := zT_in (List.mem_append_right _ (List.mem_append_right _ (List.mem_append_left _ (List.mem_of_getElem? (l := tables_1_2) (i := 235) rfl)))) rfl
abbrev wK_requireVariable : List Cond := kK_requireVariable :: zT
abbrev kR_writeDerivative : Cond := .code yR_writeDerivative bR_writeDerivative 6 none
theorem mk_R_writeDerivative : kR_writeDerivative ∈ zT := zT_in (List.mem_append_right _ (List.mem_append_right _ (List.mem_append_right _ (List.mem_append_left _ (List.mem_of_getElem? (l := tables_1_3) (i := 1) rfl))))) rfl
abbrev wR_writeDerivative : List Cond := kR_writeDerivative :: zT
abbrev kL_set : Cond := .codeWith yL_set bL_set 6 (some .int) [(0, 9, 12, 19)]
abbrev kK_set : Cond := .code yK_set bK_set 5 none
theorem mk_K_set : kK_set ∈ zT := zT_in (List.mem_append_right _ (List.mem_append_right _ (List.mem_append_right _ (List.mem_append_left _ (List.mem_of_getElem? (l := tables_1_3) (i := 9) rfl))))) rfl
abbrev wK_set : List Cond := kK_set :: zT
abbrev kR_writeSubstitute : Cond := .code yR_writeSubstitute bR_writeSubstitute 8 none
theorem mk_R_writeSubstitute : kR_writeSubstitute ∈ zT := zT_in (List.mem_append_right _ (List.mem_append_right _ (List.mem_append_right _ (List.mem_append_left _ (List.mem_of_getElem? (l := tables_1_3) (i := 13) rfl))))) rfl
abbrev wR_writeSubstitute : List Cond := kR_writeSubstitute :: zT
abbrev kR_timesPower : Cond := .code yR_timesPower bR_timesPower 6 (some .int)
theorem mk_R_timesPower : kR_timesPower ∈ zT := zT_in (List.mem_append_right _ (List.mem_append_right _ (List.mem_append_right _ (List.mem_append_left _ (List.mem_of_getElem? (l := tables_1_3) (i := 17) rfl))))) rfl
abbrev wR_timesPower : List Cond := kR_timesPower :: zT
abbrev kL_value : Cond := .codeWith yL_value bL_value 8 (some .int) [(0, 16, 19, 19)]
abbrev kK_value : Cond := .code yK_value bK_value 6 (some .int)
theorem mk_K_value : kK_value ∈ zT := zT_in (List.mem_append_right _ (List.mem_append_right _ (List.mem_append_right _ (List.mem_append_left _ (List.mem_of_getElem? (l := tables_1_3) (i := 24) rfl))))) rfl
abbrev wK_value : List Cond := kK_value :: zT
abbrev kR_evaluate : Cond := .code yR_evaluate bR_evaluate 7 (some .int)
theorem mk_R_evaluate : kR_evaluate ∈ zT := zT_in (List.mem_append_right _ (List.mem_append_right _ (List.mem_append_right _ (List.mem_append_left _ (List.mem_of_getElem? (l := tables_1_3) (i := 28) rfl))))) rfl
abbrev wR_evaluate : List Cond := kR_evaluate :: zT
abbrev kL_print : Cond := .codeWith yL_print bL_print 4 (some .int) [(0, 9, 12, 19)]
abbrev kK_print : Cond := .code yK_print bK_print 2 (some .int)
theorem mk_K_print : kK_print ∈ zT := zT_in (List.mem_append_right _ (List.mem_append_right _ (List.mem_append_right _ (List.mem_append_left _ (List.mem_of_getElem? (l := tables_1_3) (i := 35) rfl))))) rfl
abbrev wK_print : List Cond := kK_print :: zT
abbrev kP_writePolynomial : Cond := .code yP_writePolynomial bP_writePolynomial 3 (some .int)
theorem mk_P_writePolynomial : kP_writePolynomial ∈ zT := zT_in (List.mem_append_right _ (List.mem_append_right _ (List.mem_append_right _ (List.mem_append_left _ (List.mem_of_getElem? (l := tables_1_3) (i := 39) rfl))))) rfl
abbrev wP_writePolynomial : List Cond := kP_writePolynomial :: zT
abbrev kP_writeByte : Cond := .code yP_writeByte bP_writeByte 2 none
theorem mk_P_writeByte : kP_writeByte ∈ zT := zT_in (List.mem_append_right _ (List.mem_append_right _ (List.mem_append_right _ (List.mem_append_left _ (List.mem_of_getElem? (l := tables_1_3) (i := 44) rfl))))) rfl
abbrev wP_writeByte : List Cond := kP_writeByte :: zT
abbrev kP_writeTerm : Cond := .code yP_writeTerm bP_writeTerm 6 none
theorem mk_P_writeTerm : kP_writeTerm ∈ zT := zT_in (List.mem_append_right _ (List.mem_append_right _ (List.mem_append_right _ (List.mem_append_left _ (List.mem_of_getElem? (l := tables_1_3) (i := 48) rfl))))) rfl
abbrev wP_writeTerm : List Cond := kP_writeTerm :: zT
abbrev kP_writeNumber : Cond := .code yP_writeNumber bP_writeNumber 5 none
theorem mk_P_writeNumber : kP_writeNumber ∈ zT := zT_in (List.mem_append_right _ (List.mem_append_right _ (List.mem_append_right _ (List.mem_append_left _ (List.mem_of_getElem? (l := tables_1_3) (i := 52) rfl))))) rfl
abbrev wP_writeNumber : List Cond := kP_writeNumber :: zT
abbrev kM_init : Cond := .code yM_init bM_init 1 none
theorem mk_M_init : kM_init ∈ zT := zT_in (List.mem_append_right _ (List.mem_append_right _ (List.mem_append_right _ (List.mem_append_left _ (List.mem_of_getElem? (l := tables_1_3) (i := 99) rfl))))) rfl
abbrev wM_init : List Cond := kM_init :: zT
abbrev kM_prepare : Cond := .code yM_prepare bM_prepare 7 none
theorem mk_M_prepare : kM_prepare ∈ zT := zT_in (List.mem_append_right _ (List.mem_append_right _ (List.mem_append_right _ (List.mem_append_left _ (List.mem_of_getElem? (l := tables_1_3) (i := 105) rfl))))) rfl
abbrev wM_prepare : List Cond := kM_prepare :: zT
abbrev kM_list : Cond := .code yM_list bM_list 3 none
theorem mk_M_list : kM_list ∈ zT := zT_in (List.mem_append_right _ (List.mem_append_right _ (List.mem_append_right _ (List.mem_append_left _ (List.mem_of_getElem? (l := tables_1_3) (i := 109) rfl))))) rfl
abbrev wM_list : List Cond := kM_list :: zT
abbrev kM_isGreater : Cond := .code yM_isGreater bM_isGreater 6 (some .boolean)
theorem mk_M_isGreater : kM_isGreater ∈ zT := zT_in (List.mem_append_right _ (List.mem_append_right _ (List.mem_append_right _ (List.mem_append_left _ (List.mem_of_getElem? (l := tables_1_3) (i := 113) rfl))))) rfl
abbrev wM_isGreater : List Cond := kM_isGreater :: zT
abbrev kM_thrown : Cond := .code yM_thrown bM_thrown 1 (some .int)
theorem mk_M_thrown : kM_thrown ∈ zT := zT_in (List.mem_append_right _ (List.mem_append_right _ (List.mem_append_right _ (List.mem_append_left _ (List.mem_of_getElem? (l := tables_1_3) (i := 199) rfl))))) rfl
abbrev wM_thrown : List Cond := kM_thrown :: zT
abbrev kM_field : Cond := .code yM_field bM_field 4 none
theorem mk_M_field : kM_field ∈ zT := zT_in (List.mem_append_right _ (List.mem_append_right _ (List.mem_append_right _ (List.mem_append_left _ (List.mem_of_getElem? (l := tables_1_3) (i := 203) rfl))))) rfl
abbrev wM_field : List Cond := kM_field :: zT
abbrev kM_isPrime : Cond := .code yM_isPrime bM_isPrime 2 (some .boolean)
theorem mk_M_isPrime : kM_isPrime ∈ zT := zT_in (List.mem_append_right _ (List.mem_append_right _ (List.mem_append_right _ (List.mem_append_left _ (List.mem_of_getElem? (l := tables_1_3) (i := 206) rfl))))) rfl
abbrev wM_isPrime : List Cond := kM_isPrime :: zT
abbrev kM_put : Cond := .code yM_put bM_put 5 (some .boolean)
theorem mk_M_put : kM_put ∈ zT := zT_in (List.mem_append_right _ (List.mem_append_right _ (List.mem_append_right _ (List.mem_append_left _ (List.mem_of_getElem? (l := tables_1_3) (i := 210) rfl))))) rfl
abbrev wM_put : List Cond := kM_put :: zT
abbrev kM_read : Cond := .code yM_read bM_read 4 (some .int)
theorem mk_M_read : kM_read ∈ zT := zT_in (List.mem_append_right _ (List.mem_append_right _ (List.mem_append_right _ (List.mem_append_left _ (List.mem_of_getElem? (l := tables_1_3) (i := 214) rfl))))) rfl
abbrev wM_read : List Cond := kM_read :: zT
abbrev kM_isPolynomial : Cond := .code yM_isPolynomial bM_isPolynomial 1 (some .boolean)
theorem mk_M_isPolynomial : kM_isPolynomial ∈ zT := zT_in (List.mem_append_right _ (List.mem_append_right _ (List.mem_append_right _ (List.mem_append_left _ (List.mem_of_getElem? (l := tables_1_3) (i := 217) rfl))))) rfl
abbrev wM_isPolynomial : List Cond := kM_isPolynomial :: zT
abbrev kM_begin : Cond := .code yM_begin bM_begin 1 none
theorem mk_M_begin : kM_begin ∈ zT := zT_in (List.mem_append_right _ (List.mem_append_right _ (List.mem_append_right _ (List.mem_append_left _ (List.mem_of_getElem? (l := tables_1_3) (i := 221) rfl))))) rfl
abbrev wM_begin : List Cond := kM_begin :: zT
abbrev kM_sum : Cond := .code yM_sum bM_sum 1 (some .int)
theorem mk_M_sum : kM_sum ∈ zT := zT_in (List.mem_append_right _ (List.mem_append_right _ (List.mem_append_right _ (List.mem_append_left _ (List.mem_of_getElem? (l := tables_1_3) (i := 225) rfl))))) rfl
abbrev wM_sum : List Cond := kM_sum :: zT
abbrev kM_clear : Cond := .code yM_clear bM_clear 3 none
theorem mk_M_clear : kM_clear ∈ zT := zT_in (List.mem_append_right _ (List.mem_append_right _ (List.mem_append_right _ (List.mem_append_left _ (List.mem_of_getElem? (l := tables_1_3) (i := 229) rfl))))) rfl
abbrev wM_clear : List Cond := kM_clear :: zT
abbrev kM_lay : Cond := .code yM_lay bM_lay 4 none
theorem mk_M_lay : kM_lay ∈ zT := zT_in (List.mem_append_right _ (List.mem_append_right _ (List.mem_append_right _ (List.mem_append_left _ (List.mem_of_getElem? (l := tables_1_3) (i := 233) rfl))))) rfl
abbrev wM_lay : List Cond := kM_lay :: zT
abbrev kM_here : Cond := .code yM_here bM_here 1 (some .int)
theorem mk_M_here : kM_here ∈ zT := zT_in (List.mem_append_right _ (List.mem_append_right _ (List.mem_append_right _ (List.mem_append_left _ (List.mem_of_getElem? (l := tables_1_3) (i := 237) rfl))))) rfl
abbrev wM_here : List Cond := kM_here :: zT
abbrev kM_readFactor : Cond := .code yM_readFactor bM_readFactor 3 none
theorem mk_M_readFactor : kM_readFactor ∈ zT := zT_in (List.mem_append_right _ (List.mem_append_right _ (List.mem_append_right _ (List.mem_append_right _ (List.mem_of_getElem? (l := tables_1_4) (i := 1) rfl))))) rfl
abbrev wM_readFactor : List Cond := kM_readFactor :: zT
abbrev kM_fail : Cond := .code yM_fail bM_fail 3 none
theorem mk_M_fail : kM_fail ∈ zT := zT_in (List.mem_append_right _ (List.mem_append_right _ (List.mem_append_right _ (List.mem_append_right _ (List.mem_of_getElem? (l := tables_1_4) (i := 5) rfl))))) rfl
abbrev wM_fail : List Cond := kM_fail :: zT
abbrev kM_variable : Cond := .code yM_variable bM_variable 3 (some .int)
theorem mk_M_variable : kM_variable ∈ zT := zT_in (List.mem_append_right _ (List.mem_append_right _ (List.mem_append_right _ (List.mem_append_right _ (List.mem_of_getElem? (l := tables_1_4) (i := 9) rfl))))) rfl
abbrev wM_variable : List Cond := kM_variable :: zT
abbrev kM_isDigit : Cond := .code yM_isDigit bM_isDigit 1 (some .boolean)
theorem mk_M_isDigit : kM_isDigit ∈ zT := zT_in (List.mem_append_right _ (List.mem_append_right _ (List.mem_append_right _ (List.mem_append_right _ (List.mem_of_getElem? (l := tables_1_4) (i := 12) rfl))))) rfl
abbrev wM_isDigit : List Cond := kM_isDigit :: zT
abbrev kM_factor : Cond := .code yM_factor bM_factor 1 (some .int)
theorem mk_M_factor : kM_factor ∈ zT := zT_in (List.mem_append_right _ (List.mem_append_right _ (List.mem_append_right _ (List.mem_append_right _ (List.mem_of_getElem? (l := tables_1_4) (i := 16) rfl))))) rfl
abbrev wM_factor : List Cond := kM_factor :: zT
abbrev kM_number : Cond := .code yM_number bM_number 5 (some .long)
theorem mk_M_number : kM_number ∈ zT := zT_in (List.mem_append_right _ (List.mem_append_right _ (List.mem_append_right _ (List.mem_append_right _ (List.mem_of_getElem? (l := tables_1_4) (i := 20) rfl))))) rfl
abbrev wM_number : List Cond := kM_number :: zT
abbrev kM_modulo : Cond := .code yM_modulo bM_modulo 4 (some .int)
theorem mk_M_modulo : kM_modulo ∈ zT := zT_in (List.mem_append_right _ (List.mem_append_right _ (List.mem_append_right _ (List.mem_append_right _ (List.mem_of_getElem? (l := tables_1_4) (i := 26) rfl))))) rfl
abbrev wM_modulo : List Cond := kM_modulo :: zT
abbrev kM_readPower : Cond := .code yM_readPower bM_readPower 6 none
theorem mk_M_readPower : kM_readPower ∈ zT := zT_in (List.mem_append_right _ (List.mem_append_right _ (List.mem_append_right _ (List.mem_append_right _ (List.mem_of_getElem? (l := tables_1_4) (i := 30) rfl))))) rfl
abbrev wM_readPower : List Cond := kM_readPower :: zT
abbrev kM_degreeOf : Cond := .code yM_degreeOf bM_degreeOf 3 (some .int)
theorem mk_M_degreeOf : kM_degreeOf ∈ zT := zT_in (List.mem_append_right _ (List.mem_append_right _ (List.mem_append_right _ (List.mem_append_right _ (List.mem_of_getElem? (l := tables_1_4) (i := 34) rfl))))) rfl
abbrev wM_degreeOf : List Cond := kM_degreeOf :: zT
abbrev kM_cell : Cond := .code yM_cell bM_cell 3 (some .int)
theorem mk_M_cell : kM_cell ∈ zT := zT_in (List.mem_append_right _ (List.mem_append_right _ (List.mem_append_right _ (List.mem_append_right _ (List.mem_of_getElem? (l := tables_1_4) (i := 38) rfl))))) rfl
abbrev wM_cell : List Cond := kM_cell :: zT
abbrev kM_times : Cond := .code yM_times bM_times 8 none
theorem mk_M_times : kM_times ∈ zT := zT_in (List.mem_append_right _ (List.mem_append_right _ (List.mem_append_right _ (List.mem_append_right _ (List.mem_of_getElem? (l := tables_1_4) (i := 42) rfl))))) rfl
abbrev wM_times : List Cond := kM_times :: zT
abbrev kM_copy : Cond := .code yM_copy bM_copy 4 none
theorem mk_M_copy : kM_copy ∈ zT := zT_in (List.mem_append_right _ (List.mem_append_right _ (List.mem_append_right _ (List.mem_append_right _ (List.mem_of_getElem? (l := tables_1_4) (i := 46) rfl))))) rfl
abbrev wM_copy : List Cond := kM_copy :: zT
abbrev kM_goOn : Cond := .code yM_goOn bM_goOn 4 none
theorem mk_M_goOn : kM_goOn ∈ zT := zT_in (List.mem_append_right _ (List.mem_append_right _ (List.mem_append_right _ (List.mem_append_right _ (List.mem_of_getElem? (l := tables_1_4) (i := 50) rfl))))) rfl
abbrev wM_goOn : List Cond := kM_goOn :: zT
abbrev kM_product : Cond := .code yM_product bM_product 1 (some .int)
theorem mk_M_product : kM_product ∈ zT := zT_in (List.mem_append_right _ (List.mem_append_right _ (List.mem_append_right _ (List.mem_append_right _ (List.mem_of_getElem? (l := tables_1_4) (i := 54) rfl))))) rfl
abbrev wM_product : List Cond := kM_product :: zT
abbrev kM_isTooHigh : Cond := .code yM_isTooHigh bM_isTooHigh 5 (some .boolean)
theorem mk_M_isTooHigh : kM_isTooHigh ∈ zT := zT_in (List.mem_append_right _ (List.mem_append_right _ (List.mem_append_right _ (List.mem_append_right _ (List.mem_of_getElem? (l := tables_1_4) (i := 58) rfl))))) rfl
abbrev wM_isTooHigh : List Cond := kM_isTooHigh :: zT
abbrev kM_addTo : Cond := .code yM_addTo bM_addTo 5 none
theorem mk_M_addTo : kM_addTo ∈ zT := zT_in (List.mem_append_right _ (List.mem_append_right _ (List.mem_append_right _ (List.mem_append_right _ (List.mem_of_getElem? (l := tables_1_4) (i := 62) rfl))))) rfl
abbrev wM_addTo : List Cond := kM_addTo :: zT
abbrev kM_terms : Cond := .code yM_terms bM_terms 4 (some .int)
theorem mk_M_terms : kM_terms ∈ zT := zT_in (List.mem_append_right _ (List.mem_append_right _ (List.mem_append_right _ (List.mem_append_right _ (List.mem_of_getElem? (l := tables_1_4) (i := 66) rfl))))) rfl
abbrev wM_terms : List Cond := kM_terms :: zT
abbrev kM_fault : Cond := .code yM_fault bM_fault 2 (some .int)
theorem mk_M_fault : kM_fault ∈ zT := zT_in (List.mem_append_right _ (List.mem_append_right _ (List.mem_append_right _ (List.mem_append_right _ (List.mem_of_getElem? (l := tables_1_4) (i := 70) rfl))))) rfl
abbrev wM_fault : List Cond := kM_fault :: zT
abbrev kM_add : Cond := .code yM_add bM_add 5 none
theorem mk_M_add : kM_add ∈ zT := zT_in (List.mem_append_right _ (List.mem_append_right _ (List.mem_append_right _ (List.mem_append_right _ (List.mem_of_getElem? (l := tables_1_4) (i := 74) rfl))))) rfl
abbrev wM_add : List Cond := kM_add :: zT
abbrev kM_lacks : Cond := .code yM_lacks bM_lacks 4 (some .boolean)
theorem mk_M_lacks : kM_lacks ∈ zT := zT_in (List.mem_append_right _ (List.mem_append_right _ (List.mem_append_right _ (List.mem_append_right _ (List.mem_of_getElem? (l := tables_1_4) (i := 78) rfl))))) rfl
abbrev wM_lacks : List Cond := kM_lacks :: zT
abbrev kM_multiply : Cond := .code yM_multiply bM_multiply 4 none
theorem mk_M_multiply : kM_multiply ∈ zT := zT_in (List.mem_append_right _ (List.mem_append_right _ (List.mem_append_right _ (List.mem_append_right _ (List.mem_of_getElem? (l := tables_1_4) (i := 82) rfl))))) rfl
abbrev wM_multiply : List Cond := kM_multiply :: zT
abbrev kM_derive : Cond := .code yM_derive bM_derive 7 none
theorem mk_M_derive : kM_derive ∈ zT := zT_in (List.mem_append_right _ (List.mem_append_right _ (List.mem_append_right _ (List.mem_append_right _ (List.mem_of_getElem? (l := tables_1_4) (i := 86) rfl))))) rfl
abbrev wM_derive : List Cond := kM_derive :: zT
abbrev kM_set : Cond := .code yM_set bM_set 9 none
theorem mk_M_set : kM_set ∈ zT := zT_in (List.mem_append_right _ (List.mem_append_right _ (List.mem_append_right _ (List.mem_append_right _ (List.mem_of_getElem? (l := tables_1_4) (i := 90) rfl))))) rfl
abbrev wM_set : List Cond := kM_set :: zT
abbrev kM_power : Cond := .code yM_power bM_power 5 (some .int)
theorem mk_M_power : kM_power ∈ zT := zT_in (List.mem_append_right _ (List.mem_append_right _ (List.mem_append_right _ (List.mem_append_right _ (List.mem_of_getElem? (l := tables_1_4) (i := 94) rfl))))) rfl
abbrev wM_power : List Cond := kM_power :: zT
abbrev kM_value : Cond := .code yM_value bM_value 10 (some .int)
theorem mk_M_value : kM_value ∈ zT := zT_in (List.mem_append_right _ (List.mem_append_right _ (List.mem_append_right _ (List.mem_append_right _ (List.mem_of_getElem? (l := tables_1_4) (i := 98) rfl))))) rfl
abbrev wM_value : List Cond := kM_value :: zT
abbrev kM_about : Cond := .code yM_about bM_about 3 (some .int)
theorem mk_M_about : kM_about ∈ zT := zT_in (List.mem_append_right _ (List.mem_append_right _ (List.mem_append_right _ (List.mem_append_right _ (List.mem_of_getElem? (l := tables_1_4) (i := 102) rfl))))) rfl
abbrev wM_about : List Cond := kM_about :: zT
abbrev kM_term : Cond := .code yM_term bM_term 5 (some .int)
theorem mk_M_term : kM_term ∈ zT := zT_in (List.mem_append_right _ (List.mem_append_right _ (List.mem_append_right _ (List.mem_append_right _ (List.mem_of_getElem? (l := tables_1_4) (i := 106) rfl))))) rfl
abbrev wM_term : List Cond := kM_term :: zT
abbrev kM_placeOf : Cond := .code yM_placeOf bM_placeOf 5 (some .int)
theorem mk_M_placeOf : kM_placeOf ∈ zT := zT_in (List.mem_append_right _ (List.mem_append_right _ (List.mem_append_right _ (List.mem_append_right _ (List.mem_of_getElem? (l := tables_1_4) (i := 110) rfl))))) rfl
abbrev wM_placeOf : List Cond := kM_placeOf :: zT
abbrev kM_print : Cond := .code yM_print bM_print 3 (some .int)
theorem mk_M_print : kM_print ∈ zT := zT_in (List.mem_append_right _ (List.mem_append_right _ (List.mem_append_right _ (List.mem_append_right _ (List.mem_of_getElem? (l := tables_1_4) (i := 114) rfl))))) rfl
abbrev wM_print : List Cond := kM_print :: zT
abbrev kM_say : Cond := .code yM_say bM_say 2 none
theorem mk_M_say : kM_say ∈ zT := zT_in (List.mem_append_right _ (List.mem_append_right _ (List.mem_append_right _ (List.mem_append_right _ (List.mem_of_getElem? (l := tables_1_4) (i := 118) rfl))))) rfl
abbrev wM_say : List Cond := kM_say :: zT
abbrev kM_sayTerm : Cond := .code yM_sayTerm bM_sayTerm 7 none
theorem mk_M_sayTerm : kM_sayTerm ∈ zT := zT_in (List.mem_append_right _ (List.mem_append_right _ (List.mem_append_right _ (List.mem_append_right _ (List.mem_of_getElem? (l := tables_1_4) (i := 122) rfl))))) rfl
abbrev wM_sayTerm : List Cond := kM_sayTerm :: zT
abbrev kM_sayNumber : Cond := .code yM_sayNumber bM_sayNumber 3 none
theorem mk_M_sayNumber : kM_sayNumber ∈ zT := zT_in (List.mem_append_right _ (List.mem_append_right _ (List.mem_append_right _ (List.mem_append_right _ (List.mem_of_getElem? (l := tables_1_4) (i := 126) rfl))))) rfl
abbrev wM_sayNumber : List Cond := kM_sayNumber :: zT
abbrev kM_output : Cond := .code yM_output bM_output 2 (some .int)
theorem mk_M_output : kM_output ∈ zT := zT_in (List.mem_append_right _ (List.mem_append_right _ (List.mem_append_right _ (List.mem_append_right _ (List.mem_of_getElem? (l := tables_1_4) (i := 130) rfl))))) rfl
abbrev wM_output : List Cond := kM_output :: zT
theorem mn_L : (.initialized "PolynomialDeskLaw" : Cond) ∈ zT := zT_in (List.mem_append_right _ (List.mem_append_left _ (List.mem_of_getElem? (l := tables_1_1) (i := 0) rfl))) rfl
theorem mn_K : (.initialized "PolynomialDesk" : Cond) ∈ zT := zT_in (List.mem_append_right _ (List.mem_append_left _ (List.mem_of_getElem? (l := tables_1_1) (i := 1) rfl))) rfl
theorem mn_R : (.initialized "PolynomialDesk$Ring" : Cond) ∈ zT := zT_in (List.mem_append_right _ (List.mem_append_left _ (List.mem_of_getElem? (l := tables_1_1) (i := 2) rfl))) rfl
theorem mn_J : (.initialized "java/util/Arrays" : Cond) ∈ zT := zT_in (List.mem_append_right _ (List.mem_append_left _ (List.mem_of_getElem? (l := tables_1_1) (i := 3) rfl))) rfl
theorem mn_E : (.initialized "PolynomialDesk$Reader" : Cond) ∈ zT := zT_in (List.mem_append_right _ (List.mem_append_left _ (List.mem_of_getElem? (l := tables_1_1) (i := 4) rfl))) rfl
theorem mn_P : (.initialized "PolynomialDesk$Printer" : Cond) ∈ zT := zT_in (List.mem_append_right _ (List.mem_append_left _ (List.mem_of_getElem? (l := tables_1_1) (i := 5) rfl))) rfl
theorem mn_M : (.initialized "PolynomialDeskModel" : Cond) ∈ zT := zT_in (List.mem_append_right _ (List.mem_append_left _ (List.mem_of_getElem? (l := tables_1_1) (i := 6) rfl))) rfl
theorem mn_Throwable : (.initialized "java/lang/Throwable" : Cond) ∈ zT := zT_in (List.mem_append_right _ (List.mem_append_left _ (List.mem_of_getElem? (l := tables_1_1) (i := 7) rfl))) rfl
theorem mn_Exception : (.initialized "java/lang/Exception" : Cond) ∈ zT := zT_in (List.mem_append_right _ (List.mem_append_left _ (List.mem_of_getElem? (l := tables_1_1) (i := 8) rfl))) rfl
theorem mn_RuntimeException : (.initialized "java/lang/RuntimeException" : Cond) ∈ zT := zT_in (List.mem_append_right _ (List.mem_append_left _ (List.mem_of_getElem? (l := tables_1_1) (i := 9) rfl))) rfl
theorem mn_IllegalArgumentException : (.initialized "java/lang/IllegalArgumentException" : Cond) ∈ zT := zT_in (List.mem_append_right _ (List.mem_append_left _ (List.mem_of_getElem? (l := tables_1_1) (i := 10) rfl))) rfl
theorem mn_IndexOutOfBoundsException : (.initialized "java/lang/IndexOutOfBoundsException" : Cond) ∈ zT := zT_in (List.mem_append_right _ (List.mem_append_left _ (List.mem_of_getElem? (l := tables_1_1) (i := 11) rfl))) rfl
theorem mn_System : (.initialized "java/lang/System" : Cond) ∈ zT := zT_in (List.mem_append_right _ (List.mem_append_left _ (List.mem_of_getElem? (l := tables_1_1) (i := 12) rfl))) rfl
theorem mn_IllegalStateException : (.initialized "java/lang/IllegalStateException" : Cond) ∈ zT := zT_in (List.mem_append_right _ (List.mem_append_left _ (List.mem_of_getElem? (l := tables_1_1) (i := 13) rfl))) rfl
theorem mn_String : (.initialized "java/lang/String" : Cond) ∈ zT := zT_in (List.mem_append_right _ (List.mem_append_left _ (List.mem_of_getElem? (l := tables_1_1) (i := 14) rfl))) rfl
theorem mn_StringLatin1 : (.initialized "java/lang/StringLatin1" : Cond) ∈ zT := zT_in (List.mem_append_right _ (List.mem_append_left _ (List.mem_of_getElem? (l := tables_1_1) (i := 15) rfl))) rfl
theorem mn_Preconditions : (.initialized "jdk/internal/util/Preconditions" : Cond) ∈ zT := zT_in (List.mem_append_right _ (List.mem_append_left _ (List.mem_of_getElem? (l := tables_1_1) (i := 16) rfl))) rfl
theorem mn_StringUTF16 : (.initialized "java/lang/StringUTF16" : Cond) ∈ zT := zT_in (List.mem_append_right _ (List.mem_append_left _ (List.mem_of_getElem? (l := tables_1_1) (i := 17) rfl))) rfl
theorem mc_L_8 : (.classLink "PolynomialDeskLaw" 8 "PolynomialDesk" : Cond) ∈ zT := zT_in (List.mem_append_right _ (List.mem_append_left _ (List.mem_of_getElem? (l := tables_1_1) (i := 18) rfl))) rfl
theorem mb_K : (.instantiable "PolynomialDesk" 5 : Cond) ∈ zT := zT_in (List.mem_append_right _ (List.mem_append_left _ (List.mem_of_getElem? (l := tables_1_1) (i := 19) rfl))) rfl
theorem ml_L_43 : (.methodLink "PolynomialDeskLaw" 43 yK_init : Cond) ∈ zT := zT_in (List.mem_append_right _ (List.mem_append_left _ (List.mem_of_getElem? (l := tables_1_1) (i := 20) rfl))) rfl
theorem mi_K_init : (.instanceMethod yK_init : Cond) ∈ zT := zT_in (List.mem_append_right _ (List.mem_append_left _ (List.mem_of_getElem? (l := tables_1_1) (i := 21) rfl))) rfl
theorem ml_K_1 : (.methodLink "PolynomialDesk" 1 ⟨"java/lang/Object", "<init>", "()V"⟩ : Cond) ∈ zT := zT_in (List.mem_append_right _ (List.mem_append_left _ (List.mem_of_getElem? (l := tables_1_1) (i := 23) rfl))) rfl
theorem mi_obj : (.instanceMethod ⟨"java/lang/Object", "<init>", "()V"⟩ : Cond) ∈ zT := zT_in (List.mem_append_right _ (List.mem_append_left _ (List.mem_of_getElem? (l := tables_1_1) (i := 24) rfl))) rfl
theorem mk_obj : (.code ⟨"java/lang/Object", "<init>", "()V"⟩ object_method_1_code 1 none : Cond) ∈ zT := zT_in (List.mem_append_right _ (List.mem_append_left _ (List.mem_of_getElem? (l := tables_1_1) (i := 25) rfl))) rfl
theorem mc_K_7 : (.classLink "PolynomialDesk" 7 "PolynomialDesk$Ring" : Cond) ∈ zT := zT_in (List.mem_append_right _ (List.mem_append_left _ (List.mem_of_getElem? (l := tables_1_1) (i := 26) rfl))) rfl
theorem mb_R : (.instantiable "PolynomialDesk$Ring" 13 : Cond) ∈ zT := zT_in (List.mem_append_right _ (List.mem_append_left _ (List.mem_of_getElem? (l := tables_1_1) (i := 27) rfl))) rfl
theorem ml_K_9 : (.methodLink "PolynomialDesk" 9 yR_init : Cond) ∈ zT := zT_in (List.mem_append_right _ (List.mem_append_left _ (List.mem_of_getElem? (l := tables_1_1) (i := 28) rfl))) rfl
theorem mi_R_init : (.instanceMethod yR_init : Cond) ∈ zT := zT_in (List.mem_append_right _ (List.mem_append_left _ (List.mem_of_getElem? (l := tables_1_1) (i := 29) rfl))) rfl
theorem ml_R_3 : (.methodLink "PolynomialDesk$Ring" 3 ⟨"java/lang/Object", "<init>", "()V"⟩ : Cond) ∈ zT := zT_in (List.mem_append_right _ (List.mem_append_left _ (List.mem_of_getElem? (l := tables_1_1) (i := 31) rfl))) rfl
theorem mc_R_11 : (.classLink "PolynomialDesk$Ring" 11 "[[I" : Cond) ∈ zT := zT_in (List.mem_append_right _ (List.mem_append_left _ (List.mem_of_getElem? (l := tables_1_1) (i := 32) rfl))) rfl
theorem mf_R_38 : (.fieldLink "PolynomialDesk$Ring" 38 "PolynomialDesk$Ring" "prime" "I" : Cond) ∈ zT := zT_in (List.mem_append_right _ (List.mem_append_left _ (List.mem_of_getElem? (l := tables_1_1) (i := 34) rfl))) rfl
theorem mf_R_42 : (.fieldLink "PolynomialDesk$Ring" 42 "PolynomialDesk$Ring" "variables" "I" : Cond) ∈ zT := zT_in (List.mem_append_right _ (List.mem_append_left _ (List.mem_of_getElem? (l := tables_1_1) (i := 35) rfl))) rfl
theorem mf_R_45 : (.fieldLink "PolynomialDesk$Ring" 45 "PolynomialDesk$Ring" "order" "I" : Cond) ∈ zT := zT_in (List.mem_append_right _ (List.mem_append_left _ (List.mem_of_getElem? (l := tables_1_1) (i := 36) rfl))) rfl
theorem mf_R_51 : (.fieldLink "PolynomialDesk$Ring" 51 "PolynomialDesk$Ring" "highest" "I" : Cond) ∈ zT := zT_in (List.mem_append_right _ (List.mem_append_left _ (List.mem_of_getElem? (l := tables_1_1) (i := 37) rfl))) rfl
theorem mf_R_54 : (.fieldLink "PolynomialDesk$Ring" 54 "PolynomialDesk$Ring" "count" "I" : Cond) ∈ zT := zT_in (List.mem_append_right _ (List.mem_append_left _ (List.mem_of_getElem? (l := tables_1_1) (i := 38) rfl))) rfl
theorem mf_R_13 : (.fieldLink "PolynomialDesk$Ring" 13 "PolynomialDesk$Ring" "exponents" "[[I" : Cond) ∈ zT := zT_in (List.mem_append_right _ (List.mem_append_left _ (List.mem_of_getElem? (l := tables_1_1) (i := 39) rfl))) rfl
theorem mf_R_16 : (.fieldLink "PolynomialDesk$Ring" 16 "PolynomialDesk$Ring" "degrees" "[I" : Cond) ∈ zT := zT_in (List.mem_append_right _ (List.mem_append_left _ (List.mem_of_getElem? (l := tables_1_1) (i := 40) rfl))) rfl
theorem mf_R_20 : (.fieldLink "PolynomialDesk$Ring" 20 "PolynomialDesk$Ring" "keys" "[I" : Cond) ∈ zT := zT_in (List.mem_append_right _ (List.mem_append_left _ (List.mem_of_getElem? (l := tables_1_1) (i := 41) rfl))) rfl
theorem mf_R_23 : (.fieldLink "PolynomialDesk$Ring" 23 "PolynomialDesk$Ring" "weights" "[I" : Cond) ∈ zT := zT_in (List.mem_append_right _ (List.mem_append_left _ (List.mem_of_getElem? (l := tables_1_1) (i := 42) rfl))) rfl
theorem mf_R_26 : (.fieldLink "PolynomialDesk$Ring" 26 "PolynomialDesk$Ring" "indexes" "[I" : Cond) ∈ zT := zT_in (List.mem_append_right _ (List.mem_append_left _ (List.mem_of_getElem? (l := tables_1_1) (i := 43) rfl))) rfl
theorem mf_R_29 : (.fieldLink "PolynomialDesk$Ring" 29 "PolynomialDesk$Ring" "chosen" "[I" : Cond) ∈ zT := zT_in (List.mem_append_right _ (List.mem_append_left _ (List.mem_of_getElem? (l := tables_1_1) (i := 44) rfl))) rfl
theorem mf_R_32 : (.fieldLink "PolynomialDesk$Ring" 32 "PolynomialDesk$Ring" "scratch" "[I" : Cond) ∈ zT := zT_in (List.mem_append_right _ (List.mem_append_left _ (List.mem_of_getElem? (l := tables_1_1) (i := 45) rfl))) rfl
theorem mf_R_35 : (.fieldLink "PolynomialDesk$Ring" 35 "PolynomialDesk$Ring" "base" "[I" : Cond) ∈ zT := zT_in (List.mem_append_right _ (List.mem_append_left _ (List.mem_of_getElem? (l := tables_1_1) (i := 46) rfl))) rfl
theorem ma_int : (.arrayClass .int : Cond) ∈ zT := zT_in (List.mem_append_right _ (List.mem_append_left _ (List.mem_of_getElem? (l := tables_1_1) (i := 74) rfl))) rfl
theorem ml_K_16 : (.methodLink "PolynomialDesk" 16 yR_prepare : Cond) ∈ zT := zT_in (List.mem_append_right _ (List.mem_append_left _ (List.mem_of_getElem? (l := tables_1_1) (i := 75) rfl))) rfl
theorem mi_R_prepare : (.instanceMethod yR_prepare : Cond) ∈ zT := zT_in (List.mem_append_right _ (List.mem_append_left _ (List.mem_of_getElem? (l := tables_1_1) (i := 76) rfl))) rfl
theorem ms_R_prepare : (.selects "PolynomialDesk$Ring" yR_prepare yR_prepare : Cond) ∈ zT := zT_in (List.mem_append_right _ (List.mem_append_left _ (List.mem_of_getElem? (l := tables_1_1) (i := 77) rfl))) rfl
theorem mf_R_48 : (.fieldLink "PolynomialDesk$Ring" 48 "PolynomialDesk$Ring" "HIGHEST" "[I" : Cond) ∈ zT := zT_in (List.mem_append_right _ (List.mem_append_left _ (List.mem_of_getElem? (l := tables_1_1) (i := 79) rfl))) rfl
theorem ml_R_57 : (.methodLink "PolynomialDesk$Ring" 57 yJ_fill : Cond) ∈ zT := zT_in (List.mem_append_right _ (List.mem_append_left _ (List.mem_of_getElem? (l := tables_1_1) (i := 81) rfl))) rfl
theorem mt_J_fill : (.static yJ_fill : Cond) ∈ zT := zT_in (List.mem_append_right _ (List.mem_append_left _ (List.mem_of_getElem? (l := tables_1_1) (i := 82) rfl))) rfl
theorem ml_R_63 : (.methodLink "PolynomialDesk$Ring" 63 yR_listMonomials : Cond) ∈ zT := zT_in (List.mem_append_right _ (List.mem_append_left _ (List.mem_of_getElem? (l := tables_1_1) (i := 84) rfl))) rfl
theorem mi_R_listMonomials : (.instanceMethod yR_listMonomials : Cond) ∈ zT := zT_in (List.mem_append_right _ (List.mem_append_left _ (List.mem_of_getElem? (l := tables_1_1) (i := 86) rfl))) rfl
theorem ml_R_67 : (.methodLink "PolynomialDesk$Ring" 67 yR_recordMonomial : Cond) ∈ zT := zT_in (List.mem_append_right _ (List.mem_append_left _ (List.mem_of_getElem? (l := tables_1_1) (i := 88) rfl))) rfl
theorem mi_R_recordMonomial : (.instanceMethod yR_recordMonomial : Cond) ∈ zT := zT_in (List.mem_append_right _ (List.mem_append_left _ (List.mem_of_getElem? (l := tables_1_1) (i := 90) rfl))) rfl
theorem mc_K_20 : (.classLink "PolynomialDesk" 20 "PolynomialDesk$Reader" : Cond) ∈ zT := zT_in (List.mem_append_right _ (List.mem_append_left _ (List.mem_of_getElem? (l := tables_1_1) (i := 92) rfl))) rfl
theorem mb_E : (.instantiable "PolynomialDesk$Reader" 9 : Cond) ∈ zT := zT_in (List.mem_append_right _ (List.mem_append_left _ (List.mem_of_getElem? (l := tables_1_1) (i := 93) rfl))) rfl
theorem ml_K_22 : (.methodLink "PolynomialDesk" 22 yE_init : Cond) ∈ zT := zT_in (List.mem_append_right _ (List.mem_append_left _ (List.mem_of_getElem? (l := tables_1_1) (i := 94) rfl))) rfl
theorem mi_E_init : (.instanceMethod yE_init : Cond) ∈ zT := zT_in (List.mem_append_right _ (List.mem_append_left _ (List.mem_of_getElem? (l := tables_1_1) (i := 95) rfl))) rfl
theorem ml_E_3 : (.methodLink "PolynomialDesk$Reader" 3 ⟨"java/lang/Object", "<init>", "()V"⟩ : Cond) ∈ zT := zT_in (List.mem_append_right _ (List.mem_append_left _ (List.mem_of_getElem? (l := tables_1_1) (i := 97) rfl))) rfl
theorem mc_E_25 : (.classLink "PolynomialDesk$Reader" 25 "[[I" : Cond) ∈ zT := zT_in (List.mem_append_right _ (List.mem_append_left _ (List.mem_of_getElem? (l := tables_1_1) (i := 98) rfl))) rfl
theorem mf_E_9 : (.fieldLink "PolynomialDesk$Reader" 9 "PolynomialDesk$Reader" "ring" "LPolynomialDesk$Ring;" : Cond) ∈ zT := zT_in (List.mem_append_right _ (List.mem_append_left _ (List.mem_of_getElem? (l := tables_1_1) (i := 99) rfl))) rfl
theorem mf_E_15 : (.fieldLink "PolynomialDesk$Reader" 15 "PolynomialDesk$Reader" "text" "[C" : Cond) ∈ zT := zT_in (List.mem_append_right _ (List.mem_append_left _ (List.mem_of_getElem? (l := tables_1_1) (i := 100) rfl))) rfl
theorem mf_E_37 : (.fieldLink "PolynomialDesk$Reader" 37 "PolynomialDesk$Reader" "length" "I" : Cond) ∈ zT := zT_in (List.mem_append_right _ (List.mem_append_left _ (List.mem_of_getElem? (l := tables_1_1) (i := 101) rfl))) rfl
theorem mf_E_45 : (.fieldLink "PolynomialDesk$Reader" 45 "PolynomialDesk$Reader" "at" "I" : Cond) ∈ zT := zT_in (List.mem_append_right _ (List.mem_append_left _ (List.mem_of_getElem? (l := tables_1_1) (i := 102) rfl))) rfl
theorem mf_E_42 : (.fieldLink "PolynomialDesk$Reader" 42 "PolynomialDesk$Reader" "fault" "I" : Cond) ∈ zT := zT_in (List.mem_append_right _ (List.mem_append_left _ (List.mem_of_getElem? (l := tables_1_1) (i := 103) rfl))) rfl
theorem mf_E_19 : (.fieldLink "PolynomialDesk$Reader" 19 "PolynomialDesk$Reader" "place" "I" : Cond) ∈ zT := zT_in (List.mem_append_right _ (List.mem_append_left _ (List.mem_of_getElem? (l := tables_1_1) (i := 104) rfl))) rfl
theorem mf_E_27 : (.fieldLink "PolynomialDesk$Reader" 27 "PolynomialDesk$Reader" "sums" "[[I" : Cond) ∈ zT := zT_in (List.mem_append_right _ (List.mem_append_left _ (List.mem_of_getElem? (l := tables_1_1) (i := 105) rfl))) rfl
theorem mf_E_30 : (.fieldLink "PolynomialDesk$Reader" 30 "PolynomialDesk$Reader" "products" "[[I" : Cond) ∈ zT := zT_in (List.mem_append_right _ (List.mem_append_left _ (List.mem_of_getElem? (l := tables_1_1) (i := 106) rfl))) rfl
theorem mf_E_33 : (.fieldLink "PolynomialDesk$Reader" 33 "PolynomialDesk$Reader" "factor" "[I" : Cond) ∈ zT := zT_in (List.mem_append_right _ (List.mem_append_left _ (List.mem_of_getElem? (l := tables_1_1) (i := 107) rfl))) rfl
theorem ma_char : (.arrayClass .char : Cond) ∈ zT := zT_in (List.mem_append_right _ (List.mem_append_left _ (List.mem_of_getElem? (l := tables_1_1) (i := 127) rfl))) rfl
theorem mc_K_29 : (.classLink "PolynomialDesk" 29 "PolynomialDesk$Printer" : Cond) ∈ zT := zT_in (List.mem_append_right _ (List.mem_append_left _ (List.mem_of_getElem? (l := tables_1_1) (i := 128) rfl))) rfl
theorem mb_P : (.instantiable "PolynomialDesk$Printer" 3 : Cond) ∈ zT := zT_in (List.mem_append_right _ (List.mem_append_left _ (List.mem_of_getElem? (l := tables_1_1) (i := 129) rfl))) rfl
theorem ml_K_31 : (.methodLink "PolynomialDesk" 31 yP_init : Cond) ∈ zT := zT_in (List.mem_append_right _ (List.mem_append_left _ (List.mem_of_getElem? (l := tables_1_1) (i := 130) rfl))) rfl
theorem mi_P_init : (.instanceMethod yP_init : Cond) ∈ zT := zT_in (List.mem_append_right _ (List.mem_append_left _ (List.mem_of_getElem? (l := tables_1_1) (i := 131) rfl))) rfl
theorem ml_P_3 : (.methodLink "PolynomialDesk$Printer" 3 ⟨"java/lang/Object", "<init>", "()V"⟩ : Cond) ∈ zT := zT_in (List.mem_append_right _ (List.mem_append_left _ (List.mem_of_getElem? (l := tables_1_1) (i := 133) rfl))) rfl
theorem mf_P_9 : (.fieldLink "PolynomialDesk$Printer" 9 "PolynomialDesk$Printer" "ring" "LPolynomialDesk$Ring;" : Cond) ∈ zT := zT_in (List.mem_append_right _ (List.mem_append_left _ (List.mem_of_getElem? (l := tables_1_1) (i := 134) rfl))) rfl
theorem mf_P_17 : (.fieldLink "PolynomialDesk$Printer" 17 "PolynomialDesk$Printer" "bytes" "[C" : Cond) ∈ zT := zT_in (List.mem_append_right _ (List.mem_append_left _ (List.mem_of_getElem? (l := tables_1_1) (i := 135) rfl))) rfl
theorem mf_P_21 : (.fieldLink "PolynomialDesk$Printer" 21 "PolynomialDesk$Printer" "length" "I" : Cond) ∈ zT := zT_in (List.mem_append_right _ (List.mem_append_left _ (List.mem_of_getElem? (l := tables_1_1) (i := 136) rfl))) rfl
theorem mc_K_36 : (.classLink "PolynomialDesk" 36 "[[I" : Cond) ∈ zT := zT_in (List.mem_append_right _ (List.mem_append_left _ (List.mem_of_getElem? (l := tables_1_1) (i := 144) rfl))) rfl
theorem mf_K_10 : (.fieldLink "PolynomialDesk" 10 "PolynomialDesk" "ring" "LPolynomialDesk$Ring;" : Cond) ∈ zT := zT_in (List.mem_append_right _ (List.mem_append_left _ (List.mem_of_getElem? (l := tables_1_1) (i := 145) rfl))) rfl
theorem mf_K_25 : (.fieldLink "PolynomialDesk" 25 "PolynomialDesk" "reader" "LPolynomialDesk$Reader;" : Cond) ∈ zT := zT_in (List.mem_append_right _ (List.mem_append_left _ (List.mem_of_getElem? (l := tables_1_1) (i := 146) rfl))) rfl
theorem mf_K_32 : (.fieldLink "PolynomialDesk" 32 "PolynomialDesk" "printer" "LPolynomialDesk$Printer;" : Cond) ∈ zT := zT_in (List.mem_append_right _ (List.mem_append_left _ (List.mem_of_getElem? (l := tables_1_1) (i := 147) rfl))) rfl
theorem mf_K_38 : (.fieldLink "PolynomialDesk" 38 "PolynomialDesk" "polynomials" "[[I" : Cond) ∈ zT := zT_in (List.mem_append_right _ (List.mem_append_left _ (List.mem_of_getElem? (l := tables_1_1) (i := 148) rfl))) rfl
theorem mf_K_41 : (.fieldLink "PolynomialDesk" 41 "PolynomialDesk" "numbers" "[I" : Cond) ∈ zT := zT_in (List.mem_append_right _ (List.mem_append_left _ (List.mem_of_getElem? (l := tables_1_1) (i := 149) rfl))) rfl
theorem ml_L_59 : (.methodLink "PolynomialDeskLaw" 59 yK_put : Cond) ∈ zT := zT_in (List.mem_append_right _ (List.mem_append_left _ (List.mem_of_getElem? (l := tables_1_1) (i := 161) rfl))) rfl
theorem mi_K_put : (.instanceMethod yK_put : Cond) ∈ zT := zT_in (List.mem_append_right _ (List.mem_append_left _ (List.mem_of_getElem? (l := tables_1_1) (i := 162) rfl))) rfl
theorem ms_K_put : (.selects "PolynomialDesk" yK_put yK_put : Cond) ∈ zT := zT_in (List.mem_append_right _ (List.mem_append_left _ (List.mem_of_getElem? (l := tables_1_1) (i := 163) rfl))) rfl
theorem ml_K_69 : (.methodLink "PolynomialDesk" 69 yE_takeBytes : Cond) ∈ zT := zT_in (List.mem_append_right _ (List.mem_append_left _ (List.mem_of_getElem? (l := tables_1_1) (i := 165) rfl))) rfl
theorem mi_E_takeBytes : (.instanceMethod yE_takeBytes : Cond) ∈ zT := zT_in (List.mem_append_right _ (List.mem_append_left _ (List.mem_of_getElem? (l := tables_1_1) (i := 166) rfl))) rfl
theorem ms_E_takeBytes : (.selects "PolynomialDesk$Reader" yE_takeBytes yE_takeBytes : Cond) ∈ zT := zT_in (List.mem_append_right _ (List.mem_append_left _ (List.mem_of_getElem? (l := tables_1_1) (i := 167) rfl))) rfl
theorem mq_E_40 : (.constantLong "PolynomialDesk$Reader" 40 (255) : Cond) ∈ zT := zT_in (List.mem_append_right _ (List.mem_append_left _ (List.mem_of_getElem? (l := tables_1_1) (i := 169) rfl))) rfl
theorem ml_L_68 : (.methodLink "PolynomialDeskLaw" 68 yK_fault : Cond) ∈ zT := zT_in (List.mem_append_right _ (List.mem_append_left _ (List.mem_of_getElem? (l := tables_1_1) (i := 170) rfl))) rfl
theorem mi_K_fault : (.instanceMethod yK_fault : Cond) ∈ zT := zT_in (List.mem_append_right _ (List.mem_append_left _ (List.mem_of_getElem? (l := tables_1_1) (i := 171) rfl))) rfl
theorem ms_K_fault : (.selects "PolynomialDesk" yK_fault yK_fault : Cond) ∈ zT := zT_in (List.mem_append_right _ (List.mem_append_left _ (List.mem_of_getElem? (l := tables_1_1) (i := 172) rfl))) rfl
theorem ml_K_87 : (.methodLink "PolynomialDesk" 87 yE_latestFault : Cond) ∈ zT := zT_in (List.mem_append_right _ (List.mem_append_left _ (List.mem_of_getElem? (l := tables_1_1) (i := 174) rfl))) rfl
theorem mi_E_latestFault : (.instanceMethod yE_latestFault : Cond) ∈ zT := zT_in (List.mem_append_right _ (List.mem_append_left _ (List.mem_of_getElem? (l := tables_1_1) (i := 175) rfl))) rfl
theorem ms_E_latestFault : (.selects "PolynomialDesk$Reader" yE_latestFault yE_latestFault : Cond) ∈ zT := zT_in (List.mem_append_right _ (List.mem_append_left _ (List.mem_of_getElem? (l := tables_1_1) (i := 176) rfl))) rfl
theorem ml_K_91 : (.methodLink "PolynomialDesk" 91 yE_latestPlace : Cond) ∈ zT := zT_in (List.mem_append_right _ (List.mem_append_left _ (List.mem_of_getElem? (l := tables_1_1) (i := 178) rfl))) rfl
theorem mi_E_latestPlace : (.instanceMethod yE_latestPlace : Cond) ∈ zT := zT_in (List.mem_append_right _ (List.mem_append_left _ (List.mem_of_getElem? (l := tables_1_1) (i := 179) rfl))) rfl
theorem ms_E_latestPlace : (.selects "PolynomialDesk$Reader" yE_latestPlace yE_latestPlace : Cond) ∈ zT := zT_in (List.mem_append_right _ (List.mem_append_left _ (List.mem_of_getElem? (l := tables_1_1) (i := 180) rfl))) rfl
theorem ml_L_89 : (.methodLink "PolynomialDeskLaw" 89 yK_about : Cond) ∈ zT := zT_in (List.mem_append_right _ (List.mem_append_left _ (List.mem_of_getElem? (l := tables_1_1) (i := 182) rfl))) rfl
theorem mi_K_about : (.instanceMethod yK_about : Cond) ∈ zT := zT_in (List.mem_append_right _ (List.mem_append_left _ (List.mem_of_getElem? (l := tables_1_1) (i := 183) rfl))) rfl
theorem ms_K_about : (.selects "PolynomialDesk" yK_about yK_about : Cond) ∈ zT := zT_in (List.mem_append_right _ (List.mem_append_left _ (List.mem_of_getElem? (l := tables_1_1) (i := 184) rfl))) rfl
theorem ml_K_126 : (.methodLink "PolynomialDesk" 126 yK_isPolynomial : Cond) ∈ zT := zT_in (List.mem_append_right _ (List.mem_append_left _ (List.mem_of_getElem? (l := tables_1_1) (i := 186) rfl))) rfl
theorem mt_K_isPolynomial : (.static yK_isPolynomial : Cond) ∈ zT := zT_in (List.mem_append_right _ (List.mem_append_left _ (List.mem_of_getElem? (l := tables_1_1) (i := 187) rfl))) rfl
theorem ml_K_83 : (.methodLink "PolynomialDesk" 83 yR_countTerms : Cond) ∈ zT := zT_in (List.mem_append_right _ (List.mem_append_left _ (List.mem_of_getElem? (l := tables_1_1) (i := 189) rfl))) rfl
theorem mi_R_countTerms : (.instanceMethod yR_countTerms : Cond) ∈ zT := zT_in (List.mem_append_right _ (List.mem_append_left _ (List.mem_of_getElem? (l := tables_1_1) (i := 190) rfl))) rfl
theorem ms_R_countTerms : (.selects "PolynomialDesk$Ring" yR_countTerms yR_countTerms : Cond) ∈ zT := zT_in (List.mem_append_right _ (List.mem_append_left _ (List.mem_of_getElem? (l := tables_1_1) (i := 191) rfl))) rfl
theorem ml_K_129 : (.methodLink "PolynomialDesk" 129 yR_degreeOf : Cond) ∈ zT := zT_in (List.mem_append_right _ (List.mem_append_left _ (List.mem_of_getElem? (l := tables_1_1) (i := 193) rfl))) rfl
theorem mi_R_degreeOf : (.instanceMethod yR_degreeOf : Cond) ∈ zT := zT_in (List.mem_append_right _ (List.mem_append_left _ (List.mem_of_getElem? (l := tables_1_1) (i := 194) rfl))) rfl
theorem ms_R_degreeOf : (.selects "PolynomialDesk$Ring" yR_degreeOf yR_degreeOf : Cond) ∈ zT := zT_in (List.mem_append_right _ (List.mem_append_left _ (List.mem_of_getElem? (l := tables_1_1) (i := 195) rfl))) rfl
theorem ml_R_71 : (.methodLink "PolynomialDesk$Ring" 71 yR_leadingOf : Cond) ∈ zT := zT_in (List.mem_append_right _ (List.mem_append_left _ (List.mem_of_getElem? (l := tables_1_1) (i := 197) rfl))) rfl
theorem mi_R_leadingOf : (.instanceMethod yR_leadingOf : Cond) ∈ zT := zT_in (List.mem_append_right _ (List.mem_append_left _ (List.mem_of_getElem? (l := tables_1_1) (i := 199) rfl))) rfl
theorem ml_L_94 : (.methodLink "PolynomialDeskLaw" 94 yK_term : Cond) ∈ zT := zT_in (List.mem_append_right _ (List.mem_append_left _ (List.mem_of_getElem? (l := tables_1_1) (i := 201) rfl))) rfl
theorem mi_K_term : (.instanceMethod yK_term : Cond) ∈ zT := zT_in (List.mem_append_right _ (List.mem_append_left _ (List.mem_of_getElem? (l := tables_1_1) (i := 202) rfl))) rfl
theorem ms_K_term : (.selects "PolynomialDesk" yK_term yK_term : Cond) ∈ zT := zT_in (List.mem_append_right _ (List.mem_append_left _ (List.mem_of_getElem? (l := tables_1_1) (i := 203) rfl))) rfl
theorem ml_K_132 : (.methodLink "PolynomialDesk" 132 yR_indexOfTerm : Cond) ∈ zT := zT_in (List.mem_append_right _ (List.mem_append_left _ (List.mem_of_getElem? (l := tables_1_1) (i := 205) rfl))) rfl
theorem mi_R_indexOfTerm : (.instanceMethod yR_indexOfTerm : Cond) ∈ zT := zT_in (List.mem_append_right _ (List.mem_append_left _ (List.mem_of_getElem? (l := tables_1_1) (i := 206) rfl))) rfl
theorem ms_R_indexOfTerm : (.selects "PolynomialDesk$Ring" yR_indexOfTerm yR_indexOfTerm : Cond) ∈ zT := zT_in (List.mem_append_right _ (List.mem_append_left _ (List.mem_of_getElem? (l := tables_1_1) (i := 207) rfl))) rfl
theorem ml_K_136 : (.methodLink "PolynomialDesk" 136 yR_exponentOf : Cond) ∈ zT := zT_in (List.mem_append_right _ (List.mem_append_left _ (List.mem_of_getElem? (l := tables_1_1) (i := 209) rfl))) rfl
theorem mi_R_exponentOf : (.instanceMethod yR_exponentOf : Cond) ∈ zT := zT_in (List.mem_append_right _ (List.mem_append_left _ (List.mem_of_getElem? (l := tables_1_1) (i := 210) rfl))) rfl
theorem ms_R_exponentOf : (.selects "PolynomialDesk$Ring" yR_exponentOf yR_exponentOf : Cond) ∈ zT := zT_in (List.mem_append_right _ (List.mem_append_left _ (List.mem_of_getElem? (l := tables_1_1) (i := 211) rfl))) rfl
theorem ml_L_102 : (.methodLink "PolynomialDeskLaw" 102 yK_output : Cond) ∈ zT := zT_in (List.mem_append_right _ (List.mem_append_left _ (List.mem_of_getElem? (l := tables_1_1) (i := 213) rfl))) rfl
theorem mi_K_output : (.instanceMethod yK_output : Cond) ∈ zT := zT_in (List.mem_append_right _ (List.mem_append_left _ (List.mem_of_getElem? (l := tables_1_1) (i := 214) rfl))) rfl
theorem ms_K_output : (.selects "PolynomialDesk" yK_output yK_output : Cond) ∈ zT := zT_in (List.mem_append_right _ (List.mem_append_left _ (List.mem_of_getElem? (l := tables_1_1) (i := 215) rfl))) rfl
theorem ml_K_143 : (.methodLink "PolynomialDesk" 143 yP_byteAt : Cond) ∈ zT := zT_in (List.mem_append_right _ (List.mem_append_left _ (List.mem_of_getElem? (l := tables_1_1) (i := 217) rfl))) rfl
theorem mi_P_byteAt : (.instanceMethod yP_byteAt : Cond) ∈ zT := zT_in (List.mem_append_right _ (List.mem_append_left _ (List.mem_of_getElem? (l := tables_1_1) (i := 218) rfl))) rfl
theorem ms_P_byteAt : (.selects "PolynomialDesk$Printer" yP_byteAt yP_byteAt : Cond) ∈ zT := zT_in (List.mem_append_right _ (List.mem_append_left _ (List.mem_of_getElem? (l := tables_1_1) (i := 219) rfl))) rfl
theorem ml_L_47 : (.methodLink "PolynomialDeskLaw" 47 yL_field : Cond) ∈ zT := zT_in (List.mem_append_right _ (List.mem_append_left _ (List.mem_of_getElem? (l := tables_1_1) (i := 221) rfl))) rfl
theorem mt_L_field : (.static yL_field : Cond) ∈ zT := zT_in (List.mem_append_right _ (List.mem_append_left _ (List.mem_of_getElem? (l := tables_1_1) (i := 222) rfl))) rfl
theorem mc_L_13 : (.classLink "PolynomialDeskLaw" 13 "java/lang/IllegalArgumentException" : Cond) ∈ zT := zT_in (List.mem_append_right _ (List.mem_append_left _ (List.mem_of_getElem? (l := tables_1_1) (i := 224) rfl))) rfl
theorem ml_L_7 : (.methodLink "PolynomialDeskLaw" 7 yK_field : Cond) ∈ zT := zT_in (List.mem_append_right _ (List.mem_append_left _ (List.mem_of_getElem? (l := tables_1_1) (i := 225) rfl))) rfl
theorem mi_K_field : (.instanceMethod yK_field : Cond) ∈ zT := zT_in (List.mem_append_right _ (List.mem_append_left _ (List.mem_of_getElem? (l := tables_1_1) (i := 226) rfl))) rfl
theorem ms_K_field : (.selects "PolynomialDesk" yK_field yK_field : Cond) ∈ zT := zT_in (List.mem_append_right _ (List.mem_append_left _ (List.mem_of_getElem? (l := tables_1_1) (i := 227) rfl))) rfl
theorem ml_K_45 : (.methodLink "PolynomialDesk" 45 yK_isPrime : Cond) ∈ zT := zT_in (List.mem_append_right _ (List.mem_append_left _ (List.mem_of_getElem? (l := tables_1_1) (i := 229) rfl))) rfl
theorem mt_K_isPrime : (.static yK_isPrime : Cond) ∈ zT := zT_in (List.mem_append_right _ (List.mem_append_left _ (List.mem_of_getElem? (l := tables_1_1) (i := 230) rfl))) rfl
theorem mc_K_49 : (.classLink "PolynomialDesk" 49 "java/lang/IllegalArgumentException" : Cond) ∈ zT := zT_in (List.mem_append_right _ (List.mem_append_left _ (List.mem_of_getElem? (l := tables_1_1) (i := 232) rfl))) rfl
theorem ml_K_53 : (.methodLink "PolynomialDesk" 53 ⟨"java/lang/IllegalArgumentException", "<init>", "(Ljava/lang/String;)V"⟩ : Cond) ∈ zT := zT_in (List.mem_append_right _ (List.mem_append_right _ (List.mem_append_left _ (List.mem_of_getElem? (l := tables_1_2) (i := 34) rfl)))) rfl
theorem ma_byte : (.arrayClass .byte : Cond) ∈ zT := zT_in (List.mem_append_right _ (List.mem_append_right _ (List.mem_append_left _ (List.mem_of_getElem? (l := tables_1_2) (i := 59) rfl)))) rfl
theorem ml_K_60 : (.methodLink "PolynomialDesk" 60 yJ_fill : Cond) ∈ zT := zT_in (List.mem_append_right _ (List.mem_append_right _ (List.mem_append_left _ (List.mem_of_getElem? (l := tables_1_2) (i := 62) rfl)))) rfl
theorem ml_K_66 : (.methodLink "PolynomialDesk" 66 yP_clear : Cond) ∈ zT := zT_in (List.mem_append_right _ (List.mem_append_right _ (List.mem_append_left _ (List.mem_of_getElem? (l := tables_1_2) (i := 63) rfl)))) rfl
theorem mi_P_clear : (.instanceMethod yP_clear : Cond) ∈ zT := zT_in (List.mem_append_right _ (List.mem_append_right _ (List.mem_append_left _ (List.mem_of_getElem? (l := tables_1_2) (i := 64) rfl)))) rfl
theorem ms_P_clear : (.selects "PolynomialDesk$Printer" yP_clear yP_clear : Cond) ∈ zT := zT_in (List.mem_append_right _ (List.mem_append_right _ (List.mem_append_left _ (List.mem_of_getElem? (l := tables_1_2) (i := 65) rfl)))) rfl
theorem ml_L_64 : (.methodLink "PolynomialDeskLaw" 64 yL_read : Cond) ∈ zT := zT_in (List.mem_append_right _ (List.mem_append_right _ (List.mem_append_left _ (List.mem_of_getElem? (l := tables_1_2) (i := 67) rfl)))) rfl
theorem mt_L_read : (.static yL_read : Cond) ∈ zT := zT_in (List.mem_append_right _ (List.mem_append_right _ (List.mem_append_left _ (List.mem_of_getElem? (l := tables_1_2) (i := 68) rfl)))) rfl
theorem mc_L_19 : (.classLink "PolynomialDeskLaw" 19 "java/lang/IndexOutOfBoundsException" : Cond) ∈ zT := zT_in (List.mem_append_right _ (List.mem_append_right _ (List.mem_append_left _ (List.mem_of_getElem? (l := tables_1_2) (i := 70) rfl)))) rfl
theorem ml_L_15 : (.methodLink "PolynomialDeskLaw" 15 yK_read : Cond) ∈ zT := zT_in (List.mem_append_right _ (List.mem_append_right _ (List.mem_append_left _ (List.mem_of_getElem? (l := tables_1_2) (i := 71) rfl)))) rfl
theorem mi_K_read : (.instanceMethod yK_read : Cond) ∈ zT := zT_in (List.mem_append_right _ (List.mem_append_right _ (List.mem_append_left _ (List.mem_of_getElem? (l := tables_1_2) (i := 72) rfl)))) rfl
theorem ms_K_read : (.selects "PolynomialDesk" yK_read yK_read : Cond) ∈ zT := zT_in (List.mem_append_right _ (List.mem_append_right _ (List.mem_append_left _ (List.mem_of_getElem? (l := tables_1_2) (i := 73) rfl)))) rfl
theorem ml_K_73 : (.methodLink "PolynomialDesk" 73 yK_requirePolynomial : Cond) ∈ zT := zT_in (List.mem_append_right _ (List.mem_append_right _ (List.mem_append_left _ (List.mem_of_getElem? (l := tables_1_2) (i := 75) rfl)))) rfl
theorem mt_K_requirePolynomial : (.static yK_requirePolynomial : Cond) ∈ zT := zT_in (List.mem_append_right _ (List.mem_append_right _ (List.mem_append_left _ (List.mem_of_getElem? (l := tables_1_2) (i := 76) rfl)))) rfl
theorem mc_K_147 : (.classLink "PolynomialDesk" 147 "java/lang/IndexOutOfBoundsException" : Cond) ∈ zT := zT_in (List.mem_append_right _ (List.mem_append_right _ (List.mem_append_left _ (List.mem_of_getElem? (l := tables_1_2) (i := 78) rfl)))) rfl
theorem ml_K_151 : (.methodLink "PolynomialDesk" 151 ⟨"java/lang/IndexOutOfBoundsException", "<init>", "(Ljava/lang/String;)V"⟩ : Cond) ∈ zT := zT_in (List.mem_append_right _ (List.mem_append_right _ (List.mem_append_left _ (List.mem_of_getElem? (l := tables_1_2) (i := 88) rfl)))) rfl
theorem ml_K_77 : (.methodLink "PolynomialDesk" 77 yE_readText : Cond) ∈ zT := zT_in (List.mem_append_right _ (List.mem_append_right _ (List.mem_append_left _ (List.mem_of_getElem? (l := tables_1_2) (i := 94) rfl)))) rfl
theorem mi_E_readText : (.instanceMethod yE_readText : Cond) ∈ zT := zT_in (List.mem_append_right _ (List.mem_append_right _ (List.mem_append_left _ (List.mem_of_getElem? (l := tables_1_2) (i := 95) rfl)))) rfl
theorem ms_E_readText : (.selects "PolynomialDesk$Reader" yE_readText yE_readText : Cond) ∈ zT := zT_in (List.mem_append_right _ (List.mem_append_right _ (List.mem_append_left _ (List.mem_of_getElem? (l := tables_1_2) (i := 96) rfl)))) rfl
theorem ml_E_48 : (.methodLink "PolynomialDesk$Reader" 48 yE_readSum : Cond) ∈ zT := zT_in (List.mem_append_right _ (List.mem_append_right _ (List.mem_append_left _ (List.mem_of_getElem? (l := tables_1_2) (i := 98) rfl)))) rfl
theorem mi_E_readSum : (.instanceMethod yE_readSum : Cond) ∈ zT := zT_in (List.mem_append_right _ (List.mem_append_right _ (List.mem_append_left _ (List.mem_of_getElem? (l := tables_1_2) (i := 100) rfl)))) rfl
theorem ml_E_64 : (.methodLink "PolynomialDesk$Reader" 64 yJ_fill : Cond) ∈ zT := zT_in (List.mem_append_right _ (List.mem_append_right _ (List.mem_append_left _ (List.mem_of_getElem? (l := tables_1_2) (i := 102) rfl)))) rfl
theorem ml_E_52 : (.methodLink "PolynomialDesk$Reader" 52 yE_nextByte : Cond) ∈ zT := zT_in (List.mem_append_right _ (List.mem_append_right _ (List.mem_append_left _ (List.mem_of_getElem? (l := tables_1_2) (i := 103) rfl)))) rfl
theorem mi_E_nextByte : (.instanceMethod yE_nextByte : Cond) ∈ zT := zT_in (List.mem_append_right _ (List.mem_append_right _ (List.mem_append_left _ (List.mem_of_getElem? (l := tables_1_2) (i := 105) rfl)))) rfl
theorem ml_E_70 : (.methodLink "PolynomialDesk$Reader" 70 yE_readTerm : Cond) ∈ zT := zT_in (List.mem_append_right _ (List.mem_append_right _ (List.mem_append_left _ (List.mem_of_getElem? (l := tables_1_2) (i := 107) rfl)))) rfl
theorem mi_E_readTerm : (.instanceMethod yE_readTerm : Cond) ∈ zT := zT_in (List.mem_append_right _ (List.mem_append_right _ (List.mem_append_left _ (List.mem_of_getElem? (l := tables_1_2) (i := 109) rfl)))) rfl
theorem ml_E_81 : (.methodLink "PolynomialDesk$Reader" 81 yE_readFactor : Cond) ∈ zT := zT_in (List.mem_append_right _ (List.mem_append_right _ (List.mem_append_left _ (List.mem_of_getElem? (l := tables_1_2) (i := 111) rfl)))) rfl
theorem mi_E_readFactor : (.instanceMethod yE_readFactor : Cond) ∈ zT := zT_in (List.mem_append_right _ (List.mem_append_right _ (List.mem_append_left _ (List.mem_of_getElem? (l := tables_1_2) (i := 113) rfl)))) rfl
theorem ml_E_92 : (.methodLink "PolynomialDesk$Reader" 92 yE_readBareFactor : Cond) ∈ zT := zT_in (List.mem_append_right _ (List.mem_append_right _ (List.mem_append_left _ (List.mem_of_getElem? (l := tables_1_2) (i := 115) rfl)))) rfl
theorem mi_E_readBareFactor : (.instanceMethod yE_readBareFactor : Cond) ∈ zT := zT_in (List.mem_append_right _ (List.mem_append_right _ (List.mem_append_left _ (List.mem_of_getElem? (l := tables_1_2) (i := 117) rfl)))) rfl
theorem ml_E_107 : (.methodLink "PolynomialDesk$Reader" 107 yE_variableOf : Cond) ∈ zT := zT_in (List.mem_append_right _ (List.mem_append_right _ (List.mem_append_left _ (List.mem_of_getElem? (l := tables_1_2) (i := 119) rfl)))) rfl
theorem mt_E_variableOf : (.static yE_variableOf : Cond) ∈ zT := zT_in (List.mem_append_right _ (List.mem_append_right _ (List.mem_append_left _ (List.mem_of_getElem? (l := tables_1_2) (i := 120) rfl)))) rfl
theorem ml_E_110 : (.methodLink "PolynomialDesk$Reader" 110 yE_isDigit : Cond) ∈ zT := zT_in (List.mem_append_right _ (List.mem_append_right _ (List.mem_append_left _ (List.mem_of_getElem? (l := tables_1_2) (i := 122) rfl)))) rfl
theorem mt_E_isDigit : (.static yE_isDigit : Cond) ∈ zT := zT_in (List.mem_append_right _ (List.mem_append_right _ (List.mem_append_left _ (List.mem_of_getElem? (l := tables_1_2) (i := 123) rfl)))) rfl
theorem ml_E_95 : (.methodLink "PolynomialDesk$Reader" 95 yE_readNumber : Cond) ∈ zT := zT_in (List.mem_append_right _ (List.mem_append_right _ (List.mem_append_left _ (List.mem_of_getElem? (l := tables_1_2) (i := 125) rfl)))) rfl
theorem mi_E_readNumber : (.instanceMethod yE_readNumber : Cond) ∈ zT := zT_in (List.mem_append_right _ (List.mem_append_right _ (List.mem_append_left _ (List.mem_of_getElem? (l := tables_1_2) (i := 127) rfl)))) rfl
theorem ml_E_56 : (.methodLink "PolynomialDesk$Reader" 56 yE_noteFault : Cond) ∈ zT := zT_in (List.mem_append_right _ (List.mem_append_right _ (List.mem_append_left _ (List.mem_of_getElem? (l := tables_1_2) (i := 129) rfl)))) rfl
theorem mi_E_noteFault : (.instanceMethod yE_noteFault : Cond) ∈ zT := zT_in (List.mem_append_right _ (List.mem_append_right _ (List.mem_append_left _ (List.mem_of_getElem? (l := tables_1_2) (i := 131) rfl)))) rfl
theorem ml_E_113 : (.methodLink "PolynomialDesk$Reader" 113 yR_writeNumber : Cond) ∈ zT := zT_in (List.mem_append_right _ (List.mem_append_right _ (List.mem_append_left _ (List.mem_of_getElem? (l := tables_1_2) (i := 133) rfl)))) rfl
theorem mi_R_writeNumber : (.instanceMethod yR_writeNumber : Cond) ∈ zT := zT_in (List.mem_append_right _ (List.mem_append_right _ (List.mem_append_left _ (List.mem_of_getElem? (l := tables_1_2) (i := 134) rfl)))) rfl
theorem ms_R_writeNumber : (.selects "PolynomialDesk$Ring" yR_writeNumber yR_writeNumber : Cond) ∈ zT := zT_in (List.mem_append_right _ (List.mem_append_right _ (List.mem_append_left _ (List.mem_of_getElem? (l := tables_1_2) (i := 135) rfl)))) rfl
theorem ml_R_78 : (.methodLink "PolynomialDesk$Ring" 78 yR_reduce : Cond) ∈ zT := zT_in (List.mem_append_right _ (List.mem_append_right _ (List.mem_append_left _ (List.mem_of_getElem? (l := tables_1_2) (i := 137) rfl)))) rfl
theorem mi_R_reduce : (.instanceMethod yR_reduce : Cond) ∈ zT := zT_in (List.mem_append_right _ (List.mem_append_right _ (List.mem_append_left _ (List.mem_of_getElem? (l := tables_1_2) (i := 139) rfl)))) rfl
theorem ml_R_82 : (.methodLink "PolynomialDesk$Ring" 82 yR_addAt : Cond) ∈ zT := zT_in (List.mem_append_right _ (List.mem_append_right _ (List.mem_append_left _ (List.mem_of_getElem? (l := tables_1_2) (i := 141) rfl)))) rfl
theorem mi_R_addAt : (.instanceMethod yR_addAt : Cond) ∈ zT := zT_in (List.mem_append_right _ (List.mem_append_right _ (List.mem_append_left _ (List.mem_of_getElem? (l := tables_1_2) (i := 143) rfl)))) rfl
theorem ml_E_117 : (.methodLink "PolynomialDesk$Reader" 117 yR_variables : Cond) ∈ zT := zT_in (List.mem_append_right _ (List.mem_append_right _ (List.mem_append_left _ (List.mem_of_getElem? (l := tables_1_2) (i := 145) rfl)))) rfl
theorem mi_R_variables : (.instanceMethod yR_variables : Cond) ∈ zT := zT_in (List.mem_append_right _ (List.mem_append_right _ (List.mem_append_left _ (List.mem_of_getElem? (l := tables_1_2) (i := 146) rfl)))) rfl
theorem ms_R_variables : (.selects "PolynomialDesk$Ring" yR_variables yR_variables : Cond) ∈ zT := zT_in (List.mem_append_right _ (List.mem_append_right _ (List.mem_append_left _ (List.mem_of_getElem? (l := tables_1_2) (i := 147) rfl)))) rfl
theorem ml_E_120 : (.methodLink "PolynomialDesk$Reader" 120 yR_writeVariable : Cond) ∈ zT := zT_in (List.mem_append_right _ (List.mem_append_right _ (List.mem_append_left _ (List.mem_of_getElem? (l := tables_1_2) (i := 149) rfl)))) rfl
theorem mi_R_writeVariable : (.instanceMethod yR_writeVariable : Cond) ∈ zT := zT_in (List.mem_append_right _ (List.mem_append_right _ (List.mem_append_left _ (List.mem_of_getElem? (l := tables_1_2) (i := 150) rfl)))) rfl
theorem ms_R_writeVariable : (.selects "PolynomialDesk$Ring" yR_writeVariable yR_writeVariable : Cond) ∈ zT := zT_in (List.mem_append_right _ (List.mem_append_right _ (List.mem_append_left _ (List.mem_of_getElem? (l := tables_1_2) (i := 151) rfl)))) rfl
theorem ml_E_123 : (.methodLink "PolynomialDesk$Reader" 123 yE_readGroup : Cond) ∈ zT := zT_in (List.mem_append_right _ (List.mem_append_right _ (List.mem_append_left _ (List.mem_of_getElem? (l := tables_1_2) (i := 153) rfl)))) rfl
theorem mi_E_readGroup : (.instanceMethod yE_readGroup : Cond) ∈ zT := zT_in (List.mem_append_right _ (List.mem_append_right _ (List.mem_append_left _ (List.mem_of_getElem? (l := tables_1_2) (i := 155) rfl)))) rfl
theorem ml_E_60 : (.methodLink "PolynomialDesk$Reader" 60 yR_writeCopy : Cond) ∈ zT := zT_in (List.mem_append_right _ (List.mem_append_right _ (List.mem_append_left _ (List.mem_of_getElem? (l := tables_1_2) (i := 157) rfl)))) rfl
theorem mi_R_writeCopy : (.instanceMethod yR_writeCopy : Cond) ∈ zT := zT_in (List.mem_append_right _ (List.mem_append_right _ (List.mem_append_left _ (List.mem_of_getElem? (l := tables_1_2) (i := 158) rfl)))) rfl
theorem ms_R_writeCopy : (.selects "PolynomialDesk$Ring" yR_writeCopy yR_writeCopy : Cond) ∈ zT := zT_in (List.mem_append_right _ (List.mem_append_right _ (List.mem_append_left _ (List.mem_of_getElem? (l := tables_1_2) (i := 159) rfl)))) rfl
theorem ml_R_86 : (.methodLink "PolynomialDesk$Ring" 86 ⟨"java/lang/System", "arraycopy", "(Ljava/lang/Object;ILjava/lang/Object;II)V"⟩ : Cond) ∈ zT := zT_in (List.mem_append_right _ (List.mem_append_right _ (List.mem_append_left _ (List.mem_of_getElem? (l := tables_1_2) (i := 161) rfl)))) rfl
theorem mt_copy : (.static ⟨"java/lang/System", "arraycopy", "(Ljava/lang/Object;ILjava/lang/Object;II)V"⟩ : Cond) ∈ zT := zT_in (List.mem_append_right _ (List.mem_append_right _ (List.mem_append_left _ (List.mem_of_getElem? (l := tables_1_2) (i := 162) rfl)))) rfl
theorem mx_copy : (.native ⟨"java/lang/System", "arraycopy", "(Ljava/lang/Object;ILjava/lang/Object;II)V"⟩ : Cond) ∈ zT := zT_in (List.mem_append_right _ (List.mem_append_right _ (List.mem_append_left _ (List.mem_of_getElem? (l := tables_1_2) (i := 163) rfl)))) rfl
theorem ml_E_99 : (.methodLink "PolynomialDesk$Reader" 99 yR_isPowerTooHigh : Cond) ∈ zT := zT_in (List.mem_append_right _ (List.mem_append_right _ (List.mem_append_left _ (List.mem_of_getElem? (l := tables_1_2) (i := 164) rfl)))) rfl
theorem mi_R_isPowerTooHigh : (.instanceMethod yR_isPowerTooHigh : Cond) ∈ zT := zT_in (List.mem_append_right _ (List.mem_append_right _ (List.mem_append_left _ (List.mem_of_getElem? (l := tables_1_2) (i := 165) rfl)))) rfl
theorem ms_R_isPowerTooHigh : (.selects "PolynomialDesk$Ring" yR_isPowerTooHigh yR_isPowerTooHigh : Cond) ∈ zT := zT_in (List.mem_append_right _ (List.mem_append_right _ (List.mem_append_left _ (List.mem_of_getElem? (l := tables_1_2) (i := 166) rfl)))) rfl
theorem ml_R_75 : (.methodLink "PolynomialDesk$Ring" 75 yR_degreeOf : Cond) ∈ zT := zT_in (List.mem_append_right _ (List.mem_append_right _ (List.mem_append_left _ (List.mem_of_getElem? (l := tables_1_2) (i := 168) rfl)))) rfl
theorem ml_E_103 : (.methodLink "PolynomialDesk$Reader" 103 yR_writePower : Cond) ∈ zT := zT_in (List.mem_append_right _ (List.mem_append_right _ (List.mem_append_left _ (List.mem_of_getElem? (l := tables_1_2) (i := 169) rfl)))) rfl
theorem mi_R_writePower : (.instanceMethod yR_writePower : Cond) ∈ zT := zT_in (List.mem_append_right _ (List.mem_append_right _ (List.mem_append_left _ (List.mem_of_getElem? (l := tables_1_2) (i := 170) rfl)))) rfl
theorem ms_R_writePower : (.selects "PolynomialDesk$Ring" yR_writePower yR_writePower : Cond) ∈ zT := zT_in (List.mem_append_right _ (List.mem_append_right _ (List.mem_append_left _ (List.mem_of_getElem? (l := tables_1_2) (i := 171) rfl)))) rfl
theorem ml_R_92 : (.methodLink "PolynomialDesk$Ring" 92 yR_writeNumber : Cond) ∈ zT := zT_in (List.mem_append_right _ (List.mem_append_right _ (List.mem_append_left _ (List.mem_of_getElem? (l := tables_1_2) (i := 173) rfl)))) rfl
theorem ml_R_96 : (.methodLink "PolynomialDesk$Ring" 96 yR_writeProduct : Cond) ∈ zT := zT_in (List.mem_append_right _ (List.mem_append_right _ (List.mem_append_left _ (List.mem_of_getElem? (l := tables_1_2) (i := 174) rfl)))) rfl
theorem mi_R_writeProduct : (.instanceMethod yR_writeProduct : Cond) ∈ zT := zT_in (List.mem_append_right _ (List.mem_append_right _ (List.mem_append_left _ (List.mem_of_getElem? (l := tables_1_2) (i := 175) rfl)))) rfl
theorem ms_R_writeProduct : (.selects "PolynomialDesk$Ring" yR_writeProduct yR_writeProduct : Cond) ∈ zT := zT_in (List.mem_append_right _ (List.mem_append_right _ (List.mem_append_left _ (List.mem_of_getElem? (l := tables_1_2) (i := 176) rfl)))) rfl
theorem ml_E_84 : (.methodLink "PolynomialDesk$Reader" 84 yR_isProductTooHigh : Cond) ∈ zT := zT_in (List.mem_append_right _ (List.mem_append_right _ (List.mem_append_left _ (List.mem_of_getElem? (l := tables_1_2) (i := 178) rfl)))) rfl
theorem mi_R_isProductTooHigh : (.instanceMethod yR_isProductTooHigh : Cond) ∈ zT := zT_in (List.mem_append_right _ (List.mem_append_right _ (List.mem_append_left _ (List.mem_of_getElem? (l := tables_1_2) (i := 179) rfl)))) rfl
theorem ms_R_isProductTooHigh : (.selects "PolynomialDesk$Ring" yR_isProductTooHigh yR_isProductTooHigh : Cond) ∈ zT := zT_in (List.mem_append_right _ (List.mem_append_right _ (List.mem_append_left _ (List.mem_of_getElem? (l := tables_1_2) (i := 180) rfl)))) rfl
theorem ml_E_88 : (.methodLink "PolynomialDesk$Reader" 88 yR_writeProduct : Cond) ∈ zT := zT_in (List.mem_append_right _ (List.mem_append_right _ (List.mem_append_left _ (List.mem_of_getElem? (l := tables_1_2) (i := 182) rfl)))) rfl
theorem ml_E_73 : (.methodLink "PolynomialDesk$Reader" 73 yR_writeSum : Cond) ∈ zT := zT_in (List.mem_append_right _ (List.mem_append_right _ (List.mem_append_left _ (List.mem_of_getElem? (l := tables_1_2) (i := 183) rfl)))) rfl
theorem mi_R_writeSum : (.instanceMethod yR_writeSum : Cond) ∈ zT := zT_in (List.mem_append_right _ (List.mem_append_right _ (List.mem_append_left _ (List.mem_of_getElem? (l := tables_1_2) (i := 184) rfl)))) rfl
theorem ms_R_writeSum : (.selects "PolynomialDesk$Ring" yR_writeSum yR_writeSum : Cond) ∈ zT := zT_in (List.mem_append_right _ (List.mem_append_right _ (List.mem_append_left _ (List.mem_of_getElem? (l := tables_1_2) (i := 185) rfl)))) rfl
theorem ml_E_77 : (.methodLink "PolynomialDesk$Reader" 77 yE_isSign : Cond) ∈ zT := zT_in (List.mem_append_right _ (List.mem_append_right _ (List.mem_append_left _ (List.mem_of_getElem? (l := tables_1_2) (i := 187) rfl)))) rfl
theorem mt_E_isSign : (.static yE_isSign : Cond) ∈ zT := zT_in (List.mem_append_right _ (List.mem_append_right _ (List.mem_append_left _ (List.mem_of_getElem? (l := tables_1_2) (i := 188) rfl)))) rfl
theorem ml_L_72 : (.methodLink "PolynomialDeskLaw" 72 yL_add : Cond) ∈ zT := zT_in (List.mem_append_right _ (List.mem_append_right _ (List.mem_append_left _ (List.mem_of_getElem? (l := tables_1_2) (i := 191) rfl)))) rfl
theorem mt_L_add : (.static yL_add : Cond) ∈ zT := zT_in (List.mem_append_right _ (List.mem_append_right _ (List.mem_append_left _ (List.mem_of_getElem? (l := tables_1_2) (i := 192) rfl)))) rfl
theorem ml_L_21 : (.methodLink "PolynomialDeskLaw" 21 yK_add : Cond) ∈ zT := zT_in (List.mem_append_right _ (List.mem_append_right _ (List.mem_append_left _ (List.mem_of_getElem? (l := tables_1_2) (i := 194) rfl)))) rfl
theorem mi_K_add : (.instanceMethod yK_add : Cond) ∈ zT := zT_in (List.mem_append_right _ (List.mem_append_right _ (List.mem_append_left _ (List.mem_of_getElem? (l := tables_1_2) (i := 195) rfl)))) rfl
theorem ms_K_add : (.selects "PolynomialDesk" yK_add yK_add : Cond) ∈ zT := zT_in (List.mem_append_right _ (List.mem_append_right _ (List.mem_append_left _ (List.mem_of_getElem? (l := tables_1_2) (i := 196) rfl)))) rfl
theorem ml_K_94 : (.methodLink "PolynomialDesk" 94 yR_writeSum : Cond) ∈ zT := zT_in (List.mem_append_right _ (List.mem_append_right _ (List.mem_append_left _ (List.mem_of_getElem? (l := tables_1_2) (i := 198) rfl)))) rfl
theorem ml_L_76 : (.methodLink "PolynomialDeskLaw" 76 yL_multiply : Cond) ∈ zT := zT_in (List.mem_append_right _ (List.mem_append_right _ (List.mem_append_left _ (List.mem_of_getElem? (l := tables_1_2) (i := 199) rfl)))) rfl
theorem mt_L_multiply : (.static yL_multiply : Cond) ∈ zT := zT_in (List.mem_append_right _ (List.mem_append_right _ (List.mem_append_left _ (List.mem_of_getElem? (l := tables_1_2) (i := 200) rfl)))) rfl
theorem mc_L_28 : (.classLink "PolynomialDeskLaw" 28 "java/lang/IllegalStateException" : Cond) ∈ zT := zT_in (List.mem_append_right _ (List.mem_append_right _ (List.mem_append_left _ (List.mem_of_getElem? (l := tables_1_2) (i := 202) rfl)))) rfl
theorem ml_L_25 : (.methodLink "PolynomialDeskLaw" 25 yK_multiply : Cond) ∈ zT := zT_in (List.mem_append_right _ (List.mem_append_right _ (List.mem_append_left _ (List.mem_of_getElem? (l := tables_1_2) (i := 203) rfl)))) rfl
theorem mi_K_multiply : (.instanceMethod yK_multiply : Cond) ∈ zT := zT_in (List.mem_append_right _ (List.mem_append_right _ (List.mem_append_left _ (List.mem_of_getElem? (l := tables_1_2) (i := 204) rfl)))) rfl
theorem ms_K_multiply : (.selects "PolynomialDesk" yK_multiply yK_multiply : Cond) ∈ zT := zT_in (List.mem_append_right _ (List.mem_append_right _ (List.mem_append_left _ (List.mem_of_getElem? (l := tables_1_2) (i := 205) rfl)))) rfl
theorem ml_K_98 : (.methodLink "PolynomialDesk" 98 yR_isProductTooHigh : Cond) ∈ zT := zT_in (List.mem_append_right _ (List.mem_append_right _ (List.mem_append_left _ (List.mem_of_getElem? (l := tables_1_2) (i := 207) rfl)))) rfl
theorem mc_K_102 : (.classLink "PolynomialDesk" 102 "java/lang/IllegalStateException" : Cond) ∈ zT := zT_in (List.mem_append_right _ (List.mem_append_right _ (List.mem_append_left _ (List.mem_of_getElem? (l := tables_1_2) (i := 208) rfl)))) rfl
theorem ml_K_106 : (.methodLink "PolynomialDesk" 106 ⟨"java/lang/IllegalStateException", "<init>", "(Ljava/lang/String;)V"⟩ : Cond) ∈ zT := zT_in (List.mem_append_right _ (List.mem_append_right _ (List.mem_append_left _ (List.mem_of_getElem? (l := tables_1_2) (i := 218) rfl)))) rfl
theorem ml_K_107 : (.methodLink "PolynomialDesk" 107 yR_writeProduct : Cond) ∈ zT := zT_in (List.mem_append_right _ (List.mem_append_right _ (List.mem_append_left _ (List.mem_of_getElem? (l := tables_1_2) (i := 224) rfl)))) rfl
theorem ml_L_79 : (.methodLink "PolynomialDeskLaw" 79 yL_derive : Cond) ∈ zT := zT_in (List.mem_append_right _ (List.mem_append_right _ (List.mem_append_left _ (List.mem_of_getElem? (l := tables_1_2) (i := 225) rfl)))) rfl
theorem mt_L_derive : (.static yL_derive : Cond) ∈ zT := zT_in (List.mem_append_right _ (List.mem_append_right _ (List.mem_append_left _ (List.mem_of_getElem? (l := tables_1_2) (i := 226) rfl)))) rfl
theorem ml_L_30 : (.methodLink "PolynomialDeskLaw" 30 yK_derive : Cond) ∈ zT := zT_in (List.mem_append_right _ (List.mem_append_right _ (List.mem_append_left _ (List.mem_of_getElem? (l := tables_1_2) (i := 228) rfl)))) rfl
theorem mi_K_derive : (.instanceMethod yK_derive : Cond) ∈ zT := zT_in (List.mem_append_right _ (List.mem_append_right _ (List.mem_append_left _ (List.mem_of_getElem? (l := tables_1_2) (i := 229) rfl)))) rfl
theorem ms_K_derive : (.selects "PolynomialDesk" yK_derive yK_derive : Cond) ∈ zT := zT_in (List.mem_append_right _ (List.mem_append_right _ (List.mem_append_left _ (List.mem_of_getElem? (l := tables_1_2) (i := 230) rfl)))) rfl
theorem ml_K_111 : (.methodLink "PolynomialDesk" 111 yK_requireVariable : Cond) ∈ zT := zT_in (List.mem_append_right _ (List.mem_append_right _ (List.mem_append_left _ (List.mem_of_getElem? (l := tables_1_2) (i := 232) rfl)))) rfl
theorem mi_K_requireVariable : (.instanceMethod yK_requireVariable : Cond) ∈ zT := zT_in (List.mem_append_right _ (List.mem_append_right _ (List.mem_append_left _ (List.mem_of_getElem? (l := tables_1_2) (i := 234) rfl)))) rfl
theorem ml_K_152 : (.methodLink "PolynomialDesk" 152 yR_variables : Cond) ∈ zT := zT_in (List.mem_append_right _ (List.mem_append_right _ (List.mem_append_left _ (List.mem_of_getElem? (l := tables_1_2) (i := 236) rfl)))) rfl
theorem ml_K_114 : (.methodLink "PolynomialDesk" 114 yR_writeDerivative : Cond) ∈ zT := zT_in (List.mem_append_right _ (List.mem_append_right _ (List.mem_append_left _ (List.mem_of_getElem? (l := tables_1_2) (i := 238) rfl)))) rfl
theorem mi_R_writeDerivative : (.instanceMethod yR_writeDerivative : Cond) ∈ zT := zT_in (List.mem_append_right _ (List.mem_append_right _ (List.mem_append_left _ (List.mem_of_getElem? (l := tables_1_2) (i := 239) rfl)))) rfl
theorem ms_R_writeDerivative : (.selects "PolynomialDesk$Ring" yR_writeDerivative yR_writeDerivative : Cond) ∈ zT := zT_in (List.mem_append_right _ (List.mem_append_right _ (List.mem_append_right _ (List.mem_append_left _ (List.mem_of_getElem? (l := tables_1_3) (i := 0) rfl))))) rfl
theorem ml_R_100 : (.methodLink "PolynomialDesk$Ring" 100 yR_exponentOf : Cond) ∈ zT := zT_in (List.mem_append_right _ (List.mem_append_right _ (List.mem_append_right _ (List.mem_append_left _ (List.mem_of_getElem? (l := tables_1_3) (i := 2) rfl))))) rfl
theorem ml_L_82 : (.methodLink "PolynomialDeskLaw" 82 yL_set : Cond) ∈ zT := zT_in (List.mem_append_right _ (List.mem_append_right _ (List.mem_append_right _ (List.mem_append_left _ (List.mem_of_getElem? (l := tables_1_3) (i := 3) rfl))))) rfl
theorem mt_L_set : (.static yL_set : Cond) ∈ zT := zT_in (List.mem_append_right _ (List.mem_append_right _ (List.mem_append_right _ (List.mem_append_left _ (List.mem_of_getElem? (l := tables_1_3) (i := 4) rfl))))) rfl
theorem ml_L_33 : (.methodLink "PolynomialDeskLaw" 33 yK_set : Cond) ∈ zT := zT_in (List.mem_append_right _ (List.mem_append_right _ (List.mem_append_right _ (List.mem_append_left _ (List.mem_of_getElem? (l := tables_1_3) (i := 6) rfl))))) rfl
theorem mi_K_set : (.instanceMethod yK_set : Cond) ∈ zT := zT_in (List.mem_append_right _ (List.mem_append_right _ (List.mem_append_right _ (List.mem_append_left _ (List.mem_of_getElem? (l := tables_1_3) (i := 7) rfl))))) rfl
theorem ms_K_set : (.selects "PolynomialDesk" yK_set yK_set : Cond) ∈ zT := zT_in (List.mem_append_right _ (List.mem_append_right _ (List.mem_append_right _ (List.mem_append_left _ (List.mem_of_getElem? (l := tables_1_3) (i := 8) rfl))))) rfl
theorem ml_K_118 : (.methodLink "PolynomialDesk" 118 yR_writeSubstitute : Cond) ∈ zT := zT_in (List.mem_append_right _ (List.mem_append_right _ (List.mem_append_right _ (List.mem_append_left _ (List.mem_of_getElem? (l := tables_1_3) (i := 10) rfl))))) rfl
theorem mi_R_writeSubstitute : (.instanceMethod yR_writeSubstitute : Cond) ∈ zT := zT_in (List.mem_append_right _ (List.mem_append_right _ (List.mem_append_right _ (List.mem_append_left _ (List.mem_of_getElem? (l := tables_1_3) (i := 11) rfl))))) rfl
theorem ms_R_writeSubstitute : (.selects "PolynomialDesk$Ring" yR_writeSubstitute yR_writeSubstitute : Cond) ∈ zT := zT_in (List.mem_append_right _ (List.mem_append_right _ (List.mem_append_right _ (List.mem_append_left _ (List.mem_of_getElem? (l := tables_1_3) (i := 12) rfl))))) rfl
theorem ml_R_104 : (.methodLink "PolynomialDesk$Ring" 104 yR_timesPower : Cond) ∈ zT := zT_in (List.mem_append_right _ (List.mem_append_right _ (List.mem_append_right _ (List.mem_append_left _ (List.mem_of_getElem? (l := tables_1_3) (i := 14) rfl))))) rfl
theorem mi_R_timesPower : (.instanceMethod yR_timesPower : Cond) ∈ zT := zT_in (List.mem_append_right _ (List.mem_append_right _ (List.mem_append_right _ (List.mem_append_left _ (List.mem_of_getElem? (l := tables_1_3) (i := 16) rfl))))) rfl
theorem ml_L_85 : (.methodLink "PolynomialDeskLaw" 85 yL_value : Cond) ∈ zT := zT_in (List.mem_append_right _ (List.mem_append_right _ (List.mem_append_right _ (List.mem_append_left _ (List.mem_of_getElem? (l := tables_1_3) (i := 18) rfl))))) rfl
theorem mt_L_value : (.static yL_value : Cond) ∈ zT := zT_in (List.mem_append_right _ (List.mem_append_right _ (List.mem_append_right _ (List.mem_append_left _ (List.mem_of_getElem? (l := tables_1_3) (i := 19) rfl))))) rfl
theorem ml_L_36 : (.methodLink "PolynomialDeskLaw" 36 yK_value : Cond) ∈ zT := zT_in (List.mem_append_right _ (List.mem_append_right _ (List.mem_append_right _ (List.mem_append_left _ (List.mem_of_getElem? (l := tables_1_3) (i := 21) rfl))))) rfl
theorem mi_K_value : (.instanceMethod yK_value : Cond) ∈ zT := zT_in (List.mem_append_right _ (List.mem_append_right _ (List.mem_append_right _ (List.mem_append_left _ (List.mem_of_getElem? (l := tables_1_3) (i := 22) rfl))))) rfl
theorem ms_K_value : (.selects "PolynomialDesk" yK_value yK_value : Cond) ∈ zT := zT_in (List.mem_append_right _ (List.mem_append_right _ (List.mem_append_right _ (List.mem_append_left _ (List.mem_of_getElem? (l := tables_1_3) (i := 23) rfl))))) rfl
theorem ml_K_122 : (.methodLink "PolynomialDesk" 122 yR_evaluate : Cond) ∈ zT := zT_in (List.mem_append_right _ (List.mem_append_right _ (List.mem_append_right _ (List.mem_append_left _ (List.mem_of_getElem? (l := tables_1_3) (i := 25) rfl))))) rfl
theorem mi_R_evaluate : (.instanceMethod yR_evaluate : Cond) ∈ zT := zT_in (List.mem_append_right _ (List.mem_append_right _ (List.mem_append_right _ (List.mem_append_left _ (List.mem_of_getElem? (l := tables_1_3) (i := 26) rfl))))) rfl
theorem ms_R_evaluate : (.selects "PolynomialDesk$Ring" yR_evaluate yR_evaluate : Cond) ∈ zT := zT_in (List.mem_append_right _ (List.mem_append_right _ (List.mem_append_right _ (List.mem_append_left _ (List.mem_of_getElem? (l := tables_1_3) (i := 27) rfl))))) rfl
theorem ml_L_99 : (.methodLink "PolynomialDeskLaw" 99 yL_print : Cond) ∈ zT := zT_in (List.mem_append_right _ (List.mem_append_right _ (List.mem_append_right _ (List.mem_append_left _ (List.mem_of_getElem? (l := tables_1_3) (i := 29) rfl))))) rfl
theorem mt_L_print : (.static yL_print : Cond) ∈ zT := zT_in (List.mem_append_right _ (List.mem_append_right _ (List.mem_append_right _ (List.mem_append_left _ (List.mem_of_getElem? (l := tables_1_3) (i := 30) rfl))))) rfl
theorem ml_L_40 : (.methodLink "PolynomialDeskLaw" 40 yK_print : Cond) ∈ zT := zT_in (List.mem_append_right _ (List.mem_append_right _ (List.mem_append_right _ (List.mem_append_left _ (List.mem_of_getElem? (l := tables_1_3) (i := 32) rfl))))) rfl
theorem mi_K_print : (.instanceMethod yK_print : Cond) ∈ zT := zT_in (List.mem_append_right _ (List.mem_append_right _ (List.mem_append_right _ (List.mem_append_left _ (List.mem_of_getElem? (l := tables_1_3) (i := 33) rfl))))) rfl
theorem ms_K_print : (.selects "PolynomialDesk" yK_print yK_print : Cond) ∈ zT := zT_in (List.mem_append_right _ (List.mem_append_right _ (List.mem_append_right _ (List.mem_append_left _ (List.mem_of_getElem? (l := tables_1_3) (i := 34) rfl))))) rfl
theorem ml_K_140 : (.methodLink "PolynomialDesk" 140 yP_writePolynomial : Cond) ∈ zT := zT_in (List.mem_append_right _ (List.mem_append_right _ (List.mem_append_right _ (List.mem_append_left _ (List.mem_of_getElem? (l := tables_1_3) (i := 36) rfl))))) rfl
theorem mi_P_writePolynomial : (.instanceMethod yP_writePolynomial : Cond) ∈ zT := zT_in (List.mem_append_right _ (List.mem_append_right _ (List.mem_append_right _ (List.mem_append_left _ (List.mem_of_getElem? (l := tables_1_3) (i := 37) rfl))))) rfl
theorem ms_P_writePolynomial : (.selects "PolynomialDesk$Printer" yP_writePolynomial yP_writePolynomial : Cond) ∈ zT := zT_in (List.mem_append_right _ (List.mem_append_right _ (List.mem_append_right _ (List.mem_append_left _ (List.mem_of_getElem? (l := tables_1_3) (i := 38) rfl))))) rfl
theorem ml_P_25 : (.methodLink "PolynomialDesk$Printer" 25 yP_clear : Cond) ∈ zT := zT_in (List.mem_append_right _ (List.mem_append_right _ (List.mem_append_right _ (List.mem_append_left _ (List.mem_of_getElem? (l := tables_1_3) (i := 40) rfl))))) rfl
theorem ml_P_28 : (.methodLink "PolynomialDesk$Printer" 28 yP_writeByte : Cond) ∈ zT := zT_in (List.mem_append_right _ (List.mem_append_right _ (List.mem_append_right _ (List.mem_append_left _ (List.mem_of_getElem? (l := tables_1_3) (i := 41) rfl))))) rfl
theorem mi_P_writeByte : (.instanceMethod yP_writeByte : Cond) ∈ zT := zT_in (List.mem_append_right _ (List.mem_append_right _ (List.mem_append_right _ (List.mem_append_left _ (List.mem_of_getElem? (l := tables_1_3) (i := 43) rfl))))) rfl
theorem ml_P_32 : (.methodLink "PolynomialDesk$Printer" 32 yP_writeTerm : Cond) ∈ zT := zT_in (List.mem_append_right _ (List.mem_append_right _ (List.mem_append_right _ (List.mem_append_left _ (List.mem_of_getElem? (l := tables_1_3) (i := 45) rfl))))) rfl
theorem mi_P_writeTerm : (.instanceMethod yP_writeTerm : Cond) ∈ zT := zT_in (List.mem_append_right _ (List.mem_append_right _ (List.mem_append_right _ (List.mem_append_left _ (List.mem_of_getElem? (l := tables_1_3) (i := 47) rfl))))) rfl
theorem ml_P_36 : (.methodLink "PolynomialDesk$Printer" 36 yP_writeNumber : Cond) ∈ zT := zT_in (List.mem_append_right _ (List.mem_append_right _ (List.mem_append_right _ (List.mem_append_left _ (List.mem_of_getElem? (l := tables_1_3) (i := 49) rfl))))) rfl
theorem mi_P_writeNumber : (.instanceMethod yP_writeNumber : Cond) ∈ zT := zT_in (List.mem_append_right _ (List.mem_append_right _ (List.mem_append_right _ (List.mem_append_left _ (List.mem_of_getElem? (l := tables_1_3) (i := 51) rfl))))) rfl
theorem ml_P_40 : (.methodLink "PolynomialDesk$Printer" 40 yR_exponentOf : Cond) ∈ zT := zT_in (List.mem_append_right _ (List.mem_append_right _ (List.mem_append_right _ (List.mem_append_left _ (List.mem_of_getElem? (l := tables_1_3) (i := 53) rfl))))) rfl
theorem ml_P_46 : (.methodLink "PolynomialDesk$Printer" 46 ⟨"java/lang/String", "charAt", "(I)C"⟩ : Cond) ∈ zT := zT_in (List.mem_append_right _ (List.mem_append_right _ (List.mem_append_right _ (List.mem_append_left _ (List.mem_of_getElem? (l := tables_1_3) (i := 55) rfl))))) rfl
theorem mc_L_44 : (.classLink "PolynomialDeskLaw" 44 "PolynomialDeskModel" : Cond) ∈ zT := zT_in (List.mem_append_right _ (List.mem_append_right _ (List.mem_append_right _ (List.mem_append_left _ (List.mem_of_getElem? (l := tables_1_3) (i := 95) rfl))))) rfl
theorem mb_M : (.instantiable "PolynomialDeskModel" 27 : Cond) ∈ zT := zT_in (List.mem_append_right _ (List.mem_append_right _ (List.mem_append_right _ (List.mem_append_left _ (List.mem_of_getElem? (l := tables_1_3) (i := 96) rfl))))) rfl
theorem ml_L_46 : (.methodLink "PolynomialDeskLaw" 46 yM_init : Cond) ∈ zT := zT_in (List.mem_append_right _ (List.mem_append_right _ (List.mem_append_right _ (List.mem_append_left _ (List.mem_of_getElem? (l := tables_1_3) (i := 97) rfl))))) rfl
theorem mi_M_init : (.instanceMethod yM_init : Cond) ∈ zT := zT_in (List.mem_append_right _ (List.mem_append_right _ (List.mem_append_right _ (List.mem_append_left _ (List.mem_of_getElem? (l := tables_1_3) (i := 98) rfl))))) rfl
theorem ml_M_1 : (.methodLink "PolynomialDeskModel" 1 ⟨"java/lang/Object", "<init>", "()V"⟩ : Cond) ∈ zT := zT_in (List.mem_append_right _ (List.mem_append_right _ (List.mem_append_right _ (List.mem_append_left _ (List.mem_of_getElem? (l := tables_1_3) (i := 100) rfl))))) rfl
theorem mq_M_26 : (.constant "PolynomialDeskModel" 26 (94608) : Cond) ∈ zT := zT_in (List.mem_append_right _ (List.mem_append_right _ (List.mem_append_right _ (List.mem_append_left _ (List.mem_of_getElem? (l := tables_1_3) (i := 101) rfl))))) rfl
theorem ml_M_48 : (.methodLink "PolynomialDeskModel" 48 yM_prepare : Cond) ∈ zT := zT_in (List.mem_append_right _ (List.mem_append_right _ (List.mem_append_right _ (List.mem_append_left _ (List.mem_of_getElem? (l := tables_1_3) (i := 102) rfl))))) rfl
theorem mi_M_prepare : (.instanceMethod yM_prepare : Cond) ∈ zT := zT_in (List.mem_append_right _ (List.mem_append_right _ (List.mem_append_right _ (List.mem_append_left _ (List.mem_of_getElem? (l := tables_1_3) (i := 104) rfl))))) rfl
theorem ml_M_70 : (.methodLink "PolynomialDeskModel" 70 yM_list : Cond) ∈ zT := zT_in (List.mem_append_right _ (List.mem_append_right _ (List.mem_append_right _ (List.mem_append_left _ (List.mem_of_getElem? (l := tables_1_3) (i := 106) rfl))))) rfl
theorem mi_M_list : (.instanceMethod yM_list : Cond) ∈ zT := zT_in (List.mem_append_right _ (List.mem_append_right _ (List.mem_append_right _ (List.mem_append_left _ (List.mem_of_getElem? (l := tables_1_3) (i := 108) rfl))))) rfl
theorem ml_M_77 : (.methodLink "PolynomialDeskModel" 77 yM_isGreater : Cond) ∈ zT := zT_in (List.mem_append_right _ (List.mem_append_right _ (List.mem_append_right _ (List.mem_append_left _ (List.mem_of_getElem? (l := tables_1_3) (i := 110) rfl))))) rfl
theorem mi_M_isGreater : (.instanceMethod yM_isGreater : Cond) ∈ zT := zT_in (List.mem_append_right _ (List.mem_append_right _ (List.mem_append_right _ (List.mem_append_left _ (List.mem_of_getElem? (l := tables_1_3) (i := 112) rfl))))) rfl
theorem mf_M_52 : (.fieldLink "PolynomialDeskModel" 52 "PolynomialDeskModel" "thrown" "I" : Cond) ∈ zT := zT_in (List.mem_append_right _ (List.mem_append_right _ (List.mem_append_right _ (List.mem_append_left _ (List.mem_of_getElem? (l := tables_1_3) (i := 114) rfl))))) rfl
theorem mf_M_7 : (.fieldLink "PolynomialDeskModel" 7 "PolynomialDeskModel" "prime" "I" : Cond) ∈ zT := zT_in (List.mem_append_right _ (List.mem_append_right _ (List.mem_append_right _ (List.mem_append_left _ (List.mem_of_getElem? (l := tables_1_3) (i := 115) rfl))))) rfl
theorem mf_M_55 : (.fieldLink "PolynomialDeskModel" 55 "PolynomialDeskModel" "many" "I" : Cond) ∈ zT := zT_in (List.mem_append_right _ (List.mem_append_right _ (List.mem_append_right _ (List.mem_append_left _ (List.mem_of_getElem? (l := tables_1_3) (i := 116) rfl))))) rfl
theorem mf_M_58 : (.fieldLink "PolynomialDeskModel" 58 "PolynomialDeskModel" "order" "I" : Cond) ∈ zT := zT_in (List.mem_append_right _ (List.mem_append_right _ (List.mem_append_right _ (List.mem_append_left _ (List.mem_of_getElem? (l := tables_1_3) (i := 117) rfl))))) rfl
theorem mf_M_61 : (.fieldLink "PolynomialDeskModel" 61 "PolynomialDeskModel" "highest" "I" : Cond) ∈ zT := zT_in (List.mem_append_right _ (List.mem_append_right _ (List.mem_append_right _ (List.mem_append_left _ (List.mem_of_getElem? (l := tables_1_3) (i := 118) rfl))))) rfl
theorem mf_M_64 : (.fieldLink "PolynomialDeskModel" 64 "PolynomialDeskModel" "base" "I" : Cond) ∈ zT := zT_in (List.mem_append_right _ (List.mem_append_right _ (List.mem_append_right _ (List.mem_append_left _ (List.mem_of_getElem? (l := tables_1_3) (i := 119) rfl))))) rfl
theorem mf_M_13 : (.fieldLink "PolynomialDeskModel" 13 "PolynomialDeskModel" "degree" "[I" : Cond) ∈ zT := zT_in (List.mem_append_right _ (List.mem_append_right _ (List.mem_append_right _ (List.mem_append_left _ (List.mem_of_getElem? (l := tables_1_3) (i := 120) rfl))))) rfl
theorem mf_M_17 : (.fieldLink "PolynomialDeskModel" 17 "PolynomialDeskModel" "exponents" "[I" : Cond) ∈ zT := zT_in (List.mem_append_right _ (List.mem_append_right _ (List.mem_append_right _ (List.mem_append_left _ (List.mem_of_getElem? (l := tables_1_3) (i := 121) rfl))))) rfl
theorem mf_M_20 : (.fieldLink "PolynomialDeskModel" 20 "PolynomialDeskModel" "listed" "[I" : Cond) ∈ zT := zT_in (List.mem_append_right _ (List.mem_append_right _ (List.mem_append_right _ (List.mem_append_left _ (List.mem_of_getElem? (l := tables_1_3) (i := 122) rfl))))) rfl
theorem mf_M_23 : (.fieldLink "PolynomialDeskModel" 23 "PolynomialDeskModel" "unit" "[I" : Cond) ∈ zT := zT_in (List.mem_append_right _ (List.mem_append_right _ (List.mem_append_right _ (List.mem_append_left _ (List.mem_of_getElem? (l := tables_1_3) (i := 123) rfl))))) rfl
theorem mf_M_67 : (.fieldLink "PolynomialDeskModel" 67 "PolynomialDeskModel" "monomials" "I" : Cond) ∈ zT := zT_in (List.mem_append_right _ (List.mem_append_right _ (List.mem_append_right _ (List.mem_append_left _ (List.mem_of_getElem? (l := tables_1_3) (i := 124) rfl))))) rfl
theorem mf_M_27 : (.fieldLink "PolynomialDeskModel" 27 "PolynomialDeskModel" "cells" "[I" : Cond) ∈ zT := zT_in (List.mem_append_right _ (List.mem_append_right _ (List.mem_append_right _ (List.mem_append_left _ (List.mem_of_getElem? (l := tables_1_3) (i := 125) rfl))))) rfl
theorem mf_M_30 : (.fieldLink "PolynomialDeskModel" 30 "PolynomialDeskModel" "hand" "[I" : Cond) ∈ zT := zT_in (List.mem_append_right _ (List.mem_append_right _ (List.mem_append_right _ (List.mem_append_left _ (List.mem_of_getElem? (l := tables_1_3) (i := 126) rfl))))) rfl
theorem mf_M_103 : (.fieldLink "PolynomialDeskModel" 103 "PolynomialDeskModel" "inHand" "I" : Cond) ∈ zT := zT_in (List.mem_append_right _ (List.mem_append_right _ (List.mem_append_right _ (List.mem_append_left _ (List.mem_of_getElem? (l := tables_1_3) (i := 127) rfl))))) rfl
theorem mf_M_182 : (.fieldLink "PolynomialDeskModel" 182 "PolynomialDeskModel" "fault" "I" : Cond) ∈ zT := zT_in (List.mem_append_right _ (List.mem_append_right _ (List.mem_append_right _ (List.mem_append_left _ (List.mem_of_getElem? (l := tables_1_3) (i := 128) rfl))))) rfl
theorem mf_M_33 : (.fieldLink "PolynomialDeskModel" 33 "PolynomialDeskModel" "place" "I" : Cond) ∈ zT := zT_in (List.mem_append_right _ (List.mem_append_right _ (List.mem_append_right _ (List.mem_append_left _ (List.mem_of_getElem? (l := tables_1_3) (i := 129) rfl))))) rfl
theorem mf_M_112 : (.fieldLink "PolynomialDeskModel" 112 "PolynomialDeskModel" "n" "I" : Cond) ∈ zT := zT_in (List.mem_append_right _ (List.mem_append_right _ (List.mem_append_right _ (List.mem_append_left _ (List.mem_of_getElem? (l := tables_1_3) (i := 130) rfl))))) rfl
theorem mf_M_109 : (.fieldLink "PolynomialDeskModel" 109 "PolynomialDeskModel" "at" "I" : Cond) ∈ zT := zT_in (List.mem_append_right _ (List.mem_append_right _ (List.mem_append_right _ (List.mem_append_left _ (List.mem_of_getElem? (l := tables_1_3) (i := 131) rfl))))) rfl
theorem mf_M_136 : (.fieldLink "PolynomialDeskModel" 136 "PolynomialDeskModel" "state" "I" : Cond) ∈ zT := zT_in (List.mem_append_right _ (List.mem_append_right _ (List.mem_append_right _ (List.mem_append_left _ (List.mem_of_getElem? (l := tables_1_3) (i := 132) rfl))))) rfl
theorem mf_M_106 : (.fieldLink "PolynomialDeskModel" 106 "PolynomialDeskModel" "depth" "I" : Cond) ∈ zT := zT_in (List.mem_append_right _ (List.mem_append_right _ (List.mem_append_right _ (List.mem_append_left _ (List.mem_of_getElem? (l := tables_1_3) (i := 133) rfl))))) rfl
theorem mf_M_115 : (.fieldLink "PolynomialDeskModel" 115 "PolynomialDeskModel" "failed" "I" : Cond) ∈ zT := zT_in (List.mem_append_right _ (List.mem_append_right _ (List.mem_append_right _ (List.mem_append_left _ (List.mem_of_getElem? (l := tables_1_3) (i := 134) rfl))))) rfl
theorem mf_M_118 : (.fieldLink "PolynomialDeskModel" 118 "PolynomialDeskModel" "failedAt" "I" : Cond) ∈ zT := zT_in (List.mem_append_right _ (List.mem_append_right _ (List.mem_append_right _ (List.mem_append_left _ (List.mem_of_getElem? (l := tables_1_3) (i := 135) rfl))))) rfl
theorem mf_M_36 : (.fieldLink "PolynomialDeskModel" 36 "PolynomialDeskModel" "text" "[I" : Cond) ∈ zT := zT_in (List.mem_append_right _ (List.mem_append_right _ (List.mem_append_right _ (List.mem_append_left _ (List.mem_of_getElem? (l := tables_1_3) (i := 136) rfl))))) rfl
theorem mf_M_39 : (.fieldLink "PolynomialDeskModel" 39 "PolynomialDeskModel" "sign" "[I" : Cond) ∈ zT := zT_in (List.mem_append_right _ (List.mem_append_right _ (List.mem_append_right _ (List.mem_append_left _ (List.mem_of_getElem? (l := tables_1_3) (i := 137) rfl))))) rfl
theorem mf_M_42 : (.fieldLink "PolynomialDeskModel" 42 "PolynomialDeskModel" "star" "[I" : Cond) ∈ zT := zT_in (List.mem_append_right _ (List.mem_append_right _ (List.mem_append_right _ (List.mem_append_left _ (List.mem_of_getElem? (l := tables_1_3) (i := 138) rfl))))) rfl
theorem mf_M_45 : (.fieldLink "PolynomialDeskModel" 45 "PolynomialDeskModel" "out" "[I" : Cond) ∈ zT := zT_in (List.mem_append_right _ (List.mem_append_right _ (List.mem_append_right _ (List.mem_append_left _ (List.mem_of_getElem? (l := tables_1_3) (i := 139) rfl))))) rfl
theorem mf_M_74 : (.fieldLink "PolynomialDeskModel" 74 "PolynomialDeskModel" "printed" "I" : Cond) ∈ zT := zT_in (List.mem_append_right _ (List.mem_append_right _ (List.mem_append_right _ (List.mem_append_left _ (List.mem_of_getElem? (l := tables_1_3) (i := 140) rfl))))) rfl
theorem ml_L_53 : (.methodLink "PolynomialDeskLaw" 53 yM_thrown : Cond) ∈ zT := zT_in (List.mem_append_right _ (List.mem_append_right _ (List.mem_append_right _ (List.mem_append_left _ (List.mem_of_getElem? (l := tables_1_3) (i := 196) rfl))))) rfl
theorem mi_M_thrown : (.instanceMethod yM_thrown : Cond) ∈ zT := zT_in (List.mem_append_right _ (List.mem_append_right _ (List.mem_append_right _ (List.mem_append_left _ (List.mem_of_getElem? (l := tables_1_3) (i := 197) rfl))))) rfl
theorem ms_M_thrown : (.selects "PolynomialDeskModel" yM_thrown yM_thrown : Cond) ∈ zT := zT_in (List.mem_append_right _ (List.mem_append_right _ (List.mem_append_right _ (List.mem_append_left _ (List.mem_of_getElem? (l := tables_1_3) (i := 198) rfl))))) rfl
theorem ml_L_52 : (.methodLink "PolynomialDeskLaw" 52 yM_field : Cond) ∈ zT := zT_in (List.mem_append_right _ (List.mem_append_right _ (List.mem_append_right _ (List.mem_append_left _ (List.mem_of_getElem? (l := tables_1_3) (i := 200) rfl))))) rfl
theorem mi_M_field : (.instanceMethod yM_field : Cond) ∈ zT := zT_in (List.mem_append_right _ (List.mem_append_right _ (List.mem_append_right _ (List.mem_append_left _ (List.mem_of_getElem? (l := tables_1_3) (i := 201) rfl))))) rfl
theorem ms_M_field : (.selects "PolynomialDeskModel" yM_field yM_field : Cond) ∈ zT := zT_in (List.mem_append_right _ (List.mem_append_right _ (List.mem_append_right _ (List.mem_append_left _ (List.mem_of_getElem? (l := tables_1_3) (i := 202) rfl))))) rfl
theorem ml_M_81 : (.methodLink "PolynomialDeskModel" 81 yM_isPrime : Cond) ∈ zT := zT_in (List.mem_append_right _ (List.mem_append_right _ (List.mem_append_right _ (List.mem_append_left _ (List.mem_of_getElem? (l := tables_1_3) (i := 204) rfl))))) rfl
theorem mt_M_isPrime : (.static yM_isPrime : Cond) ∈ zT := zT_in (List.mem_append_right _ (List.mem_append_right _ (List.mem_append_right _ (List.mem_append_left _ (List.mem_of_getElem? (l := tables_1_3) (i := 205) rfl))))) rfl
theorem ml_L_63 : (.methodLink "PolynomialDeskLaw" 63 yM_put : Cond) ∈ zT := zT_in (List.mem_append_right _ (List.mem_append_right _ (List.mem_append_right _ (List.mem_append_left _ (List.mem_of_getElem? (l := tables_1_3) (i := 207) rfl))))) rfl
theorem mi_M_put : (.instanceMethod yM_put : Cond) ∈ zT := zT_in (List.mem_append_right _ (List.mem_append_right _ (List.mem_append_right _ (List.mem_append_left _ (List.mem_of_getElem? (l := tables_1_3) (i := 208) rfl))))) rfl
theorem ms_M_put : (.selects "PolynomialDeskModel" yM_put yM_put : Cond) ∈ zT := zT_in (List.mem_append_right _ (List.mem_append_right _ (List.mem_append_right _ (List.mem_append_left _ (List.mem_of_getElem? (l := tables_1_3) (i := 209) rfl))))) rfl
theorem ml_L_67 : (.methodLink "PolynomialDeskLaw" 67 yM_read : Cond) ∈ zT := zT_in (List.mem_append_right _ (List.mem_append_right _ (List.mem_append_right _ (List.mem_append_left _ (List.mem_of_getElem? (l := tables_1_3) (i := 211) rfl))))) rfl
theorem mi_M_read : (.instanceMethod yM_read : Cond) ∈ zT := zT_in (List.mem_append_right _ (List.mem_append_right _ (List.mem_append_right _ (List.mem_append_left _ (List.mem_of_getElem? (l := tables_1_3) (i := 212) rfl))))) rfl
theorem ms_M_read : (.selects "PolynomialDeskModel" yM_read yM_read : Cond) ∈ zT := zT_in (List.mem_append_right _ (List.mem_append_right _ (List.mem_append_right _ (List.mem_append_left _ (List.mem_of_getElem? (l := tables_1_3) (i := 213) rfl))))) rfl
theorem ml_M_170 : (.methodLink "PolynomialDeskModel" 170 yM_isPolynomial : Cond) ∈ zT := zT_in (List.mem_append_right _ (List.mem_append_right _ (List.mem_append_right _ (List.mem_append_left _ (List.mem_of_getElem? (l := tables_1_3) (i := 215) rfl))))) rfl
theorem mt_M_isPolynomial : (.static yM_isPolynomial : Cond) ∈ zT := zT_in (List.mem_append_right _ (List.mem_append_right _ (List.mem_append_right _ (List.mem_append_left _ (List.mem_of_getElem? (l := tables_1_3) (i := 216) rfl))))) rfl
theorem ml_M_139 : (.methodLink "PolynomialDeskModel" 139 yM_begin : Cond) ∈ zT := zT_in (List.mem_append_right _ (List.mem_append_right _ (List.mem_append_right _ (List.mem_append_left _ (List.mem_of_getElem? (l := tables_1_3) (i := 218) rfl))))) rfl
theorem mi_M_begin : (.instanceMethod yM_begin : Cond) ∈ zT := zT_in (List.mem_append_right _ (List.mem_append_right _ (List.mem_append_right _ (List.mem_append_left _ (List.mem_of_getElem? (l := tables_1_3) (i := 220) rfl))))) rfl
theorem ml_M_132 : (.methodLink "PolynomialDeskModel" 132 yM_sum : Cond) ∈ zT := zT_in (List.mem_append_right _ (List.mem_append_right _ (List.mem_append_right _ (List.mem_append_left _ (List.mem_of_getElem? (l := tables_1_3) (i := 222) rfl))))) rfl
theorem mi_M_sum : (.instanceMethod yM_sum : Cond) ∈ zT := zT_in (List.mem_append_right _ (List.mem_append_right _ (List.mem_append_right _ (List.mem_append_left _ (List.mem_of_getElem? (l := tables_1_3) (i := 224) rfl))))) rfl
theorem ml_M_100 : (.methodLink "PolynomialDeskModel" 100 yM_clear : Cond) ∈ zT := zT_in (List.mem_append_right _ (List.mem_append_right _ (List.mem_append_right _ (List.mem_append_left _ (List.mem_of_getElem? (l := tables_1_3) (i := 226) rfl))))) rfl
theorem mi_M_clear : (.instanceMethod yM_clear : Cond) ∈ zT := zT_in (List.mem_append_right _ (List.mem_append_right _ (List.mem_append_right _ (List.mem_append_left _ (List.mem_of_getElem? (l := tables_1_3) (i := 228) rfl))))) rfl
theorem ml_M_85 : (.methodLink "PolynomialDeskModel" 85 yM_lay : Cond) ∈ zT := zT_in (List.mem_append_right _ (List.mem_append_right _ (List.mem_append_right _ (List.mem_append_left _ (List.mem_of_getElem? (l := tables_1_3) (i := 230) rfl))))) rfl
theorem mi_M_lay : (.instanceMethod yM_lay : Cond) ∈ zT := zT_in (List.mem_append_right _ (List.mem_append_right _ (List.mem_append_right _ (List.mem_append_left _ (List.mem_of_getElem? (l := tables_1_3) (i := 232) rfl))))) rfl
theorem ml_M_152 : (.methodLink "PolynomialDeskModel" 152 yM_here : Cond) ∈ zT := zT_in (List.mem_append_right _ (List.mem_append_right _ (List.mem_append_right _ (List.mem_append_left _ (List.mem_of_getElem? (l := tables_1_3) (i := 234) rfl))))) rfl
theorem mi_M_here : (.instanceMethod yM_here : Cond) ∈ zT := zT_in (List.mem_append_right _ (List.mem_append_right _ (List.mem_append_right _ (List.mem_append_left _ (List.mem_of_getElem? (l := tables_1_3) (i := 236) rfl))))) rfl
theorem ml_M_173 : (.methodLink "PolynomialDeskModel" 173 yM_readFactor : Cond) ∈ zT := zT_in (List.mem_append_right _ (List.mem_append_right _ (List.mem_append_right _ (List.mem_append_left _ (List.mem_of_getElem? (l := tables_1_3) (i := 238) rfl))))) rfl
theorem mi_M_readFactor : (.instanceMethod yM_readFactor : Cond) ∈ zT := zT_in (List.mem_append_right _ (List.mem_append_right _ (List.mem_append_right _ (List.mem_append_right _ (List.mem_of_getElem? (l := tables_1_4) (i := 0) rfl))))) rfl
theorem ml_M_128 : (.methodLink "PolynomialDeskModel" 128 yM_fail : Cond) ∈ zT := zT_in (List.mem_append_right _ (List.mem_append_right _ (List.mem_append_right _ (List.mem_append_right _ (List.mem_of_getElem? (l := tables_1_4) (i := 2) rfl))))) rfl
theorem mi_M_fail : (.instanceMethod yM_fail : Cond) ∈ zT := zT_in (List.mem_append_right _ (List.mem_append_right _ (List.mem_append_right _ (List.mem_append_right _ (List.mem_of_getElem? (l := tables_1_4) (i := 4) rfl))))) rfl
theorem ml_M_142 : (.methodLink "PolynomialDeskModel" 142 yM_variable : Cond) ∈ zT := zT_in (List.mem_append_right _ (List.mem_append_right _ (List.mem_append_right _ (List.mem_append_right _ (List.mem_of_getElem? (l := tables_1_4) (i := 6) rfl))))) rfl
theorem mi_M_variable : (.instanceMethod yM_variable : Cond) ∈ zT := zT_in (List.mem_append_right _ (List.mem_append_right _ (List.mem_append_right _ (List.mem_append_right _ (List.mem_of_getElem? (l := tables_1_4) (i := 8) rfl))))) rfl
theorem ml_M_121 : (.methodLink "PolynomialDeskModel" 121 yM_isDigit : Cond) ∈ zT := zT_in (List.mem_append_right _ (List.mem_append_right _ (List.mem_append_right _ (List.mem_append_right _ (List.mem_of_getElem? (l := tables_1_4) (i := 10) rfl))))) rfl
theorem mt_M_isDigit : (.static yM_isDigit : Cond) ∈ zT := zT_in (List.mem_append_right _ (List.mem_append_right _ (List.mem_append_right _ (List.mem_append_right _ (List.mem_of_getElem? (l := tables_1_4) (i := 11) rfl))))) rfl
theorem ml_M_145 : (.methodLink "PolynomialDeskModel" 145 yM_factor : Cond) ∈ zT := zT_in (List.mem_append_right _ (List.mem_append_right _ (List.mem_append_right _ (List.mem_append_right _ (List.mem_of_getElem? (l := tables_1_4) (i := 13) rfl))))) rfl
theorem mi_M_factor : (.instanceMethod yM_factor : Cond) ∈ zT := zT_in (List.mem_append_right _ (List.mem_append_right _ (List.mem_append_right _ (List.mem_append_right _ (List.mem_of_getElem? (l := tables_1_4) (i := 15) rfl))))) rfl
theorem ml_M_148 : (.methodLink "PolynomialDeskModel" 148 yM_number : Cond) ∈ zT := zT_in (List.mem_append_right _ (List.mem_append_right _ (List.mem_append_right _ (List.mem_append_right _ (List.mem_of_getElem? (l := tables_1_4) (i := 17) rfl))))) rfl
theorem mi_M_number : (.instanceMethod yM_number : Cond) ∈ zT := zT_in (List.mem_append_right _ (List.mem_append_right _ (List.mem_append_right _ (List.mem_append_right _ (List.mem_of_getElem? (l := tables_1_4) (i := 19) rfl))))) rfl
theorem mq_M_124 : (.constantLong "PolynomialDeskModel" 124 (10) : Cond) ∈ zT := zT_in (List.mem_append_right _ (List.mem_append_right _ (List.mem_append_right _ (List.mem_append_right _ (List.mem_of_getElem? (l := tables_1_4) (i := 21) rfl))))) rfl
theorem mq_M_126 : (.constantLong "PolynomialDeskModel" 126 (48) : Cond) ∈ zT := zT_in (List.mem_append_right _ (List.mem_append_right _ (List.mem_append_right _ (List.mem_append_right _ (List.mem_of_getElem? (l := tables_1_4) (i := 22) rfl))))) rfl
theorem ml_M_92 : (.methodLink "PolynomialDeskModel" 92 yM_modulo : Cond) ∈ zT := zT_in (List.mem_append_right _ (List.mem_append_right _ (List.mem_append_right _ (List.mem_append_right _ (List.mem_of_getElem? (l := tables_1_4) (i := 23) rfl))))) rfl
theorem mi_M_modulo : (.instanceMethod yM_modulo : Cond) ∈ zT := zT_in (List.mem_append_right _ (List.mem_append_right _ (List.mem_append_right _ (List.mem_append_right _ (List.mem_of_getElem? (l := tables_1_4) (i := 25) rfl))))) rfl
theorem ml_M_176 : (.methodLink "PolynomialDeskModel" 176 yM_readPower : Cond) ∈ zT := zT_in (List.mem_append_right _ (List.mem_append_right _ (List.mem_append_right _ (List.mem_append_right _ (List.mem_of_getElem? (l := tables_1_4) (i := 27) rfl))))) rfl
theorem mi_M_readPower : (.instanceMethod yM_readPower : Cond) ∈ zT := zT_in (List.mem_append_right _ (List.mem_append_right _ (List.mem_append_right _ (List.mem_append_right _ (List.mem_of_getElem? (l := tables_1_4) (i := 29) rfl))))) rfl
theorem ml_M_96 : (.methodLink "PolynomialDeskModel" 96 yM_degreeOf : Cond) ∈ zT := zT_in (List.mem_append_right _ (List.mem_append_right _ (List.mem_append_right _ (List.mem_append_right _ (List.mem_of_getElem? (l := tables_1_4) (i := 31) rfl))))) rfl
theorem mi_M_degreeOf : (.instanceMethod yM_degreeOf : Cond) ∈ zT := zT_in (List.mem_append_right _ (List.mem_append_right _ (List.mem_append_right _ (List.mem_append_right _ (List.mem_of_getElem? (l := tables_1_4) (i := 33) rfl))))) rfl
theorem ml_M_88 : (.methodLink "PolynomialDeskModel" 88 yM_cell : Cond) ∈ zT := zT_in (List.mem_append_right _ (List.mem_append_right _ (List.mem_append_right _ (List.mem_append_right _ (List.mem_of_getElem? (l := tables_1_4) (i := 35) rfl))))) rfl
theorem mi_M_cell : (.instanceMethod yM_cell : Cond) ∈ zT := zT_in (List.mem_append_right _ (List.mem_append_right _ (List.mem_append_right _ (List.mem_append_right _ (List.mem_of_getElem? (l := tables_1_4) (i := 37) rfl))))) rfl
theorem ml_M_155 : (.methodLink "PolynomialDeskModel" 155 yM_times : Cond) ∈ zT := zT_in (List.mem_append_right _ (List.mem_append_right _ (List.mem_append_right _ (List.mem_append_right _ (List.mem_of_getElem? (l := tables_1_4) (i := 39) rfl))))) rfl
theorem mi_M_times : (.instanceMethod yM_times : Cond) ∈ zT := zT_in (List.mem_append_right _ (List.mem_append_right _ (List.mem_append_right _ (List.mem_append_right _ (List.mem_of_getElem? (l := tables_1_4) (i := 41) rfl))))) rfl
theorem ml_M_158 : (.methodLink "PolynomialDeskModel" 158 yM_copy : Cond) ∈ zT := zT_in (List.mem_append_right _ (List.mem_append_right _ (List.mem_append_right _ (List.mem_append_right _ (List.mem_of_getElem? (l := tables_1_4) (i := 43) rfl))))) rfl
theorem mi_M_copy : (.instanceMethod yM_copy : Cond) ∈ zT := zT_in (List.mem_append_right _ (List.mem_append_right _ (List.mem_append_right _ (List.mem_append_right _ (List.mem_of_getElem? (l := tables_1_4) (i := 45) rfl))))) rfl
theorem ml_M_179 : (.methodLink "PolynomialDeskModel" 179 yM_goOn : Cond) ∈ zT := zT_in (List.mem_append_right _ (List.mem_append_right _ (List.mem_append_right _ (List.mem_append_right _ (List.mem_of_getElem? (l := tables_1_4) (i := 47) rfl))))) rfl
theorem mi_M_goOn : (.instanceMethod yM_goOn : Cond) ∈ zT := zT_in (List.mem_append_right _ (List.mem_append_right _ (List.mem_append_right _ (List.mem_append_right _ (List.mem_of_getElem? (l := tables_1_4) (i := 49) rfl))))) rfl
theorem ml_M_161 : (.methodLink "PolynomialDeskModel" 161 yM_product : Cond) ∈ zT := zT_in (List.mem_append_right _ (List.mem_append_right _ (List.mem_append_right _ (List.mem_append_right _ (List.mem_of_getElem? (l := tables_1_4) (i := 51) rfl))))) rfl
theorem mi_M_product : (.instanceMethod yM_product : Cond) ∈ zT := zT_in (List.mem_append_right _ (List.mem_append_right _ (List.mem_append_right _ (List.mem_append_right _ (List.mem_of_getElem? (l := tables_1_4) (i := 53) rfl))))) rfl
theorem ml_M_164 : (.methodLink "PolynomialDeskModel" 164 yM_isTooHigh : Cond) ∈ zT := zT_in (List.mem_append_right _ (List.mem_append_right _ (List.mem_append_right _ (List.mem_append_right _ (List.mem_of_getElem? (l := tables_1_4) (i := 55) rfl))))) rfl
theorem mi_M_isTooHigh : (.instanceMethod yM_isTooHigh : Cond) ∈ zT := zT_in (List.mem_append_right _ (List.mem_append_right _ (List.mem_append_right _ (List.mem_append_right _ (List.mem_of_getElem? (l := tables_1_4) (i := 57) rfl))))) rfl
theorem ml_M_167 : (.methodLink "PolynomialDeskModel" 167 yM_addTo : Cond) ∈ zT := zT_in (List.mem_append_right _ (List.mem_append_right _ (List.mem_append_right _ (List.mem_append_right _ (List.mem_of_getElem? (l := tables_1_4) (i := 59) rfl))))) rfl
theorem mi_M_addTo : (.instanceMethod yM_addTo : Cond) ∈ zT := zT_in (List.mem_append_right _ (List.mem_append_right _ (List.mem_append_right _ (List.mem_append_right _ (List.mem_of_getElem? (l := tables_1_4) (i := 61) rfl))))) rfl
theorem ml_M_185 : (.methodLink "PolynomialDeskModel" 185 yM_terms : Cond) ∈ zT := zT_in (List.mem_append_right _ (List.mem_append_right _ (List.mem_append_right _ (List.mem_append_right _ (List.mem_of_getElem? (l := tables_1_4) (i := 63) rfl))))) rfl
theorem mi_M_terms : (.instanceMethod yM_terms : Cond) ∈ zT := zT_in (List.mem_append_right _ (List.mem_append_right _ (List.mem_append_right _ (List.mem_append_right _ (List.mem_of_getElem? (l := tables_1_4) (i := 65) rfl))))) rfl
theorem ml_L_71 : (.methodLink "PolynomialDeskLaw" 71 yM_fault : Cond) ∈ zT := zT_in (List.mem_append_right _ (List.mem_append_right _ (List.mem_append_right _ (List.mem_append_right _ (List.mem_of_getElem? (l := tables_1_4) (i := 67) rfl))))) rfl
theorem mi_M_fault : (.instanceMethod yM_fault : Cond) ∈ zT := zT_in (List.mem_append_right _ (List.mem_append_right _ (List.mem_append_right _ (List.mem_append_right _ (List.mem_of_getElem? (l := tables_1_4) (i := 68) rfl))))) rfl
theorem ms_M_fault : (.selects "PolynomialDeskModel" yM_fault yM_fault : Cond) ∈ zT := zT_in (List.mem_append_right _ (List.mem_append_right _ (List.mem_append_right _ (List.mem_append_right _ (List.mem_of_getElem? (l := tables_1_4) (i := 69) rfl))))) rfl
theorem ml_L_75 : (.methodLink "PolynomialDeskLaw" 75 yM_add : Cond) ∈ zT := zT_in (List.mem_append_right _ (List.mem_append_right _ (List.mem_append_right _ (List.mem_append_right _ (List.mem_of_getElem? (l := tables_1_4) (i := 71) rfl))))) rfl
theorem mi_M_add : (.instanceMethod yM_add : Cond) ∈ zT := zT_in (List.mem_append_right _ (List.mem_append_right _ (List.mem_append_right _ (List.mem_append_right _ (List.mem_of_getElem? (l := tables_1_4) (i := 72) rfl))))) rfl
theorem ms_M_add : (.selects "PolynomialDeskModel" yM_add yM_add : Cond) ∈ zT := zT_in (List.mem_append_right _ (List.mem_append_right _ (List.mem_append_right _ (List.mem_append_right _ (List.mem_of_getElem? (l := tables_1_4) (i := 73) rfl))))) rfl
theorem ml_M_188 : (.methodLink "PolynomialDeskModel" 188 yM_lacks : Cond) ∈ zT := zT_in (List.mem_append_right _ (List.mem_append_right _ (List.mem_append_right _ (List.mem_append_right _ (List.mem_of_getElem? (l := tables_1_4) (i := 75) rfl))))) rfl
theorem mi_M_lacks : (.instanceMethod yM_lacks : Cond) ∈ zT := zT_in (List.mem_append_right _ (List.mem_append_right _ (List.mem_append_right _ (List.mem_append_right _ (List.mem_of_getElem? (l := tables_1_4) (i := 77) rfl))))) rfl
theorem ml_L_78 : (.methodLink "PolynomialDeskLaw" 78 yM_multiply : Cond) ∈ zT := zT_in (List.mem_append_right _ (List.mem_append_right _ (List.mem_append_right _ (List.mem_append_right _ (List.mem_of_getElem? (l := tables_1_4) (i := 79) rfl))))) rfl
theorem mi_M_multiply : (.instanceMethod yM_multiply : Cond) ∈ zT := zT_in (List.mem_append_right _ (List.mem_append_right _ (List.mem_append_right _ (List.mem_append_right _ (List.mem_of_getElem? (l := tables_1_4) (i := 80) rfl))))) rfl
theorem ms_M_multiply : (.selects "PolynomialDeskModel" yM_multiply yM_multiply : Cond) ∈ zT := zT_in (List.mem_append_right _ (List.mem_append_right _ (List.mem_append_right _ (List.mem_append_right _ (List.mem_of_getElem? (l := tables_1_4) (i := 81) rfl))))) rfl
theorem ml_L_81 : (.methodLink "PolynomialDeskLaw" 81 yM_derive : Cond) ∈ zT := zT_in (List.mem_append_right _ (List.mem_append_right _ (List.mem_append_right _ (List.mem_append_right _ (List.mem_of_getElem? (l := tables_1_4) (i := 83) rfl))))) rfl
theorem mi_M_derive : (.instanceMethod yM_derive : Cond) ∈ zT := zT_in (List.mem_append_right _ (List.mem_append_right _ (List.mem_append_right _ (List.mem_append_right _ (List.mem_of_getElem? (l := tables_1_4) (i := 84) rfl))))) rfl
theorem ms_M_derive : (.selects "PolynomialDeskModel" yM_derive yM_derive : Cond) ∈ zT := zT_in (List.mem_append_right _ (List.mem_append_right _ (List.mem_append_right _ (List.mem_append_right _ (List.mem_of_getElem? (l := tables_1_4) (i := 85) rfl))))) rfl
theorem ml_L_84 : (.methodLink "PolynomialDeskLaw" 84 yM_set : Cond) ∈ zT := zT_in (List.mem_append_right _ (List.mem_append_right _ (List.mem_append_right _ (List.mem_append_right _ (List.mem_of_getElem? (l := tables_1_4) (i := 87) rfl))))) rfl
theorem mi_M_set : (.instanceMethod yM_set : Cond) ∈ zT := zT_in (List.mem_append_right _ (List.mem_append_right _ (List.mem_append_right _ (List.mem_append_right _ (List.mem_of_getElem? (l := tables_1_4) (i := 88) rfl))))) rfl
theorem ms_M_set : (.selects "PolynomialDeskModel" yM_set yM_set : Cond) ∈ zT := zT_in (List.mem_append_right _ (List.mem_append_right _ (List.mem_append_right _ (List.mem_append_right _ (List.mem_of_getElem? (l := tables_1_4) (i := 89) rfl))))) rfl
theorem ml_M_192 : (.methodLink "PolynomialDeskModel" 192 yM_power : Cond) ∈ zT := zT_in (List.mem_append_right _ (List.mem_append_right _ (List.mem_append_right _ (List.mem_append_right _ (List.mem_of_getElem? (l := tables_1_4) (i := 91) rfl))))) rfl
theorem mi_M_power : (.instanceMethod yM_power : Cond) ∈ zT := zT_in (List.mem_append_right _ (List.mem_append_right _ (List.mem_append_right _ (List.mem_append_right _ (List.mem_of_getElem? (l := tables_1_4) (i := 93) rfl))))) rfl
theorem ml_L_88 : (.methodLink "PolynomialDeskLaw" 88 yM_value : Cond) ∈ zT := zT_in (List.mem_append_right _ (List.mem_append_right _ (List.mem_append_right _ (List.mem_append_right _ (List.mem_of_getElem? (l := tables_1_4) (i := 95) rfl))))) rfl
theorem mi_M_value : (.instanceMethod yM_value : Cond) ∈ zT := zT_in (List.mem_append_right _ (List.mem_append_right _ (List.mem_append_right _ (List.mem_append_right _ (List.mem_of_getElem? (l := tables_1_4) (i := 96) rfl))))) rfl
theorem ms_M_value : (.selects "PolynomialDeskModel" yM_value yM_value : Cond) ∈ zT := zT_in (List.mem_append_right _ (List.mem_append_right _ (List.mem_append_right _ (List.mem_append_right _ (List.mem_of_getElem? (l := tables_1_4) (i := 97) rfl))))) rfl
theorem ml_L_93 : (.methodLink "PolynomialDeskLaw" 93 yM_about : Cond) ∈ zT := zT_in (List.mem_append_right _ (List.mem_append_right _ (List.mem_append_right _ (List.mem_append_right _ (List.mem_of_getElem? (l := tables_1_4) (i := 99) rfl))))) rfl
theorem mi_M_about : (.instanceMethod yM_about : Cond) ∈ zT := zT_in (List.mem_append_right _ (List.mem_append_right _ (List.mem_append_right _ (List.mem_append_right _ (List.mem_of_getElem? (l := tables_1_4) (i := 100) rfl))))) rfl
theorem ms_M_about : (.selects "PolynomialDeskModel" yM_about yM_about : Cond) ∈ zT := zT_in (List.mem_append_right _ (List.mem_append_right _ (List.mem_append_right _ (List.mem_append_right _ (List.mem_of_getElem? (l := tables_1_4) (i := 101) rfl))))) rfl
theorem ml_L_98 : (.methodLink "PolynomialDeskLaw" 98 yM_term : Cond) ∈ zT := zT_in (List.mem_append_right _ (List.mem_append_right _ (List.mem_append_right _ (List.mem_append_right _ (List.mem_of_getElem? (l := tables_1_4) (i := 103) rfl))))) rfl
theorem mi_M_term : (.instanceMethod yM_term : Cond) ∈ zT := zT_in (List.mem_append_right _ (List.mem_append_right _ (List.mem_append_right _ (List.mem_append_right _ (List.mem_of_getElem? (l := tables_1_4) (i := 104) rfl))))) rfl
theorem ms_M_term : (.selects "PolynomialDeskModel" yM_term yM_term : Cond) ∈ zT := zT_in (List.mem_append_right _ (List.mem_append_right _ (List.mem_append_right _ (List.mem_append_right _ (List.mem_of_getElem? (l := tables_1_4) (i := 105) rfl))))) rfl
theorem ml_M_195 : (.methodLink "PolynomialDeskModel" 195 yM_placeOf : Cond) ∈ zT := zT_in (List.mem_append_right _ (List.mem_append_right _ (List.mem_append_right _ (List.mem_append_right _ (List.mem_of_getElem? (l := tables_1_4) (i := 107) rfl))))) rfl
theorem mi_M_placeOf : (.instanceMethod yM_placeOf : Cond) ∈ zT := zT_in (List.mem_append_right _ (List.mem_append_right _ (List.mem_append_right _ (List.mem_append_right _ (List.mem_of_getElem? (l := tables_1_4) (i := 109) rfl))))) rfl
theorem ml_L_101 : (.methodLink "PolynomialDeskLaw" 101 yM_print : Cond) ∈ zT := zT_in (List.mem_append_right _ (List.mem_append_right _ (List.mem_append_right _ (List.mem_append_right _ (List.mem_of_getElem? (l := tables_1_4) (i := 111) rfl))))) rfl
theorem mi_M_print : (.instanceMethod yM_print : Cond) ∈ zT := zT_in (List.mem_append_right _ (List.mem_append_right _ (List.mem_append_right _ (List.mem_append_right _ (List.mem_of_getElem? (l := tables_1_4) (i := 112) rfl))))) rfl
theorem ms_M_print : (.selects "PolynomialDeskModel" yM_print yM_print : Cond) ∈ zT := zT_in (List.mem_append_right _ (List.mem_append_right _ (List.mem_append_right _ (List.mem_append_right _ (List.mem_of_getElem? (l := tables_1_4) (i := 113) rfl))))) rfl
theorem ml_M_198 : (.methodLink "PolynomialDeskModel" 198 yM_say : Cond) ∈ zT := zT_in (List.mem_append_right _ (List.mem_append_right _ (List.mem_append_right _ (List.mem_append_right _ (List.mem_of_getElem? (l := tables_1_4) (i := 115) rfl))))) rfl
theorem mi_M_say : (.instanceMethod yM_say : Cond) ∈ zT := zT_in (List.mem_append_right _ (List.mem_append_right _ (List.mem_append_right _ (List.mem_append_right _ (List.mem_of_getElem? (l := tables_1_4) (i := 117) rfl))))) rfl
theorem ml_M_204 : (.methodLink "PolynomialDeskModel" 204 yM_sayTerm : Cond) ∈ zT := zT_in (List.mem_append_right _ (List.mem_append_right _ (List.mem_append_right _ (List.mem_append_right _ (List.mem_of_getElem? (l := tables_1_4) (i := 119) rfl))))) rfl
theorem mi_M_sayTerm : (.instanceMethod yM_sayTerm : Cond) ∈ zT := zT_in (List.mem_append_right _ (List.mem_append_right _ (List.mem_append_right _ (List.mem_append_right _ (List.mem_of_getElem? (l := tables_1_4) (i := 121) rfl))))) rfl
theorem ml_M_201 : (.methodLink "PolynomialDeskModel" 201 yM_sayNumber : Cond) ∈ zT := zT_in (List.mem_append_right _ (List.mem_append_right _ (List.mem_append_right _ (List.mem_append_right _ (List.mem_of_getElem? (l := tables_1_4) (i := 123) rfl))))) rfl
theorem mi_M_sayNumber : (.instanceMethod yM_sayNumber : Cond) ∈ zT := zT_in (List.mem_append_right _ (List.mem_append_right _ (List.mem_append_right _ (List.mem_append_right _ (List.mem_of_getElem? (l := tables_1_4) (i := 125) rfl))))) rfl
theorem ml_L_105 : (.methodLink "PolynomialDeskLaw" 105 yM_output : Cond) ∈ zT := zT_in (List.mem_append_right _ (List.mem_append_right _ (List.mem_append_right _ (List.mem_append_right _ (List.mem_of_getElem? (l := tables_1_4) (i := 127) rfl))))) rfl
theorem mi_M_output : (.instanceMethod yM_output : Cond) ∈ zT := zT_in (List.mem_append_right _ (List.mem_append_right _ (List.mem_append_right _ (List.mem_append_right _ (List.mem_of_getElem? (l := tables_1_4) (i := 128) rfl))))) rfl
theorem ms_M_output : (.selects "PolynomialDeskModel" yM_output yM_output : Cond) ∈ zT := zT_in (List.mem_append_right _ (List.mem_append_right _ (List.mem_append_right _ (List.mem_append_right _ (List.mem_of_getElem? (l := tables_1_4) (i := 129) rfl))))) rfl
theorem mq_L_57 : (.constantLong "PolynomialDeskLaw" 57 (4294967295) : Cond) ∈ zT := zT_in (List.mem_append_right _ (List.mem_append_right _ (List.mem_append_right _ (List.mem_append_right _ (List.mem_of_getElem? (l := tables_1_4) (i := 131) rfl))))) rfl
theorem ma_long : (.arrayClass .long : Cond) ∈ zT := zT_in (List.mem_append_right _ (List.mem_append_right _ (List.mem_append_right _ (List.mem_append_right _ (List.mem_of_getElem? (l := tables_1_4) (i := 132) rfl))))) rfl
theorem ms_R_listMonomials : (.selects "PolynomialDesk$Ring" yR_listMonomials yR_listMonomials : Cond) ∈ zT := zT_in (List.mem_append_left _ (List.mem_of_getElem? (l := k2_sels lw_privs) (i := 0) rfl)) rfl
theorem ms_R_recordMonomial : (.selects "PolynomialDesk$Ring" yR_recordMonomial yR_recordMonomial : Cond) ∈ zT := zT_in (List.mem_append_left _ (List.mem_of_getElem? (l := k2_sels lw_privs) (i := 1) rfl)) rfl
theorem ms_R_leadingOf : (.selects "PolynomialDesk$Ring" yR_leadingOf yR_leadingOf : Cond) ∈ zT := zT_in (List.mem_append_left _ (List.mem_of_getElem? (l := k2_sels lw_privs) (i := 2) rfl)) rfl
theorem ms_E_readSum : (.selects "PolynomialDesk$Reader" yE_readSum yE_readSum : Cond) ∈ zT := zT_in (List.mem_append_left _ (List.mem_of_getElem? (l := k2_sels lw_privs) (i := 4) rfl)) rfl
theorem ms_E_nextByte : (.selects "PolynomialDesk$Reader" yE_nextByte yE_nextByte : Cond) ∈ zT := zT_in (List.mem_append_left _ (List.mem_of_getElem? (l := k2_sels lw_privs) (i := 5) rfl)) rfl
theorem ms_E_readTerm : (.selects "PolynomialDesk$Reader" yE_readTerm yE_readTerm : Cond) ∈ zT := zT_in (List.mem_append_left _ (List.mem_of_getElem? (l := k2_sels lw_privs) (i := 6) rfl)) rfl
theorem ms_E_readFactor : (.selects "PolynomialDesk$Reader" yE_readFactor yE_readFactor : Cond) ∈ zT := zT_in (List.mem_append_left _ (List.mem_of_getElem? (l := k2_sels lw_privs) (i := 7) rfl)) rfl
theorem ms_E_readBareFactor : (.selects "PolynomialDesk$Reader" yE_readBareFactor yE_readBareFactor : Cond) ∈ zT := zT_in (List.mem_append_left _ (List.mem_of_getElem? (l := k2_sels lw_privs) (i := 8) rfl)) rfl
theorem ms_E_readNumber : (.selects "PolynomialDesk$Reader" yE_readNumber yE_readNumber : Cond) ∈ zT := zT_in (List.mem_append_left _ (List.mem_of_getElem? (l := k2_sels lw_privs) (i := 9) rfl)) rfl
theorem ms_E_noteFault : (.selects "PolynomialDesk$Reader" yE_noteFault yE_noteFault : Cond) ∈ zT := zT_in (List.mem_append_left _ (List.mem_of_getElem? (l := k2_sels lw_privs) (i := 10) rfl)) rfl
theorem ms_R_reduce : (.selects "PolynomialDesk$Ring" yR_reduce yR_reduce : Cond) ∈ zT := zT_in (List.mem_append_left _ (List.mem_of_getElem? (l := k2_sels lw_privs) (i := 11) rfl)) rfl
theorem ms_R_addAt : (.selects "PolynomialDesk$Ring" yR_addAt yR_addAt : Cond) ∈ zT := zT_in (List.mem_append_left _ (List.mem_of_getElem? (l := k2_sels lw_privs) (i := 12) rfl)) rfl
theorem ms_E_readGroup : (.selects "PolynomialDesk$Reader" yE_readGroup yE_readGroup : Cond) ∈ zT := zT_in (List.mem_append_left _ (List.mem_of_getElem? (l := k2_sels lw_privs) (i := 13) rfl)) rfl
theorem ms_K_requireVariable : (.selects "PolynomialDesk" yK_requireVariable yK_requireVariable : Cond) ∈ zT := zT_in (List.mem_append_left _ (List.mem_of_getElem? (l := k2_sels lw_privs) (i := 14) rfl)) rfl
theorem ms_R_timesPower : (.selects "PolynomialDesk$Ring" yR_timesPower yR_timesPower : Cond) ∈ zT := zT_in (List.mem_append_left _ (List.mem_of_getElem? (l := k2_sels lw_privs) (i := 15) rfl)) rfl
theorem ms_P_writeByte : (.selects "PolynomialDesk$Printer" yP_writeByte yP_writeByte : Cond) ∈ zT := zT_in (List.mem_append_left _ (List.mem_of_getElem? (l := k2_sels lw_privs) (i := 16) rfl)) rfl
theorem ms_P_writeTerm : (.selects "PolynomialDesk$Printer" yP_writeTerm yP_writeTerm : Cond) ∈ zT := zT_in (List.mem_append_left _ (List.mem_of_getElem? (l := k2_sels lw_privs) (i := 17) rfl)) rfl
theorem ms_P_writeNumber : (.selects "PolynomialDesk$Printer" yP_writeNumber yP_writeNumber : Cond) ∈ zT := zT_in (List.mem_append_left _ (List.mem_of_getElem? (l := k2_sels lw_privs) (i := 18) rfl)) rfl
theorem ms_M_prepare : (.selects "PolynomialDeskModel" yM_prepare yM_prepare : Cond) ∈ zT := zT_in (List.mem_append_left _ (List.mem_of_getElem? (l := k2_sels lw_privs) (i := 19) rfl)) rfl
theorem ms_M_list : (.selects "PolynomialDeskModel" yM_list yM_list : Cond) ∈ zT := zT_in (List.mem_append_left _ (List.mem_of_getElem? (l := k2_sels lw_privs) (i := 20) rfl)) rfl
theorem ms_M_isGreater : (.selects "PolynomialDeskModel" yM_isGreater yM_isGreater : Cond) ∈ zT := zT_in (List.mem_append_left _ (List.mem_of_getElem? (l := k2_sels lw_privs) (i := 21) rfl)) rfl
theorem ms_M_begin : (.selects "PolynomialDeskModel" yM_begin yM_begin : Cond) ∈ zT := zT_in (List.mem_append_left _ (List.mem_of_getElem? (l := k2_sels lw_privs) (i := 22) rfl)) rfl
theorem ms_M_sum : (.selects "PolynomialDeskModel" yM_sum yM_sum : Cond) ∈ zT := zT_in (List.mem_append_left _ (List.mem_of_getElem? (l := k2_sels lw_privs) (i := 23) rfl)) rfl
theorem ms_M_clear : (.selects "PolynomialDeskModel" yM_clear yM_clear : Cond) ∈ zT := zT_in (List.mem_append_left _ (List.mem_of_getElem? (l := k2_sels lw_privs) (i := 24) rfl)) rfl
theorem ms_M_lay : (.selects "PolynomialDeskModel" yM_lay yM_lay : Cond) ∈ zT := zT_in (List.mem_append_left _ (List.mem_of_getElem? (l := k2_sels lw_privs) (i := 25) rfl)) rfl
theorem ms_M_here : (.selects "PolynomialDeskModel" yM_here yM_here : Cond) ∈ zT := zT_in (List.mem_append_left _ (List.mem_of_getElem? (l := k2_sels lw_privs) (i := 26) rfl)) rfl
theorem ms_M_readFactor : (.selects "PolynomialDeskModel" yM_readFactor yM_readFactor : Cond) ∈ zT := zT_in (List.mem_append_left _ (List.mem_of_getElem? (l := k2_sels lw_privs) (i := 27) rfl)) rfl
theorem ms_M_fail : (.selects "PolynomialDeskModel" yM_fail yM_fail : Cond) ∈ zT := zT_in (List.mem_append_left _ (List.mem_of_getElem? (l := k2_sels lw_privs) (i := 28) rfl)) rfl
theorem ms_M_variable : (.selects "PolynomialDeskModel" yM_variable yM_variable : Cond) ∈ zT := zT_in (List.mem_append_left _ (List.mem_of_getElem? (l := k2_sels lw_privs) (i := 29) rfl)) rfl
theorem ms_M_factor : (.selects "PolynomialDeskModel" yM_factor yM_factor : Cond) ∈ zT := zT_in (List.mem_append_left _ (List.mem_of_getElem? (l := k2_sels lw_privs) (i := 30) rfl)) rfl
theorem ms_M_number : (.selects "PolynomialDeskModel" yM_number yM_number : Cond) ∈ zT := zT_in (List.mem_append_left _ (List.mem_of_getElem? (l := k2_sels lw_privs) (i := 31) rfl)) rfl
theorem ms_M_modulo : (.selects "PolynomialDeskModel" yM_modulo yM_modulo : Cond) ∈ zT := zT_in (List.mem_append_left _ (List.mem_of_getElem? (l := k2_sels lw_privs) (i := 32) rfl)) rfl
theorem ms_M_readPower : (.selects "PolynomialDeskModel" yM_readPower yM_readPower : Cond) ∈ zT := zT_in (List.mem_append_left _ (List.mem_of_getElem? (l := k2_sels lw_privs) (i := 33) rfl)) rfl
theorem ms_M_degreeOf : (.selects "PolynomialDeskModel" yM_degreeOf yM_degreeOf : Cond) ∈ zT := zT_in (List.mem_append_left _ (List.mem_of_getElem? (l := k2_sels lw_privs) (i := 34) rfl)) rfl
theorem ms_M_cell : (.selects "PolynomialDeskModel" yM_cell yM_cell : Cond) ∈ zT := zT_in (List.mem_append_left _ (List.mem_of_getElem? (l := k2_sels lw_privs) (i := 35) rfl)) rfl
theorem ms_M_times : (.selects "PolynomialDeskModel" yM_times yM_times : Cond) ∈ zT := zT_in (List.mem_append_left _ (List.mem_of_getElem? (l := k2_sels lw_privs) (i := 36) rfl)) rfl
theorem ms_M_copy : (.selects "PolynomialDeskModel" yM_copy yM_copy : Cond) ∈ zT := zT_in (List.mem_append_left _ (List.mem_of_getElem? (l := k2_sels lw_privs) (i := 37) rfl)) rfl
theorem ms_M_goOn : (.selects "PolynomialDeskModel" yM_goOn yM_goOn : Cond) ∈ zT := zT_in (List.mem_append_left _ (List.mem_of_getElem? (l := k2_sels lw_privs) (i := 38) rfl)) rfl
theorem ms_M_product : (.selects "PolynomialDeskModel" yM_product yM_product : Cond) ∈ zT := zT_in (List.mem_append_left _ (List.mem_of_getElem? (l := k2_sels lw_privs) (i := 39) rfl)) rfl
theorem ms_M_isTooHigh : (.selects "PolynomialDeskModel" yM_isTooHigh yM_isTooHigh : Cond) ∈ zT := zT_in (List.mem_append_left _ (List.mem_of_getElem? (l := k2_sels lw_privs) (i := 40) rfl)) rfl
theorem ms_M_addTo : (.selects "PolynomialDeskModel" yM_addTo yM_addTo : Cond) ∈ zT := zT_in (List.mem_append_left _ (List.mem_of_getElem? (l := k2_sels lw_privs) (i := 41) rfl)) rfl
theorem ms_M_terms : (.selects "PolynomialDeskModel" yM_terms yM_terms : Cond) ∈ zT := zT_in (List.mem_append_left _ (List.mem_of_getElem? (l := k2_sels lw_privs) (i := 42) rfl)) rfl
theorem ms_M_lacks : (.selects "PolynomialDeskModel" yM_lacks yM_lacks : Cond) ∈ zT := zT_in (List.mem_append_left _ (List.mem_of_getElem? (l := k2_sels lw_privs) (i := 43) rfl)) rfl
theorem ms_M_power : (.selects "PolynomialDeskModel" yM_power yM_power : Cond) ∈ zT := zT_in (List.mem_append_left _ (List.mem_of_getElem? (l := k2_sels lw_privs) (i := 44) rfl)) rfl
theorem ms_M_placeOf : (.selects "PolynomialDeskModel" yM_placeOf yM_placeOf : Cond) ∈ zT := zT_in (List.mem_append_left _ (List.mem_of_getElem? (l := k2_sels lw_privs) (i := 45) rfl)) rfl
theorem ms_M_say : (.selects "PolynomialDeskModel" yM_say yM_say : Cond) ∈ zT := zT_in (List.mem_append_left _ (List.mem_of_getElem? (l := k2_sels lw_privs) (i := 46) rfl)) rfl
theorem ms_M_sayTerm : (.selects "PolynomialDeskModel" yM_sayTerm yM_sayTerm : Cond) ∈ zT := zT_in (List.mem_append_left _ (List.mem_of_getElem? (l := k2_sels lw_privs) (i := 47) rfl)) rfl
theorem ms_M_sayNumber : (.selects "PolynomialDeskModel" yM_sayNumber yM_sayNumber : Cond) ∈ zT := zT_in (List.mem_append_left _ (List.mem_of_getElem? (l := k2_sels lw_privs) (i := 48) rfl)) rfl
def TP : u_T := fun k => match k with
  | 0 => ("PolynomialDesk$Printer", "ring", "LPolynomialDesk$Ring;", true)
  | 1 => ("PolynomialDesk$Printer", "bytes", "[C", true)
  | _ => ("PolynomialDesk$Printer", "length", "I", false)
def tP : Nat → FieldType := fun k => match k with
  | 0 => .object "PolynomialDesk$Ring"
  | 1 => .array .char
  | _ => .int
theorem nP : ∀ a, a < 3 → ∀ b, b < 3 → a ≠ b → (TP a).2.1 ≠ (TP b).2.1 := by decide +kernel
theorem tP_ok : ∀ k, k < 3 → parseFieldDescriptor (TP k).2.2.1 = some (tP k) := by decide +kernel
theorem uP : ∀ w ∈ u_ws "PolynomialDesk$Printer" TP 3, w ∈ zT := by decide +kernel
def TE : u_T := fun k => match k with
  | 0 => ("PolynomialDesk$Reader", "ring", "LPolynomialDesk$Ring;", true)
  | 1 => ("PolynomialDesk$Reader", "text", "[C", true)
  | 2 => ("PolynomialDesk$Reader", "length", "I", false)
  | 3 => ("PolynomialDesk$Reader", "at", "I", false)
  | 4 => ("PolynomialDesk$Reader", "fault", "I", false)
  | 5 => ("PolynomialDesk$Reader", "place", "I", false)
  | 6 => ("PolynomialDesk$Reader", "sums", "[[I", true)
  | 7 => ("PolynomialDesk$Reader", "products", "[[I", true)
  | _ => ("PolynomialDesk$Reader", "factor", "[I", true)
def tE : Nat → FieldType := fun k => match k with
  | 0 => .object "PolynomialDesk$Ring"
  | 1 => .array .char
  | 2 => .int
  | 3 => .int
  | 4 => .int
  | 5 => .int
  | 6 => .array (.array .int)
  | 7 => .array (.array .int)
  | _ => .array .int
theorem nE : ∀ a, a < 9 → ∀ b, b < 9 → a ≠ b → (TE a).2.1 ≠ (TE b).2.1 := by decide +kernel
theorem tE_ok : ∀ k, k < 9 → parseFieldDescriptor (TE k).2.2.1 = some (tE k) := by decide +kernel
theorem uE : ∀ w ∈ u_ws "PolynomialDesk$Reader" TE 9, w ∈ zT := by decide +kernel
def TR : u_T := fun k => match k with
  | 0 => ("PolynomialDesk$Ring", "prime", "I", false)
  | 1 => ("PolynomialDesk$Ring", "variables", "I", false)
  | 2 => ("PolynomialDesk$Ring", "order", "I", false)
  | 3 => ("PolynomialDesk$Ring", "highest", "I", false)
  | 4 => ("PolynomialDesk$Ring", "count", "I", false)
  | 5 => ("PolynomialDesk$Ring", "exponents", "[[I", true)
  | 6 => ("PolynomialDesk$Ring", "degrees", "[I", true)
  | 7 => ("PolynomialDesk$Ring", "keys", "[I", true)
  | 8 => ("PolynomialDesk$Ring", "weights", "[I", true)
  | 9 => ("PolynomialDesk$Ring", "indexes", "[I", true)
  | 10 => ("PolynomialDesk$Ring", "chosen", "[I", true)
  | 11 => ("PolynomialDesk$Ring", "scratch", "[I", true)
  | _ => ("PolynomialDesk$Ring", "base", "[I", true)
def tR : Nat → FieldType := fun k => match k with
  | 0 => .int
  | 1 => .int
  | 2 => .int
  | 3 => .int
  | 4 => .int
  | 5 => .array (.array .int)
  | 6 => .array .int
  | 7 => .array .int
  | 8 => .array .int
  | 9 => .array .int
  | 10 => .array .int
  | 11 => .array .int
  | _ => .array .int
theorem nR : ∀ a, a < 13 → ∀ b, b < 13 → a ≠ b → (TR a).2.1 ≠ (TR b).2.1 := by decide +kernel
theorem tR_ok : ∀ k, k < 13 → parseFieldDescriptor (TR k).2.2.1 = some (tR k) := by decide +kernel
theorem uR : ∀ w ∈ u_ws "PolynomialDesk$Ring" TR 13, w ∈ zT := by decide +kernel
def TK : u_T := fun k => match k with
  | 0 => ("PolynomialDesk", "ring", "LPolynomialDesk$Ring;", true)
  | 1 => ("PolynomialDesk", "reader", "LPolynomialDesk$Reader;", true)
  | 2 => ("PolynomialDesk", "printer", "LPolynomialDesk$Printer;", true)
  | 3 => ("PolynomialDesk", "polynomials", "[[I", true)
  | _ => ("PolynomialDesk", "numbers", "[I", true)
def tK : Nat → FieldType := fun k => match k with
  | 0 => .object "PolynomialDesk$Ring"
  | 1 => .object "PolynomialDesk$Reader"
  | 2 => .object "PolynomialDesk$Printer"
  | 3 => .array (.array .int)
  | _ => .array .int
theorem nK : ∀ a, a < 5 → ∀ b, b < 5 → a ≠ b → (TK a).2.1 ≠ (TK b).2.1 := by decide +kernel
theorem tK_ok : ∀ k, k < 5 → parseFieldDescriptor (TK k).2.2.1 = some (tK k) := by decide +kernel
theorem uK : ∀ w ∈ u_ws "PolynomialDesk" TK 5, w ∈ zT := by decide +kernel
def TM : u_T := fun k => match k with
  | 0 => ("PolynomialDeskModel", "thrown", "I", false)
  | 1 => ("PolynomialDeskModel", "prime", "I", false)
  | 2 => ("PolynomialDeskModel", "many", "I", false)
  | 3 => ("PolynomialDeskModel", "order", "I", false)
  | 4 => ("PolynomialDeskModel", "highest", "I", false)
  | 5 => ("PolynomialDeskModel", "base", "I", false)
  | 6 => ("PolynomialDeskModel", "degree", "[I", true)
  | 7 => ("PolynomialDeskModel", "exponents", "[I", true)
  | 8 => ("PolynomialDeskModel", "listed", "[I", true)
  | 9 => ("PolynomialDeskModel", "unit", "[I", true)
  | 10 => ("PolynomialDeskModel", "monomials", "I", false)
  | 11 => ("PolynomialDeskModel", "cells", "[I", true)
  | 12 => ("PolynomialDeskModel", "hand", "[I", true)
  | 13 => ("PolynomialDeskModel", "inHand", "I", false)
  | 14 => ("PolynomialDeskModel", "fault", "I", false)
  | 15 => ("PolynomialDeskModel", "place", "I", false)
  | 16 => ("PolynomialDeskModel", "n", "I", false)
  | 17 => ("PolynomialDeskModel", "at", "I", false)
  | 18 => ("PolynomialDeskModel", "state", "I", false)
  | 19 => ("PolynomialDeskModel", "depth", "I", false)
  | 20 => ("PolynomialDeskModel", "failed", "I", false)
  | 21 => ("PolynomialDeskModel", "failedAt", "I", false)
  | 22 => ("PolynomialDeskModel", "text", "[I", true)
  | 23 => ("PolynomialDeskModel", "sign", "[I", true)
  | 24 => ("PolynomialDeskModel", "star", "[I", true)
  | 25 => ("PolynomialDeskModel", "out", "[I", true)
  | _ => ("PolynomialDeskModel", "printed", "I", false)
def tM : Nat → FieldType := fun k => match k with
  | 0 => .int
  | 1 => .int
  | 2 => .int
  | 3 => .int
  | 4 => .int
  | 5 => .int
  | 6 => .array .int
  | 7 => .array .int
  | 8 => .array .int
  | 9 => .array .int
  | 10 => .int
  | 11 => .array .int
  | 12 => .array .int
  | 13 => .int
  | 14 => .int
  | 15 => .int
  | 16 => .int
  | 17 => .int
  | 18 => .int
  | 19 => .int
  | 20 => .int
  | 21 => .int
  | 22 => .array .int
  | 23 => .array .int
  | 24 => .array .int
  | 25 => .array .int
  | _ => .int
theorem nM : ∀ a, a < 27 → ∀ b, b < 27 → a ≠ b → (TM a).2.1 ≠ (TM b).2.1 := by decide +kernel
theorem tM_ok : ∀ k, k < 27 → parseFieldDescriptor (TM k).2.2.1 = some (tM k) := by decide +kernel
theorem uM : ∀ w ∈ u_ws "PolynomialDeskModel" TM 27, w ∈ zT := by decide +kernel
abbrev zcl : List vw_C := [("PolynomialDesk$Printer", TP, 3), ("PolynomialDesk$Reader", TE, 9), ("PolynomialDesk$Ring", TR, 13), ("PolynomialDesk", TK, 5), ("PolynomialDeskModel", TM, 27)]
end
section
/-! decode rows, by program -/
theorem dP_init_0 : decode bP_init 0 = .ok (.aload_n 0, 1) := by decide +kernel
theorem dP_init_1 : decode bP_init 1 = .ok (.invokespecial 3, 3) := by decide +kernel
theorem dP_init_4 : decode bP_init 4 = .ok (.aload_n 0, 1) := by decide +kernel
theorem dP_init_5 : decode bP_init 5 = .ok (.aload_n 1, 1) := by decide +kernel
theorem dP_init_6 : decode bP_init 6 = .ok (.putfield 9, 3) := by decide +kernel
theorem dP_init_9 : decode bP_init 9 = .ok (.aload_n 0, 1) := by decide +kernel
theorem dP_init_10 : decode bP_init 10 = .ok (.sipush 2268, 3) := by decide +kernel
theorem dP_init_13 : decode bP_init 13 = .ok (.newarray .char, 2) := by decide +kernel
theorem dP_init_15 : decode bP_init 15 = .ok (.putfield 17, 3) := by decide +kernel
theorem dP_init_18 : decode bP_init 18 = .ok (.return_, 1) := by decide +kernel
theorem dP_clear_0 : decode bP_clear 0 = .ok (.aload_n 0, 1) := by decide +kernel
theorem dP_clear_1 : decode bP_clear 1 = .ok (.iconst 0, 1) := by decide +kernel
theorem dP_clear_2 : decode bP_clear 2 = .ok (.putfield 21, 3) := by decide +kernel
theorem dP_clear_5 : decode bP_clear 5 = .ok (.return_, 1) := by decide +kernel
theorem dP_byteAt_0 : decode bP_byteAt 0 = .ok (.iload_n 1, 1) := by decide +kernel
theorem dP_byteAt_1 : decode bP_byteAt 1 = .ok (.ifCond .lt 20, 3) := by decide +kernel
theorem dP_byteAt_4 : decode bP_byteAt 4 = .ok (.iload_n 1, 1) := by decide +kernel
theorem dP_byteAt_5 : decode bP_byteAt 5 = .ok (.aload_n 0, 1) := by decide +kernel
theorem dP_byteAt_6 : decode bP_byteAt 6 = .ok (.getfield 21, 3) := by decide +kernel
theorem dP_byteAt_9 : decode bP_byteAt 9 = .ok (.if_icmp .ge 12, 3) := by decide +kernel
theorem dP_byteAt_12 : decode bP_byteAt 12 = .ok (.aload_n 0, 1) := by decide +kernel
theorem dP_byteAt_13 : decode bP_byteAt 13 = .ok (.getfield 17, 3) := by decide +kernel
theorem dP_byteAt_16 : decode bP_byteAt 16 = .ok (.iload_n 1, 1) := by decide +kernel
theorem dP_byteAt_17 : decode bP_byteAt 17 = .ok (.caload, 1) := by decide +kernel
theorem dP_byteAt_18 : decode bP_byteAt 18 = .ok (.goto 4, 3) := by decide +kernel
theorem dP_byteAt_21 : decode bP_byteAt 21 = .ok (.iconst (-1), 1) := by decide +kernel
theorem dP_byteAt_22 : decode bP_byteAt 22 = .ok (.ireturn, 1) := by decide +kernel
theorem dP_writePolynomial_0 : decode bP_writePolynomial 0 = .ok (.aload_n 0, 1) := by decide +kernel
theorem dP_writePolynomial_1 : decode bP_writePolynomial 1 = .ok (.invokevirtual 25, 3) := by decide +kernel
theorem dP_writePolynomial_4 : decode bP_writePolynomial 4 = .ok (.iconst 0, 1) := by decide +kernel
theorem dP_writePolynomial_5 : decode bP_writePolynomial 5 = .ok (.istore_n 2, 1) := by decide +kernel
theorem dP_writePolynomial_6 : decode bP_writePolynomial 6 = .ok (.iload_n 2, 1) := by decide +kernel
theorem dP_writePolynomial_7 : decode bP_writePolynomial 7 = .ok (.aload_n 1, 1) := by decide +kernel
theorem dP_writePolynomial_8 : decode bP_writePolynomial 8 = .ok (.arraylength, 1) := by decide +kernel
theorem dP_writePolynomial_9 : decode bP_writePolynomial 9 = .ok (.if_icmp .ge 36, 3) := by decide +kernel
theorem dP_writePolynomial_12 : decode bP_writePolynomial 12 = .ok (.aload_n 1, 1) := by decide +kernel
theorem dP_writePolynomial_13 : decode bP_writePolynomial 13 = .ok (.iload_n 2, 1) := by decide +kernel
theorem dP_writePolynomial_14 : decode bP_writePolynomial 14 = .ok (.iaload, 1) := by decide +kernel
theorem dP_writePolynomial_15 : decode bP_writePolynomial 15 = .ok (.ifCond .eq 24, 3) := by decide +kernel
theorem dP_writePolynomial_18 : decode bP_writePolynomial 18 = .ok (.aload_n 0, 1) := by decide +kernel
theorem dP_writePolynomial_19 : decode bP_writePolynomial 19 = .ok (.getfield 21, 3) := by decide +kernel
theorem dP_writePolynomial_22 : decode bP_writePolynomial 22 = .ok (.ifCond .le 9, 3) := by decide +kernel
theorem dP_writePolynomial_25 : decode bP_writePolynomial 25 = .ok (.aload_n 0, 1) := by decide +kernel
theorem dP_writePolynomial_26 : decode bP_writePolynomial 26 = .ok (.bipush 43, 2) := by decide +kernel
theorem dP_writePolynomial_28 : decode bP_writePolynomial 28 = .ok (.invokevirtual 28, 3) := by decide +kernel
theorem dP_writePolynomial_31 : decode bP_writePolynomial 31 = .ok (.aload_n 0, 1) := by decide +kernel
theorem dP_writePolynomial_32 : decode bP_writePolynomial 32 = .ok (.iload_n 2, 1) := by decide +kernel
theorem dP_writePolynomial_33 : decode bP_writePolynomial 33 = .ok (.aload_n 1, 1) := by decide +kernel
theorem dP_writePolynomial_34 : decode bP_writePolynomial 34 = .ok (.iload_n 2, 1) := by decide +kernel
theorem dP_writePolynomial_35 : decode bP_writePolynomial 35 = .ok (.iaload, 1) := by decide +kernel
theorem dP_writePolynomial_36 : decode bP_writePolynomial 36 = .ok (.invokevirtual 32, 3) := by decide +kernel
theorem dP_writePolynomial_39 : decode bP_writePolynomial 39 = .ok (.iinc 2 1, 3) := by decide +kernel
theorem dP_writePolynomial_42 : decode bP_writePolynomial 42 = .ok (.goto (-36), 3) := by decide +kernel
theorem dP_writePolynomial_45 : decode bP_writePolynomial 45 = .ok (.aload_n 0, 1) := by decide +kernel
theorem dP_writePolynomial_46 : decode bP_writePolynomial 46 = .ok (.getfield 21, 3) := by decide +kernel
theorem dP_writePolynomial_49 : decode bP_writePolynomial 49 = .ok (.ifCond .ne 9, 3) := by decide +kernel
theorem dP_writePolynomial_52 : decode bP_writePolynomial 52 = .ok (.aload_n 0, 1) := by decide +kernel
theorem dP_writePolynomial_53 : decode bP_writePolynomial 53 = .ok (.bipush 48, 2) := by decide +kernel
theorem dP_writePolynomial_55 : decode bP_writePolynomial 55 = .ok (.invokevirtual 28, 3) := by decide +kernel
theorem dP_writePolynomial_58 : decode bP_writePolynomial 58 = .ok (.aload_n 0, 1) := by decide +kernel
theorem dP_writePolynomial_59 : decode bP_writePolynomial 59 = .ok (.getfield 21, 3) := by decide +kernel
theorem dP_writePolynomial_62 : decode bP_writePolynomial 62 = .ok (.ireturn, 1) := by decide +kernel
theorem dP_writeTerm_0 : decode bP_writeTerm 0 = .ok (.aload_n 0, 1) := by decide +kernel
theorem dP_writeTerm_1 : decode bP_writeTerm 1 = .ok (.getfield 21, 3) := by decide +kernel
theorem dP_writeTerm_4 : decode bP_writeTerm 4 = .ok (.istore_n 3, 1) := by decide +kernel
theorem dP_writeTerm_5 : decode bP_writeTerm 5 = .ok (.iload_n 2, 1) := by decide +kernel
theorem dP_writeTerm_6 : decode bP_writeTerm 6 = .ok (.iconst 1, 1) := by decide +kernel
theorem dP_writeTerm_7 : decode bP_writeTerm 7 = .ok (.if_icmp .eq 8, 3) := by decide +kernel
theorem dP_writeTerm_10 : decode bP_writeTerm 10 = .ok (.aload_n 0, 1) := by decide +kernel
theorem dP_writeTerm_11 : decode bP_writeTerm 11 = .ok (.iload_n 2, 1) := by decide +kernel
theorem dP_writeTerm_12 : decode bP_writeTerm 12 = .ok (.invokevirtual 36, 3) := by decide +kernel
theorem dP_writeTerm_15 : decode bP_writeTerm 15 = .ok (.iconst 0, 1) := by decide +kernel
theorem dP_writeTerm_16 : decode bP_writeTerm 16 = .ok (.istore 4, 2) := by decide +kernel
theorem dP_writeTerm_18 : decode bP_writeTerm 18 = .ok (.iload 4, 2) := by decide +kernel
theorem dP_writeTerm_20 : decode bP_writeTerm 20 = .ok (.iconst 4, 1) := by decide +kernel
theorem dP_writeTerm_21 : decode bP_writeTerm 21 = .ok (.if_icmp .ge 69, 3) := by decide +kernel
theorem dP_writeTerm_24 : decode bP_writeTerm 24 = .ok (.aload_n 0, 1) := by decide +kernel
theorem dP_writeTerm_25 : decode bP_writeTerm 25 = .ok (.getfield 9, 3) := by decide +kernel
theorem dP_writeTerm_28 : decode bP_writeTerm 28 = .ok (.iload_n 1, 1) := by decide +kernel
theorem dP_writeTerm_29 : decode bP_writeTerm 29 = .ok (.iload 4, 2) := by decide +kernel
theorem dP_writeTerm_31 : decode bP_writeTerm 31 = .ok (.invokevirtual 40, 3) := by decide +kernel
theorem dP_writeTerm_34 : decode bP_writeTerm 34 = .ok (.istore 5, 2) := by decide +kernel
theorem dP_writeTerm_36 : decode bP_writeTerm 36 = .ok (.iload 5, 2) := by decide +kernel
theorem dP_writeTerm_38 : decode bP_writeTerm 38 = .ok (.ifCond .le 46, 3) := by decide +kernel
theorem dP_writeTerm_41 : decode bP_writeTerm 41 = .ok (.aload_n 0, 1) := by decide +kernel
theorem dP_writeTerm_42 : decode bP_writeTerm 42 = .ok (.getfield 21, 3) := by decide +kernel
theorem dP_writeTerm_45 : decode bP_writeTerm 45 = .ok (.iload_n 3, 1) := by decide +kernel
theorem dP_writeTerm_46 : decode bP_writeTerm 46 = .ok (.if_icmp .le 9, 3) := by decide +kernel
theorem dP_writeTerm_49 : decode bP_writeTerm 49 = .ok (.aload_n 0, 1) := by decide +kernel
theorem dP_writeTerm_50 : decode bP_writeTerm 50 = .ok (.bipush 42, 2) := by decide +kernel
theorem dP_writeTerm_52 : decode bP_writeTerm 52 = .ok (.invokevirtual 28, 3) := by decide +kernel
theorem dP_writeTerm_55 : decode bP_writeTerm 55 = .ok (.aload_n 0, 1) := by decide +kernel
theorem dP_writeTerm_56 : decode bP_writeTerm 56 = .ok (.ldc 44, 2) := by decide +kernel
theorem dP_writeTerm_58 : decode bP_writeTerm 58 = .ok (.iload 4, 2) := by decide +kernel
theorem dP_writeTerm_60 : decode bP_writeTerm 60 = .ok (.invokevirtual 46, 3) := by decide +kernel
theorem dP_writeTerm_63 : decode bP_writeTerm 63 = .ok (.invokevirtual 28, 3) := by decide +kernel
theorem dP_writeTerm_66 : decode bP_writeTerm 66 = .ok (.iload 5, 2) := by decide +kernel
theorem dP_writeTerm_68 : decode bP_writeTerm 68 = .ok (.iconst 1, 1) := by decide +kernel
theorem dP_writeTerm_69 : decode bP_writeTerm 69 = .ok (.if_icmp .le 15, 3) := by decide +kernel
theorem dP_writeTerm_72 : decode bP_writeTerm 72 = .ok (.aload_n 0, 1) := by decide +kernel
theorem dP_writeTerm_73 : decode bP_writeTerm 73 = .ok (.bipush 94, 2) := by decide +kernel
theorem dP_writeTerm_75 : decode bP_writeTerm 75 = .ok (.invokevirtual 28, 3) := by decide +kernel
theorem dP_writeTerm_78 : decode bP_writeTerm 78 = .ok (.aload_n 0, 1) := by decide +kernel
theorem dP_writeTerm_79 : decode bP_writeTerm 79 = .ok (.iload 5, 2) := by decide +kernel
theorem dP_writeTerm_81 : decode bP_writeTerm 81 = .ok (.invokevirtual 36, 3) := by decide +kernel
theorem dP_writeTerm_84 : decode bP_writeTerm 84 = .ok (.iinc 4 1, 3) := by decide +kernel
theorem dP_writeTerm_87 : decode bP_writeTerm 87 = .ok (.goto (-69), 3) := by decide +kernel
theorem dP_writeTerm_90 : decode bP_writeTerm 90 = .ok (.aload_n 0, 1) := by decide +kernel
theorem dP_writeTerm_91 : decode bP_writeTerm 91 = .ok (.getfield 21, 3) := by decide +kernel
theorem dP_writeTerm_94 : decode bP_writeTerm 94 = .ok (.iload_n 3, 1) := by decide +kernel
theorem dP_writeTerm_95 : decode bP_writeTerm 95 = .ok (.if_icmp .ne 9, 3) := by decide +kernel
theorem dP_writeTerm_98 : decode bP_writeTerm 98 = .ok (.aload_n 0, 1) := by decide +kernel
theorem dP_writeTerm_99 : decode bP_writeTerm 99 = .ok (.bipush 49, 2) := by decide +kernel
theorem dP_writeTerm_101 : decode bP_writeTerm 101 = .ok (.invokevirtual 28, 3) := by decide +kernel
theorem dP_writeTerm_104 : decode bP_writeTerm 104 = .ok (.return_, 1) := by decide +kernel
theorem dP_writeNumber_0 : decode bP_writeNumber 0 = .ok (.iconst 0, 1) := by decide +kernel
theorem dP_writeNumber_1 : decode bP_writeNumber 1 = .ok (.istore_n 2, 1) := by decide +kernel
theorem dP_writeNumber_2 : decode bP_writeNumber 2 = .ok (.sipush 10000, 3) := by decide +kernel
theorem dP_writeNumber_5 : decode bP_writeNumber 5 = .ok (.istore_n 3, 1) := by decide +kernel
theorem dP_writeNumber_6 : decode bP_writeNumber 6 = .ok (.iload_n 3, 1) := by decide +kernel
theorem dP_writeNumber_7 : decode bP_writeNumber 7 = .ok (.ifCond .le 53, 3) := by decide +kernel
theorem dP_writeNumber_10 : decode bP_writeNumber 10 = .ok (.iload_n 1, 1) := by decide +kernel
theorem dP_writeNumber_11 : decode bP_writeNumber 11 = .ok (.iload_n 3, 1) := by decide +kernel
theorem dP_writeNumber_12 : decode bP_writeNumber 12 = .ok (.idiv, 1) := by decide +kernel
theorem dP_writeNumber_13 : decode bP_writeNumber 13 = .ok (.bipush 10, 2) := by decide +kernel
theorem dP_writeNumber_15 : decode bP_writeNumber 15 = .ok (.irem, 1) := by decide +kernel
theorem dP_writeNumber_16 : decode bP_writeNumber 16 = .ok (.istore 4, 2) := by decide +kernel
theorem dP_writeNumber_18 : decode bP_writeNumber 18 = .ok (.iload_n 2, 1) := by decide +kernel
theorem dP_writeNumber_19 : decode bP_writeNumber 19 = .ok (.ifCond .ne 13, 3) := by decide +kernel
theorem dP_writeNumber_22 : decode bP_writeNumber 22 = .ok (.iload 4, 2) := by decide +kernel
theorem dP_writeNumber_24 : decode bP_writeNumber 24 = .ok (.ifCond .ne 8, 3) := by decide +kernel
theorem dP_writeNumber_27 : decode bP_writeNumber 27 = .ok (.iload_n 3, 1) := by decide +kernel
theorem dP_writeNumber_28 : decode bP_writeNumber 28 = .ok (.iconst 1, 1) := by decide +kernel
theorem dP_writeNumber_29 : decode bP_writeNumber 29 = .ok (.if_icmp .ne 7, 3) := by decide +kernel
theorem dP_writeNumber_32 : decode bP_writeNumber 32 = .ok (.iconst 1, 1) := by decide +kernel
theorem dP_writeNumber_33 : decode bP_writeNumber 33 = .ok (.goto 4, 3) := by decide +kernel
theorem dP_writeNumber_36 : decode bP_writeNumber 36 = .ok (.iconst 0, 1) := by decide +kernel
theorem dP_writeNumber_37 : decode bP_writeNumber 37 = .ok (.istore_n 2, 1) := by decide +kernel
theorem dP_writeNumber_38 : decode bP_writeNumber 38 = .ok (.iload_n 2, 1) := by decide +kernel
theorem dP_writeNumber_39 : decode bP_writeNumber 39 = .ok (.ifCond .eq 13, 3) := by decide +kernel
theorem dP_writeNumber_42 : decode bP_writeNumber 42 = .ok (.aload_n 0, 1) := by decide +kernel
theorem dP_writeNumber_43 : decode bP_writeNumber 43 = .ok (.bipush 48, 2) := by decide +kernel
theorem dP_writeNumber_45 : decode bP_writeNumber 45 = .ok (.iload 4, 2) := by decide +kernel
theorem dP_writeNumber_47 : decode bP_writeNumber 47 = .ok (.iadd, 1) := by decide +kernel
theorem dP_writeNumber_48 : decode bP_writeNumber 48 = .ok (.i2c, 1) := by decide +kernel
theorem dP_writeNumber_49 : decode bP_writeNumber 49 = .ok (.invokevirtual 28, 3) := by decide +kernel
theorem dP_writeNumber_52 : decode bP_writeNumber 52 = .ok (.iload_n 3, 1) := by decide +kernel
theorem dP_writeNumber_53 : decode bP_writeNumber 53 = .ok (.bipush 10, 2) := by decide +kernel
theorem dP_writeNumber_55 : decode bP_writeNumber 55 = .ok (.idiv, 1) := by decide +kernel
theorem dP_writeNumber_56 : decode bP_writeNumber 56 = .ok (.istore_n 3, 1) := by decide +kernel
theorem dP_writeNumber_57 : decode bP_writeNumber 57 = .ok (.goto (-51), 3) := by decide +kernel
theorem dP_writeNumber_60 : decode bP_writeNumber 60 = .ok (.return_, 1) := by decide +kernel
theorem dP_writeByte_0 : decode bP_writeByte 0 = .ok (.aload_n 0, 1) := by decide +kernel
theorem dP_writeByte_1 : decode bP_writeByte 1 = .ok (.getfield 21, 3) := by decide +kernel
theorem dP_writeByte_4 : decode bP_writeByte 4 = .ok (.aload_n 0, 1) := by decide +kernel
theorem dP_writeByte_5 : decode bP_writeByte 5 = .ok (.getfield 17, 3) := by decide +kernel
theorem dP_writeByte_8 : decode bP_writeByte 8 = .ok (.arraylength, 1) := by decide +kernel
theorem dP_writeByte_9 : decode bP_writeByte 9 = .ok (.if_icmp .ge 23, 3) := by decide +kernel
theorem dP_writeByte_12 : decode bP_writeByte 12 = .ok (.aload_n 0, 1) := by decide +kernel
theorem dP_writeByte_13 : decode bP_writeByte 13 = .ok (.getfield 17, 3) := by decide +kernel
theorem dP_writeByte_16 : decode bP_writeByte 16 = .ok (.aload_n 0, 1) := by decide +kernel
theorem dP_writeByte_17 : decode bP_writeByte 17 = .ok (.getfield 21, 3) := by decide +kernel
theorem dP_writeByte_20 : decode bP_writeByte 20 = .ok (.iload_n 1, 1) := by decide +kernel
theorem dP_writeByte_21 : decode bP_writeByte 21 = .ok (.castore, 1) := by decide +kernel
theorem dP_writeByte_22 : decode bP_writeByte 22 = .ok (.aload_n 0, 1) := by decide +kernel
theorem dP_writeByte_23 : decode bP_writeByte 23 = .ok (.dup, 1) := by decide +kernel
theorem dP_writeByte_24 : decode bP_writeByte 24 = .ok (.getfield 21, 3) := by decide +kernel
theorem dP_writeByte_27 : decode bP_writeByte 27 = .ok (.iconst 1, 1) := by decide +kernel
theorem dP_writeByte_28 : decode bP_writeByte 28 = .ok (.iadd, 1) := by decide +kernel
theorem dP_writeByte_29 : decode bP_writeByte 29 = .ok (.putfield 21, 3) := by decide +kernel
theorem dP_writeByte_32 : decode bP_writeByte 32 = .ok (.return_, 1) := by decide +kernel
theorem dE_readGroup_0 : decode bE_readGroup 0 = .ok (.iload_n 1, 1) := by decide +kernel
theorem dE_readGroup_1 : decode bE_readGroup 1 = .ok (.ifCond .lt 9, 3) := by decide +kernel
theorem dE_readGroup_4 : decode bE_readGroup 4 = .ok (.iload_n 1, 1) := by decide +kernel
theorem dE_readGroup_5 : decode bE_readGroup 5 = .ok (.bipush 20, 2) := by decide +kernel
theorem dE_readGroup_7 : decode bE_readGroup 7 = .ok (.if_icmp .le 13, 3) := by decide +kernel
theorem dE_readGroup_10 : decode bE_readGroup 10 = .ok (.aload_n 0, 1) := by decide +kernel
theorem dE_readGroup_11 : decode bE_readGroup 11 = .ok (.iconst 2, 1) := by decide +kernel
theorem dE_readGroup_12 : decode bE_readGroup 12 = .ok (.aload_n 0, 1) := by decide +kernel
theorem dE_readGroup_13 : decode bE_readGroup 13 = .ok (.getfield 45, 3) := by decide +kernel
theorem dE_readGroup_16 : decode bE_readGroup 16 = .ok (.invokevirtual 56, 3) := by decide +kernel
theorem dE_readGroup_19 : decode bE_readGroup 19 = .ok (.return_, 1) := by decide +kernel
theorem dE_readGroup_20 : decode bE_readGroup 20 = .ok (.aload_n 0, 1) := by decide +kernel
theorem dE_readGroup_21 : decode bE_readGroup 21 = .ok (.dup, 1) := by decide +kernel
theorem dE_readGroup_22 : decode bE_readGroup 22 = .ok (.getfield 45, 3) := by decide +kernel
theorem dE_readGroup_25 : decode bE_readGroup 25 = .ok (.iconst 1, 1) := by decide +kernel
theorem dE_readGroup_26 : decode bE_readGroup 26 = .ok (.iadd, 1) := by decide +kernel
theorem dE_readGroup_27 : decode bE_readGroup 27 = .ok (.putfield 45, 3) := by decide +kernel
theorem dE_readGroup_30 : decode bE_readGroup 30 = .ok (.aload_n 0, 1) := by decide +kernel
theorem dE_readGroup_31 : decode bE_readGroup 31 = .ok (.iload_n 1, 1) := by decide +kernel
theorem dE_readGroup_32 : decode bE_readGroup 32 = .ok (.invokevirtual 48, 3) := by decide +kernel
theorem dE_readGroup_35 : decode bE_readGroup 35 = .ok (.aload_n 0, 1) := by decide +kernel
theorem dE_readGroup_36 : decode bE_readGroup 36 = .ok (.getfield 42, 3) := by decide +kernel
theorem dE_readGroup_39 : decode bE_readGroup 39 = .ok (.ifCond .eq 4, 3) := by decide +kernel
theorem dE_readGroup_42 : decode bE_readGroup 42 = .ok (.return_, 1) := by decide +kernel
theorem dE_readGroup_43 : decode bE_readGroup 43 = .ok (.aload_n 0, 1) := by decide +kernel
theorem dE_readGroup_44 : decode bE_readGroup 44 = .ok (.invokevirtual 52, 3) := by decide +kernel
theorem dE_readGroup_47 : decode bE_readGroup 47 = .ok (.bipush 41, 2) := by decide +kernel
theorem dE_readGroup_49 : decode bE_readGroup 49 = .ok (.if_icmp .eq 13, 3) := by decide +kernel
theorem dE_readGroup_52 : decode bE_readGroup 52 = .ok (.aload_n 0, 1) := by decide +kernel
theorem dE_readGroup_53 : decode bE_readGroup 53 = .ok (.iconst 1, 1) := by decide +kernel
theorem dE_readGroup_54 : decode bE_readGroup 54 = .ok (.aload_n 0, 1) := by decide +kernel
theorem dE_readGroup_55 : decode bE_readGroup 55 = .ok (.getfield 45, 3) := by decide +kernel
theorem dE_readGroup_58 : decode bE_readGroup 58 = .ok (.invokevirtual 56, 3) := by decide +kernel
theorem dE_readGroup_61 : decode bE_readGroup 61 = .ok (.return_, 1) := by decide +kernel
theorem dE_readGroup_62 : decode bE_readGroup 62 = .ok (.aload_n 0, 1) := by decide +kernel
theorem dE_readGroup_63 : decode bE_readGroup 63 = .ok (.dup, 1) := by decide +kernel
theorem dE_readGroup_64 : decode bE_readGroup 64 = .ok (.getfield 45, 3) := by decide +kernel
theorem dE_readGroup_67 : decode bE_readGroup 67 = .ok (.iconst 1, 1) := by decide +kernel
theorem dE_readGroup_68 : decode bE_readGroup 68 = .ok (.iadd, 1) := by decide +kernel
theorem dE_readGroup_69 : decode bE_readGroup 69 = .ok (.putfield 45, 3) := by decide +kernel
theorem dE_readGroup_72 : decode bE_readGroup 72 = .ok (.aload_n 0, 1) := by decide +kernel
theorem dE_readGroup_73 : decode bE_readGroup 73 = .ok (.getfield 9, 3) := by decide +kernel
theorem dE_readGroup_76 : decode bE_readGroup 76 = .ok (.aload_n 0, 1) := by decide +kernel
theorem dE_readGroup_77 : decode bE_readGroup 77 = .ok (.getfield 27, 3) := by decide +kernel
theorem dE_readGroup_80 : decode bE_readGroup 80 = .ok (.iload_n 1, 1) := by decide +kernel
theorem dE_readGroup_81 : decode bE_readGroup 81 = .ok (.aaload, 1) := by decide +kernel
theorem dE_readGroup_82 : decode bE_readGroup 82 = .ok (.aload_n 0, 1) := by decide +kernel
theorem dE_readGroup_83 : decode bE_readGroup 83 = .ok (.getfield 33, 3) := by decide +kernel
theorem dE_readGroup_86 : decode bE_readGroup 86 = .ok (.invokevirtual 60, 3) := by decide +kernel
theorem dE_readGroup_89 : decode bE_readGroup 89 = .ok (.return_, 1) := by decide +kernel
theorem dE_readNumber_0 : decode bE_readNumber 0 = .ok (.aload_n 0, 1) := by decide +kernel
theorem dE_readNumber_1 : decode bE_readNumber 1 = .ok (.invokevirtual 52, 3) := by decide +kernel
theorem dE_readNumber_4 : decode bE_readNumber 4 = .ok (.invokestatic 110, 3) := by decide +kernel
theorem dE_readNumber_7 : decode bE_readNumber 7 = .ok (.ifCond .ne 14, 3) := by decide +kernel
theorem dE_readNumber_10 : decode bE_readNumber 10 = .ok (.aload_n 0, 1) := by decide +kernel
theorem dE_readNumber_11 : decode bE_readNumber 11 = .ok (.iconst 1, 1) := by decide +kernel
theorem dE_readNumber_12 : decode bE_readNumber 12 = .ok (.aload_n 0, 1) := by decide +kernel
theorem dE_readNumber_13 : decode bE_readNumber 13 = .ok (.getfield 45, 3) := by decide +kernel
theorem dE_readNumber_16 : decode bE_readNumber 16 = .ok (.invokevirtual 56, 3) := by decide +kernel
theorem dE_readNumber_19 : decode bE_readNumber 19 = .ok (.iconst 0, 1) := by decide +kernel
theorem dE_readNumber_20 : decode bE_readNumber 20 = .ok (.ireturn, 1) := by decide +kernel
theorem dE_readNumber_21 : decode bE_readNumber 21 = .ok (.aload_n 0, 1) := by decide +kernel
theorem dE_readNumber_22 : decode bE_readNumber 22 = .ok (.getfield 45, 3) := by decide +kernel
theorem dE_readNumber_25 : decode bE_readNumber 25 = .ok (.istore_n 2, 1) := by decide +kernel
theorem dE_readNumber_26 : decode bE_readNumber 26 = .ok (.iconst 0, 1) := by decide +kernel
theorem dE_readNumber_27 : decode bE_readNumber 27 = .ok (.istore_n 3, 1) := by decide +kernel
theorem dE_readNumber_28 : decode bE_readNumber 28 = .ok (.aload_n 0, 1) := by decide +kernel
theorem dE_readNumber_29 : decode bE_readNumber 29 = .ok (.getfield 45, 3) := by decide +kernel
theorem dE_readNumber_32 : decode bE_readNumber 32 = .ok (.aload_n 0, 1) := by decide +kernel
theorem dE_readNumber_33 : decode bE_readNumber 33 = .ok (.getfield 37, 3) := by decide +kernel
theorem dE_readNumber_36 : decode bE_readNumber 36 = .ok (.if_icmp .ge 67, 3) := by decide +kernel
theorem dE_readNumber_39 : decode bE_readNumber 39 = .ok (.aload_n 0, 1) := by decide +kernel
theorem dE_readNumber_40 : decode bE_readNumber 40 = .ok (.getfield 15, 3) := by decide +kernel
theorem dE_readNumber_43 : decode bE_readNumber 43 = .ok (.aload_n 0, 1) := by decide +kernel
theorem dE_readNumber_44 : decode bE_readNumber 44 = .ok (.getfield 45, 3) := by decide +kernel
theorem dE_readNumber_47 : decode bE_readNumber 47 = .ok (.caload, 1) := by decide +kernel
theorem dE_readNumber_48 : decode bE_readNumber 48 = .ok (.invokestatic 110, 3) := by decide +kernel
theorem dE_readNumber_51 : decode bE_readNumber 51 = .ok (.ifCond .eq 52, 3) := by decide +kernel
theorem dE_readNumber_54 : decode bE_readNumber 54 = .ok (.aload_n 0, 1) := by decide +kernel
theorem dE_readNumber_55 : decode bE_readNumber 55 = .ok (.getfield 45, 3) := by decide +kernel
theorem dE_readNumber_58 : decode bE_readNumber 58 = .ok (.iload_n 2, 1) := by decide +kernel
theorem dE_readNumber_59 : decode bE_readNumber 59 = .ok (.isub, 1) := by decide +kernel
theorem dE_readNumber_60 : decode bE_readNumber 60 = .ok (.iload_n 1, 1) := by decide +kernel
theorem dE_readNumber_61 : decode bE_readNumber 61 = .ok (.if_icmp .lt 11, 3) := by decide +kernel
theorem dE_readNumber_64 : decode bE_readNumber 64 = .ok (.aload_n 0, 1) := by decide +kernel
theorem dE_readNumber_65 : decode bE_readNumber 65 = .ok (.iconst 4, 1) := by decide +kernel
theorem dE_readNumber_66 : decode bE_readNumber 66 = .ok (.iload_n 2, 1) := by decide +kernel
theorem dE_readNumber_67 : decode bE_readNumber 67 = .ok (.invokevirtual 56, 3) := by decide +kernel
theorem dE_readNumber_70 : decode bE_readNumber 70 = .ok (.iconst 0, 1) := by decide +kernel
theorem dE_readNumber_71 : decode bE_readNumber 71 = .ok (.ireturn, 1) := by decide +kernel
theorem dE_readNumber_72 : decode bE_readNumber 72 = .ok (.iload_n 3, 1) := by decide +kernel
theorem dE_readNumber_73 : decode bE_readNumber 73 = .ok (.bipush 10, 2) := by decide +kernel
theorem dE_readNumber_75 : decode bE_readNumber 75 = .ok (.imul, 1) := by decide +kernel
theorem dE_readNumber_76 : decode bE_readNumber 76 = .ok (.aload_n 0, 1) := by decide +kernel
theorem dE_readNumber_77 : decode bE_readNumber 77 = .ok (.getfield 15, 3) := by decide +kernel
theorem dE_readNumber_80 : decode bE_readNumber 80 = .ok (.aload_n 0, 1) := by decide +kernel
theorem dE_readNumber_81 : decode bE_readNumber 81 = .ok (.getfield 45, 3) := by decide +kernel
theorem dE_readNumber_84 : decode bE_readNumber 84 = .ok (.caload, 1) := by decide +kernel
theorem dE_readNumber_85 : decode bE_readNumber 85 = .ok (.bipush 48, 2) := by decide +kernel
theorem dE_readNumber_87 : decode bE_readNumber 87 = .ok (.isub, 1) := by decide +kernel
theorem dE_readNumber_88 : decode bE_readNumber 88 = .ok (.iadd, 1) := by decide +kernel
theorem dE_readNumber_89 : decode bE_readNumber 89 = .ok (.istore_n 3, 1) := by decide +kernel
theorem dE_readNumber_90 : decode bE_readNumber 90 = .ok (.aload_n 0, 1) := by decide +kernel
theorem dE_readNumber_91 : decode bE_readNumber 91 = .ok (.dup, 1) := by decide +kernel
theorem dE_readNumber_92 : decode bE_readNumber 92 = .ok (.getfield 45, 3) := by decide +kernel
theorem dE_readNumber_95 : decode bE_readNumber 95 = .ok (.iconst 1, 1) := by decide +kernel
theorem dE_readNumber_96 : decode bE_readNumber 96 = .ok (.iadd, 1) := by decide +kernel
theorem dE_readNumber_97 : decode bE_readNumber 97 = .ok (.putfield 45, 3) := by decide +kernel
theorem dE_readNumber_100 : decode bE_readNumber 100 = .ok (.goto (-72), 3) := by decide +kernel
theorem dE_readNumber_103 : decode bE_readNumber 103 = .ok (.iload_n 3, 1) := by decide +kernel
theorem dE_readNumber_104 : decode bE_readNumber 104 = .ok (.ireturn, 1) := by decide +kernel
theorem dE_nextByte_0 : decode bE_nextByte 0 = .ok (.aload_n 0, 1) := by decide +kernel
theorem dE_nextByte_1 : decode bE_nextByte 1 = .ok (.getfield 45, 3) := by decide +kernel
theorem dE_nextByte_4 : decode bE_nextByte 4 = .ok (.aload_n 0, 1) := by decide +kernel
theorem dE_nextByte_5 : decode bE_nextByte 5 = .ok (.getfield 37, 3) := by decide +kernel
theorem dE_nextByte_8 : decode bE_nextByte 8 = .ok (.if_icmp .ge 30, 3) := by decide +kernel
theorem dE_nextByte_11 : decode bE_nextByte 11 = .ok (.aload_n 0, 1) := by decide +kernel
theorem dE_nextByte_12 : decode bE_nextByte 12 = .ok (.getfield 15, 3) := by decide +kernel
theorem dE_nextByte_15 : decode bE_nextByte 15 = .ok (.aload_n 0, 1) := by decide +kernel
theorem dE_nextByte_16 : decode bE_nextByte 16 = .ok (.getfield 45, 3) := by decide +kernel
theorem dE_nextByte_19 : decode bE_nextByte 19 = .ok (.caload, 1) := by decide +kernel
theorem dE_nextByte_20 : decode bE_nextByte 20 = .ok (.bipush 32, 2) := by decide +kernel
theorem dE_nextByte_22 : decode bE_nextByte 22 = .ok (.if_icmp .ne 16, 3) := by decide +kernel
theorem dE_nextByte_25 : decode bE_nextByte 25 = .ok (.aload_n 0, 1) := by decide +kernel
theorem dE_nextByte_26 : decode bE_nextByte 26 = .ok (.dup, 1) := by decide +kernel
theorem dE_nextByte_27 : decode bE_nextByte 27 = .ok (.getfield 45, 3) := by decide +kernel
theorem dE_nextByte_30 : decode bE_nextByte 30 = .ok (.iconst 1, 1) := by decide +kernel
theorem dE_nextByte_31 : decode bE_nextByte 31 = .ok (.iadd, 1) := by decide +kernel
theorem dE_nextByte_32 : decode bE_nextByte 32 = .ok (.putfield 45, 3) := by decide +kernel
theorem dE_nextByte_35 : decode bE_nextByte 35 = .ok (.goto (-35), 3) := by decide +kernel
theorem dE_nextByte_38 : decode bE_nextByte 38 = .ok (.aload_n 0, 1) := by decide +kernel
theorem dE_nextByte_39 : decode bE_nextByte 39 = .ok (.getfield 45, 3) := by decide +kernel
theorem dE_nextByte_42 : decode bE_nextByte 42 = .ok (.aload_n 0, 1) := by decide +kernel
theorem dE_nextByte_43 : decode bE_nextByte 43 = .ok (.getfield 37, 3) := by decide +kernel
theorem dE_nextByte_46 : decode bE_nextByte 46 = .ok (.if_icmp .ge 15, 3) := by decide +kernel
theorem dE_nextByte_49 : decode bE_nextByte 49 = .ok (.aload_n 0, 1) := by decide +kernel
theorem dE_nextByte_50 : decode bE_nextByte 50 = .ok (.getfield 15, 3) := by decide +kernel
theorem dE_nextByte_53 : decode bE_nextByte 53 = .ok (.aload_n 0, 1) := by decide +kernel
theorem dE_nextByte_54 : decode bE_nextByte 54 = .ok (.getfield 45, 3) := by decide +kernel
theorem dE_nextByte_57 : decode bE_nextByte 57 = .ok (.caload, 1) := by decide +kernel
theorem dE_nextByte_58 : decode bE_nextByte 58 = .ok (.goto 4, 3) := by decide +kernel
theorem dE_nextByte_61 : decode bE_nextByte 61 = .ok (.iconst (-1), 1) := by decide +kernel
theorem dE_nextByte_62 : decode bE_nextByte 62 = .ok (.ireturn, 1) := by decide +kernel
theorem dE_noteFault_0 : decode bE_noteFault 0 = .ok (.aload_n 0, 1) := by decide +kernel
theorem dE_noteFault_1 : decode bE_noteFault 1 = .ok (.iload_n 1, 1) := by decide +kernel
theorem dE_noteFault_2 : decode bE_noteFault 2 = .ok (.putfield 42, 3) := by decide +kernel
theorem dE_noteFault_5 : decode bE_noteFault 5 = .ok (.aload_n 0, 1) := by decide +kernel
theorem dE_noteFault_6 : decode bE_noteFault 6 = .ok (.iload_n 2, 1) := by decide +kernel
theorem dE_noteFault_7 : decode bE_noteFault 7 = .ok (.putfield 19, 3) := by decide +kernel
theorem dE_noteFault_10 : decode bE_noteFault 10 = .ok (.return_, 1) := by decide +kernel
theorem dE_isSign_0 : decode bE_isSign 0 = .ok (.iload_n 0, 1) := by decide +kernel
theorem dE_isSign_1 : decode bE_isSign 1 = .ok (.bipush 43, 2) := by decide +kernel
theorem dE_isSign_3 : decode bE_isSign 3 = .ok (.if_icmp .eq 9, 3) := by decide +kernel
theorem dE_isSign_6 : decode bE_isSign 6 = .ok (.iload_n 0, 1) := by decide +kernel
theorem dE_isSign_7 : decode bE_isSign 7 = .ok (.bipush 45, 2) := by decide +kernel
theorem dE_isSign_9 : decode bE_isSign 9 = .ok (.if_icmp .ne 7, 3) := by decide +kernel
theorem dE_isSign_12 : decode bE_isSign 12 = .ok (.iconst 1, 1) := by decide +kernel
theorem dE_isSign_13 : decode bE_isSign 13 = .ok (.goto 4, 3) := by decide +kernel
theorem dE_isSign_16 : decode bE_isSign 16 = .ok (.iconst 0, 1) := by decide +kernel
theorem dE_isSign_17 : decode bE_isSign 17 = .ok (.ireturn, 1) := by decide +kernel
theorem dE_isDigit_0 : decode bE_isDigit 0 = .ok (.iload_n 0, 1) := by decide +kernel
theorem dE_isDigit_1 : decode bE_isDigit 1 = .ok (.bipush 48, 2) := by decide +kernel
theorem dE_isDigit_3 : decode bE_isDigit 3 = .ok (.if_icmp .lt 13, 3) := by decide +kernel
theorem dE_isDigit_6 : decode bE_isDigit 6 = .ok (.iload_n 0, 1) := by decide +kernel
theorem dE_isDigit_7 : decode bE_isDigit 7 = .ok (.bipush 57, 2) := by decide +kernel
theorem dE_isDigit_9 : decode bE_isDigit 9 = .ok (.if_icmp .gt 7, 3) := by decide +kernel
theorem dE_isDigit_12 : decode bE_isDigit 12 = .ok (.iconst 1, 1) := by decide +kernel
theorem dE_isDigit_13 : decode bE_isDigit 13 = .ok (.goto 4, 3) := by decide +kernel
theorem dE_isDigit_16 : decode bE_isDigit 16 = .ok (.iconst 0, 1) := by decide +kernel
theorem dE_isDigit_17 : decode bE_isDigit 17 = .ok (.ireturn, 1) := by decide +kernel
theorem dE_variableOf_0 : decode bE_variableOf 0 = .ok (.iload_n 0, 1) := by decide +kernel
theorem dE_variableOf_1 : decode bE_variableOf 1 = .ok (.bipush 119, 2) := by decide +kernel
theorem dE_variableOf_3 : decode bE_variableOf 3 = .ok (.if_icmp .ne 5, 3) := by decide +kernel
theorem dE_variableOf_6 : decode bE_variableOf 6 = .ok (.iconst 3, 1) := by decide +kernel
theorem dE_variableOf_7 : decode bE_variableOf 7 = .ok (.ireturn, 1) := by decide +kernel
theorem dE_variableOf_8 : decode bE_variableOf 8 = .ok (.iload_n 0, 1) := by decide +kernel
theorem dE_variableOf_9 : decode bE_variableOf 9 = .ok (.bipush 120, 2) := by decide +kernel
theorem dE_variableOf_11 : decode bE_variableOf 11 = .ok (.if_icmp .lt 16, 3) := by decide +kernel
theorem dE_variableOf_14 : decode bE_variableOf 14 = .ok (.iload_n 0, 1) := by decide +kernel
theorem dE_variableOf_15 : decode bE_variableOf 15 = .ok (.bipush 122, 2) := by decide +kernel
theorem dE_variableOf_17 : decode bE_variableOf 17 = .ok (.if_icmp .gt 10, 3) := by decide +kernel
theorem dE_variableOf_20 : decode bE_variableOf 20 = .ok (.iload_n 0, 1) := by decide +kernel
theorem dE_variableOf_21 : decode bE_variableOf 21 = .ok (.bipush 120, 2) := by decide +kernel
theorem dE_variableOf_23 : decode bE_variableOf 23 = .ok (.isub, 1) := by decide +kernel
theorem dE_variableOf_24 : decode bE_variableOf 24 = .ok (.goto 4, 3) := by decide +kernel
theorem dE_variableOf_27 : decode bE_variableOf 27 = .ok (.iconst (-1), 1) := by decide +kernel
theorem dE_variableOf_28 : decode bE_variableOf 28 = .ok (.ireturn, 1) := by decide +kernel
theorem dE_init_0 : decode bE_init 0 = .ok (.aload_n 0, 1) := by decide +kernel
theorem dE_init_1 : decode bE_init 1 = .ok (.invokespecial 3, 3) := by decide +kernel
theorem dE_init_4 : decode bE_init 4 = .ok (.aload_n 0, 1) := by decide +kernel
theorem dE_init_5 : decode bE_init 5 = .ok (.aload_n 1, 1) := by decide +kernel
theorem dE_init_6 : decode bE_init 6 = .ok (.putfield 9, 3) := by decide +kernel
theorem dE_init_9 : decode bE_init 9 = .ok (.aload_n 0, 1) := by decide +kernel
theorem dE_init_10 : decode bE_init 10 = .ok (.sipush 200, 3) := by decide +kernel
theorem dE_init_13 : decode bE_init 13 = .ok (.newarray .char, 2) := by decide +kernel
theorem dE_init_15 : decode bE_init 15 = .ok (.putfield 15, 3) := by decide +kernel
theorem dE_init_18 : decode bE_init 18 = .ok (.aload_n 0, 1) := by decide +kernel
theorem dE_init_19 : decode bE_init 19 = .ok (.iconst (-1), 1) := by decide +kernel
theorem dE_init_20 : decode bE_init 20 = .ok (.putfield 19, 3) := by decide +kernel
theorem dE_init_23 : decode bE_init 23 = .ok (.aload_n 0, 1) := by decide +kernel
theorem dE_init_24 : decode bE_init 24 = .ok (.bipush 21, 2) := by decide +kernel
theorem dE_init_26 : decode bE_init 26 = .ok (.bipush 126, 2) := by decide +kernel
theorem dE_init_28 : decode bE_init 28 = .ok (.multianewarray 25 2, 4) := by decide +kernel
theorem dE_init_32 : decode bE_init 32 = .ok (.putfield 27, 3) := by decide +kernel
theorem dE_init_35 : decode bE_init 35 = .ok (.aload_n 0, 1) := by decide +kernel
theorem dE_init_36 : decode bE_init 36 = .ok (.bipush 21, 2) := by decide +kernel
theorem dE_init_38 : decode bE_init 38 = .ok (.bipush 126, 2) := by decide +kernel
theorem dE_init_40 : decode bE_init 40 = .ok (.multianewarray 25 2, 4) := by decide +kernel
theorem dE_init_44 : decode bE_init 44 = .ok (.putfield 30, 3) := by decide +kernel
theorem dE_init_47 : decode bE_init 47 = .ok (.aload_n 0, 1) := by decide +kernel
theorem dE_init_48 : decode bE_init 48 = .ok (.bipush 126, 2) := by decide +kernel
theorem dE_init_50 : decode bE_init 50 = .ok (.newarray .int, 2) := by decide +kernel
theorem dE_init_52 : decode bE_init 52 = .ok (.putfield 33, 3) := by decide +kernel
theorem dE_init_55 : decode bE_init 55 = .ok (.return_, 1) := by decide +kernel
theorem dE_takeBytes_0 : decode bE_takeBytes 0 = .ok (.iload_n 3, 1) := by decide +kernel
theorem dE_takeBytes_1 : decode bE_takeBytes 1 = .ok (.ifCond .lt 21, 3) := by decide +kernel
theorem dE_takeBytes_4 : decode bE_takeBytes 4 = .ok (.iload_n 3, 1) := by decide +kernel
theorem dE_takeBytes_5 : decode bE_takeBytes 5 = .ok (.bipush 8, 2) := by decide +kernel
theorem dE_takeBytes_7 : decode bE_takeBytes 7 = .ok (.if_icmp .gt 15, 3) := by decide +kernel
theorem dE_takeBytes_10 : decode bE_takeBytes 10 = .ok (.aload_n 0, 1) := by decide +kernel
theorem dE_takeBytes_11 : decode bE_takeBytes 11 = .ok (.getfield 37, 3) := by decide +kernel
theorem dE_takeBytes_14 : decode bE_takeBytes 14 = .ok (.iload_n 3, 1) := by decide +kernel
theorem dE_takeBytes_15 : decode bE_takeBytes 15 = .ok (.iadd, 1) := by decide +kernel
theorem dE_takeBytes_16 : decode bE_takeBytes 16 = .ok (.sipush 200, 3) := by decide +kernel
theorem dE_takeBytes_19 : decode bE_takeBytes 19 = .ok (.if_icmp .le 5, 3) := by decide +kernel
theorem dE_takeBytes_22 : decode bE_takeBytes 22 = .ok (.iconst 0, 1) := by decide +kernel
theorem dE_takeBytes_23 : decode bE_takeBytes 23 = .ok (.ireturn, 1) := by decide +kernel
theorem dE_takeBytes_24 : decode bE_takeBytes 24 = .ok (.iload_n 3, 1) := by decide +kernel
theorem dE_takeBytes_25 : decode bE_takeBytes 25 = .ok (.iconst 1, 1) := by decide +kernel
theorem dE_takeBytes_26 : decode bE_takeBytes 26 = .ok (.isub, 1) := by decide +kernel
theorem dE_takeBytes_27 : decode bE_takeBytes 27 = .ok (.istore 4, 2) := by decide +kernel
theorem dE_takeBytes_29 : decode bE_takeBytes 29 = .ok (.iload 4, 2) := by decide +kernel
theorem dE_takeBytes_31 : decode bE_takeBytes 31 = .ok (.ifCond .lt 41, 3) := by decide +kernel
theorem dE_takeBytes_34 : decode bE_takeBytes 34 = .ok (.aload_n 0, 1) := by decide +kernel
theorem dE_takeBytes_35 : decode bE_takeBytes 35 = .ok (.getfield 15, 3) := by decide +kernel
theorem dE_takeBytes_38 : decode bE_takeBytes 38 = .ok (.aload_n 0, 1) := by decide +kernel
theorem dE_takeBytes_39 : decode bE_takeBytes 39 = .ok (.getfield 37, 3) := by decide +kernel
theorem dE_takeBytes_42 : decode bE_takeBytes 42 = .ok (.lload_n 1, 1) := by decide +kernel
theorem dE_takeBytes_43 : decode bE_takeBytes 43 = .ok (.bipush 8, 2) := by decide +kernel
theorem dE_takeBytes_45 : decode bE_takeBytes 45 = .ok (.iload 4, 2) := by decide +kernel
theorem dE_takeBytes_47 : decode bE_takeBytes 47 = .ok (.imul, 1) := by decide +kernel
theorem dE_takeBytes_48 : decode bE_takeBytes 48 = .ok (.lushr, 1) := by decide +kernel
theorem dE_takeBytes_49 : decode bE_takeBytes 49 = .ok (.ldc2_w 40, 3) := by decide +kernel
theorem dE_takeBytes_52 : decode bE_takeBytes 52 = .ok (.land, 1) := by decide +kernel
theorem dE_takeBytes_53 : decode bE_takeBytes 53 = .ok (.l2i, 1) := by decide +kernel
theorem dE_takeBytes_54 : decode bE_takeBytes 54 = .ok (.i2c, 1) := by decide +kernel
theorem dE_takeBytes_55 : decode bE_takeBytes 55 = .ok (.castore, 1) := by decide +kernel
theorem dE_takeBytes_56 : decode bE_takeBytes 56 = .ok (.aload_n 0, 1) := by decide +kernel
theorem dE_takeBytes_57 : decode bE_takeBytes 57 = .ok (.dup, 1) := by decide +kernel
theorem dE_takeBytes_58 : decode bE_takeBytes 58 = .ok (.getfield 37, 3) := by decide +kernel
theorem dE_takeBytes_61 : decode bE_takeBytes 61 = .ok (.iconst 1, 1) := by decide +kernel
theorem dE_takeBytes_62 : decode bE_takeBytes 62 = .ok (.iadd, 1) := by decide +kernel
theorem dE_takeBytes_63 : decode bE_takeBytes 63 = .ok (.putfield 37, 3) := by decide +kernel
theorem dE_takeBytes_66 : decode bE_takeBytes 66 = .ok (.iinc 4 (-1), 3) := by decide +kernel
theorem dE_takeBytes_69 : decode bE_takeBytes 69 = .ok (.goto (-40), 3) := by decide +kernel
theorem dE_takeBytes_72 : decode bE_takeBytes 72 = .ok (.iconst 1, 1) := by decide +kernel
theorem dE_takeBytes_73 : decode bE_takeBytes 73 = .ok (.ireturn, 1) := by decide +kernel
theorem dE_latestFault_0 : decode bE_latestFault 0 = .ok (.aload_n 0, 1) := by decide +kernel
theorem dE_latestFault_1 : decode bE_latestFault 1 = .ok (.getfield 42, 3) := by decide +kernel
theorem dE_latestFault_4 : decode bE_latestFault 4 = .ok (.ireturn, 1) := by decide +kernel
theorem dE_latestPlace_0 : decode bE_latestPlace 0 = .ok (.aload_n 0, 1) := by decide +kernel
theorem dE_latestPlace_1 : decode bE_latestPlace 1 = .ok (.getfield 19, 3) := by decide +kernel
theorem dE_latestPlace_4 : decode bE_latestPlace 4 = .ok (.ireturn, 1) := by decide +kernel
theorem dE_readText_0 : decode bE_readText 0 = .ok (.aload_n 0, 1) := by decide +kernel
theorem dE_readText_1 : decode bE_readText 1 = .ok (.iconst 0, 1) := by decide +kernel
theorem dE_readText_2 : decode bE_readText 2 = .ok (.putfield 45, 3) := by decide +kernel
theorem dE_readText_5 : decode bE_readText 5 = .ok (.aload_n 0, 1) := by decide +kernel
theorem dE_readText_6 : decode bE_readText 6 = .ok (.iconst 0, 1) := by decide +kernel
theorem dE_readText_7 : decode bE_readText 7 = .ok (.putfield 42, 3) := by decide +kernel
theorem dE_readText_10 : decode bE_readText 10 = .ok (.aload_n 0, 1) := by decide +kernel
theorem dE_readText_11 : decode bE_readText 11 = .ok (.iconst (-1), 1) := by decide +kernel
theorem dE_readText_12 : decode bE_readText 12 = .ok (.putfield 19, 3) := by decide +kernel
theorem dE_readText_15 : decode bE_readText 15 = .ok (.aload_n 0, 1) := by decide +kernel
theorem dE_readText_16 : decode bE_readText 16 = .ok (.iconst 0, 1) := by decide +kernel
theorem dE_readText_17 : decode bE_readText 17 = .ok (.invokevirtual 48, 3) := by decide +kernel
theorem dE_readText_20 : decode bE_readText 20 = .ok (.aload_n 0, 1) := by decide +kernel
theorem dE_readText_21 : decode bE_readText 21 = .ok (.getfield 42, 3) := by decide +kernel
theorem dE_readText_24 : decode bE_readText 24 = .ok (.ifCond .ne 20, 3) := by decide +kernel
theorem dE_readText_27 : decode bE_readText 27 = .ok (.aload_n 0, 1) := by decide +kernel
theorem dE_readText_28 : decode bE_readText 28 = .ok (.invokevirtual 52, 3) := by decide +kernel
theorem dE_readText_31 : decode bE_readText 31 = .ok (.iconst (-1), 1) := by decide +kernel
theorem dE_readText_32 : decode bE_readText 32 = .ok (.if_icmp .eq 12, 3) := by decide +kernel
theorem dE_readText_35 : decode bE_readText 35 = .ok (.aload_n 0, 1) := by decide +kernel
theorem dE_readText_36 : decode bE_readText 36 = .ok (.iconst 1, 1) := by decide +kernel
theorem dE_readText_37 : decode bE_readText 37 = .ok (.aload_n 0, 1) := by decide +kernel
theorem dE_readText_38 : decode bE_readText 38 = .ok (.getfield 45, 3) := by decide +kernel
theorem dE_readText_41 : decode bE_readText 41 = .ok (.invokevirtual 56, 3) := by decide +kernel
theorem dE_readText_44 : decode bE_readText 44 = .ok (.aload_n 0, 1) := by decide +kernel
theorem dE_readText_45 : decode bE_readText 45 = .ok (.iconst 0, 1) := by decide +kernel
theorem dE_readText_46 : decode bE_readText 46 = .ok (.putfield 37, 3) := by decide +kernel
theorem dE_readText_49 : decode bE_readText 49 = .ok (.aload_n 0, 1) := by decide +kernel
theorem dE_readText_50 : decode bE_readText 50 = .ok (.getfield 42, 3) := by decide +kernel
theorem dE_readText_53 : decode bE_readText 53 = .ok (.ifCond .eq 5, 3) := by decide +kernel
theorem dE_readText_56 : decode bE_readText 56 = .ok (.iconst 0, 1) := by decide +kernel
theorem dE_readText_57 : decode bE_readText 57 = .ok (.ireturn, 1) := by decide +kernel
theorem dE_readText_58 : decode bE_readText 58 = .ok (.aload_n 0, 1) := by decide +kernel
theorem dE_readText_59 : decode bE_readText 59 = .ok (.getfield 9, 3) := by decide +kernel
theorem dE_readText_62 : decode bE_readText 62 = .ok (.aload_n 0, 1) := by decide +kernel
theorem dE_readText_63 : decode bE_readText 63 = .ok (.getfield 27, 3) := by decide +kernel
theorem dE_readText_66 : decode bE_readText 66 = .ok (.iconst 0, 1) := by decide +kernel
theorem dE_readText_67 : decode bE_readText 67 = .ok (.aaload, 1) := by decide +kernel
theorem dE_readText_68 : decode bE_readText 68 = .ok (.aload_n 1, 1) := by decide +kernel
theorem dE_readText_69 : decode bE_readText 69 = .ok (.invokevirtual 60, 3) := by decide +kernel
theorem dE_readText_72 : decode bE_readText 72 = .ok (.iconst 1, 1) := by decide +kernel
theorem dE_readText_73 : decode bE_readText 73 = .ok (.ireturn, 1) := by decide +kernel
theorem dE_readSum_0 : decode bE_readSum 0 = .ok (.iload_n 1, 1) := by decide +kernel
theorem dE_readSum_1 : decode bE_readSum 1 = .ok (.ifCond .lt 9, 3) := by decide +kernel
theorem dE_readSum_4 : decode bE_readSum 4 = .ok (.iload_n 1, 1) := by decide +kernel
theorem dE_readSum_5 : decode bE_readSum 5 = .ok (.bipush 20, 2) := by decide +kernel
theorem dE_readSum_7 : decode bE_readSum 7 = .ok (.if_icmp .le 4, 3) := by decide +kernel
theorem dE_readSum_10 : decode bE_readSum 10 = .ok (.return_, 1) := by decide +kernel
theorem dE_readSum_11 : decode bE_readSum 11 = .ok (.aload_n 0, 1) := by decide +kernel
theorem dE_readSum_12 : decode bE_readSum 12 = .ok (.getfield 27, 3) := by decide +kernel
theorem dE_readSum_15 : decode bE_readSum 15 = .ok (.iload_n 1, 1) := by decide +kernel
theorem dE_readSum_16 : decode bE_readSum 16 = .ok (.aaload, 1) := by decide +kernel
theorem dE_readSum_17 : decode bE_readSum 17 = .ok (.astore_n 2, 1) := by decide +kernel
theorem dE_readSum_18 : decode bE_readSum 18 = .ok (.aload_n 2, 1) := by decide +kernel
theorem dE_readSum_19 : decode bE_readSum 19 = .ok (.iconst 0, 1) := by decide +kernel
theorem dE_readSum_20 : decode bE_readSum 20 = .ok (.invokestatic 64, 3) := by decide +kernel
theorem dE_readSum_23 : decode bE_readSum 23 = .ok (.iconst 1, 1) := by decide +kernel
theorem dE_readSum_24 : decode bE_readSum 24 = .ok (.istore_n 3, 1) := by decide +kernel
theorem dE_readSum_25 : decode bE_readSum 25 = .ok (.aload_n 0, 1) := by decide +kernel
theorem dE_readSum_26 : decode bE_readSum 26 = .ok (.invokevirtual 52, 3) := by decide +kernel
theorem dE_readSum_29 : decode bE_readSum 29 = .ok (.bipush 45, 2) := by decide +kernel
theorem dE_readSum_31 : decode bE_readSum 31 = .ok (.if_icmp .ne 15, 3) := by decide +kernel
theorem dE_readSum_34 : decode bE_readSum 34 = .ok (.iconst (-1), 1) := by decide +kernel
theorem dE_readSum_35 : decode bE_readSum 35 = .ok (.istore_n 3, 1) := by decide +kernel
theorem dE_readSum_36 : decode bE_readSum 36 = .ok (.aload_n 0, 1) := by decide +kernel
theorem dE_readSum_37 : decode bE_readSum 37 = .ok (.dup, 1) := by decide +kernel
theorem dE_readSum_38 : decode bE_readSum 38 = .ok (.getfield 45, 3) := by decide +kernel
theorem dE_readSum_41 : decode bE_readSum 41 = .ok (.iconst 1, 1) := by decide +kernel
theorem dE_readSum_42 : decode bE_readSum 42 = .ok (.iadd, 1) := by decide +kernel
theorem dE_readSum_43 : decode bE_readSum 43 = .ok (.putfield 45, 3) := by decide +kernel
theorem dE_readSum_46 : decode bE_readSum 46 = .ok (.aload_n 0, 1) := by decide +kernel
theorem dE_readSum_47 : decode bE_readSum 47 = .ok (.iload_n 1, 1) := by decide +kernel
theorem dE_readSum_48 : decode bE_readSum 48 = .ok (.invokevirtual 70, 3) := by decide +kernel
theorem dE_readSum_51 : decode bE_readSum 51 = .ok (.aload_n 0, 1) := by decide +kernel
theorem dE_readSum_52 : decode bE_readSum 52 = .ok (.getfield 9, 3) := by decide +kernel
theorem dE_readSum_55 : decode bE_readSum 55 = .ok (.aload_n 2, 1) := by decide +kernel
theorem dE_readSum_56 : decode bE_readSum 56 = .ok (.iload_n 3, 1) := by decide +kernel
theorem dE_readSum_57 : decode bE_readSum 57 = .ok (.aload_n 0, 1) := by decide +kernel
theorem dE_readSum_58 : decode bE_readSum 58 = .ok (.getfield 30, 3) := by decide +kernel
theorem dE_readSum_61 : decode bE_readSum 61 = .ok (.iload_n 1, 1) := by decide +kernel
theorem dE_readSum_62 : decode bE_readSum 62 = .ok (.aaload, 1) := by decide +kernel
theorem dE_readSum_63 : decode bE_readSum 63 = .ok (.aload_n 2, 1) := by decide +kernel
theorem dE_readSum_64 : decode bE_readSum 64 = .ok (.invokevirtual 73, 3) := by decide +kernel
theorem dE_readSum_67 : decode bE_readSum 67 = .ok (.iconst 1, 1) := by decide +kernel
theorem dE_readSum_68 : decode bE_readSum 68 = .ok (.istore 4, 2) := by decide +kernel
theorem dE_readSum_70 : decode bE_readSum 70 = .ok (.iload 4, 2) := by decide +kernel
theorem dE_readSum_72 : decode bE_readSum 72 = .ok (.sipush 200, 3) := by decide +kernel
theorem dE_readSum_75 : decode bE_readSum 75 = .ok (.if_icmp .ge 72, 3) := by decide +kernel
theorem dE_readSum_78 : decode bE_readSum 78 = .ok (.aload_n 0, 1) := by decide +kernel
theorem dE_readSum_79 : decode bE_readSum 79 = .ok (.getfield 42, 3) := by decide +kernel
theorem dE_readSum_82 : decode bE_readSum 82 = .ok (.ifCond .ne 65, 3) := by decide +kernel
theorem dE_readSum_85 : decode bE_readSum 85 = .ok (.aload_n 0, 1) := by decide +kernel
theorem dE_readSum_86 : decode bE_readSum 86 = .ok (.invokevirtual 52, 3) := by decide +kernel
theorem dE_readSum_89 : decode bE_readSum 89 = .ok (.invokestatic 77, 3) := by decide +kernel
theorem dE_readSum_92 : decode bE_readSum 92 = .ok (.ifCond .eq 55, 3) := by decide +kernel
theorem dE_readSum_95 : decode bE_readSum 95 = .ok (.aload_n 0, 1) := by decide +kernel
theorem dE_readSum_96 : decode bE_readSum 96 = .ok (.invokevirtual 52, 3) := by decide +kernel
theorem dE_readSum_99 : decode bE_readSum 99 = .ok (.bipush 45, 2) := by decide +kernel
theorem dE_readSum_101 : decode bE_readSum 101 = .ok (.if_icmp .ne 7, 3) := by decide +kernel
theorem dE_readSum_104 : decode bE_readSum 104 = .ok (.iconst (-1), 1) := by decide +kernel
theorem dE_readSum_105 : decode bE_readSum 105 = .ok (.goto 4, 3) := by decide +kernel
theorem dE_readSum_108 : decode bE_readSum 108 = .ok (.iconst 1, 1) := by decide +kernel
theorem dE_readSum_109 : decode bE_readSum 109 = .ok (.istore_n 3, 1) := by decide +kernel
theorem dE_readSum_110 : decode bE_readSum 110 = .ok (.aload_n 0, 1) := by decide +kernel
theorem dE_readSum_111 : decode bE_readSum 111 = .ok (.dup, 1) := by decide +kernel
theorem dE_readSum_112 : decode bE_readSum 112 = .ok (.getfield 45, 3) := by decide +kernel
theorem dE_readSum_115 : decode bE_readSum 115 = .ok (.iconst 1, 1) := by decide +kernel
theorem dE_readSum_116 : decode bE_readSum 116 = .ok (.iadd, 1) := by decide +kernel
theorem dE_readSum_117 : decode bE_readSum 117 = .ok (.putfield 45, 3) := by decide +kernel
theorem dE_readSum_120 : decode bE_readSum 120 = .ok (.aload_n 0, 1) := by decide +kernel
theorem dE_readSum_121 : decode bE_readSum 121 = .ok (.iload_n 1, 1) := by decide +kernel
theorem dE_readSum_122 : decode bE_readSum 122 = .ok (.invokevirtual 70, 3) := by decide +kernel
theorem dE_readSum_125 : decode bE_readSum 125 = .ok (.aload_n 0, 1) := by decide +kernel
theorem dE_readSum_126 : decode bE_readSum 126 = .ok (.getfield 9, 3) := by decide +kernel
theorem dE_readSum_129 : decode bE_readSum 129 = .ok (.aload_n 2, 1) := by decide +kernel
theorem dE_readSum_130 : decode bE_readSum 130 = .ok (.iload_n 3, 1) := by decide +kernel
theorem dE_readSum_131 : decode bE_readSum 131 = .ok (.aload_n 0, 1) := by decide +kernel
theorem dE_readSum_132 : decode bE_readSum 132 = .ok (.getfield 30, 3) := by decide +kernel
theorem dE_readSum_135 : decode bE_readSum 135 = .ok (.iload_n 1, 1) := by decide +kernel
theorem dE_readSum_136 : decode bE_readSum 136 = .ok (.aaload, 1) := by decide +kernel
theorem dE_readSum_137 : decode bE_readSum 137 = .ok (.aload_n 2, 1) := by decide +kernel
theorem dE_readSum_138 : decode bE_readSum 138 = .ok (.invokevirtual 73, 3) := by decide +kernel
theorem dE_readSum_141 : decode bE_readSum 141 = .ok (.iinc 4 1, 3) := by decide +kernel
theorem dE_readSum_144 : decode bE_readSum 144 = .ok (.goto (-74), 3) := by decide +kernel
theorem dE_readSum_147 : decode bE_readSum 147 = .ok (.return_, 1) := by decide +kernel
theorem dE_readTerm_0 : decode bE_readTerm 0 = .ok (.iload_n 1, 1) := by decide +kernel
theorem dE_readTerm_1 : decode bE_readTerm 1 = .ok (.ifCond .lt 9, 3) := by decide +kernel
theorem dE_readTerm_4 : decode bE_readTerm 4 = .ok (.iload_n 1, 1) := by decide +kernel
theorem dE_readTerm_5 : decode bE_readTerm 5 = .ok (.bipush 20, 2) := by decide +kernel
theorem dE_readTerm_7 : decode bE_readTerm 7 = .ok (.if_icmp .le 4, 3) := by decide +kernel
theorem dE_readTerm_10 : decode bE_readTerm 10 = .ok (.return_, 1) := by decide +kernel
theorem dE_readTerm_11 : decode bE_readTerm 11 = .ok (.aload_n 0, 1) := by decide +kernel
theorem dE_readTerm_12 : decode bE_readTerm 12 = .ok (.getfield 30, 3) := by decide +kernel
theorem dE_readTerm_15 : decode bE_readTerm 15 = .ok (.iload_n 1, 1) := by decide +kernel
theorem dE_readTerm_16 : decode bE_readTerm 16 = .ok (.aaload, 1) := by decide +kernel
theorem dE_readTerm_17 : decode bE_readTerm 17 = .ok (.astore_n 2, 1) := by decide +kernel
theorem dE_readTerm_18 : decode bE_readTerm 18 = .ok (.aload_n 0, 1) := by decide +kernel
theorem dE_readTerm_19 : decode bE_readTerm 19 = .ok (.iload_n 1, 1) := by decide +kernel
theorem dE_readTerm_20 : decode bE_readTerm 20 = .ok (.invokevirtual 81, 3) := by decide +kernel
theorem dE_readTerm_23 : decode bE_readTerm 23 = .ok (.aload_n 0, 1) := by decide +kernel
theorem dE_readTerm_24 : decode bE_readTerm 24 = .ok (.getfield 9, 3) := by decide +kernel
theorem dE_readTerm_27 : decode bE_readTerm 27 = .ok (.aload_n 0, 1) := by decide +kernel
theorem dE_readTerm_28 : decode bE_readTerm 28 = .ok (.getfield 33, 3) := by decide +kernel
theorem dE_readTerm_31 : decode bE_readTerm 31 = .ok (.aload_n 2, 1) := by decide +kernel
theorem dE_readTerm_32 : decode bE_readTerm 32 = .ok (.invokevirtual 60, 3) := by decide +kernel
theorem dE_readTerm_35 : decode bE_readTerm 35 = .ok (.iconst 1, 1) := by decide +kernel
theorem dE_readTerm_36 : decode bE_readTerm 36 = .ok (.istore_n 3, 1) := by decide +kernel
theorem dE_readTerm_37 : decode bE_readTerm 37 = .ok (.iload_n 3, 1) := by decide +kernel
theorem dE_readTerm_38 : decode bE_readTerm 38 = .ok (.sipush 200, 3) := by decide +kernel
theorem dE_readTerm_41 : decode bE_readTerm 41 = .ok (.if_icmp .ge 95, 3) := by decide +kernel
theorem dE_readTerm_44 : decode bE_readTerm 44 = .ok (.aload_n 0, 1) := by decide +kernel
theorem dE_readTerm_45 : decode bE_readTerm 45 = .ok (.getfield 42, 3) := by decide +kernel
theorem dE_readTerm_48 : decode bE_readTerm 48 = .ok (.ifCond .ne 88, 3) := by decide +kernel
theorem dE_readTerm_51 : decode bE_readTerm 51 = .ok (.aload_n 0, 1) := by decide +kernel
theorem dE_readTerm_52 : decode bE_readTerm 52 = .ok (.invokevirtual 52, 3) := by decide +kernel
theorem dE_readTerm_55 : decode bE_readTerm 55 = .ok (.bipush 42, 2) := by decide +kernel
theorem dE_readTerm_57 : decode bE_readTerm 57 = .ok (.if_icmp .ne 79, 3) := by decide +kernel
theorem dE_readTerm_60 : decode bE_readTerm 60 = .ok (.aload_n 0, 1) := by decide +kernel
theorem dE_readTerm_61 : decode bE_readTerm 61 = .ok (.getfield 45, 3) := by decide +kernel
theorem dE_readTerm_64 : decode bE_readTerm 64 = .ok (.istore 4, 2) := by decide +kernel
theorem dE_readTerm_66 : decode bE_readTerm 66 = .ok (.aload_n 0, 1) := by decide +kernel
theorem dE_readTerm_67 : decode bE_readTerm 67 = .ok (.dup, 1) := by decide +kernel
theorem dE_readTerm_68 : decode bE_readTerm 68 = .ok (.getfield 45, 3) := by decide +kernel
theorem dE_readTerm_71 : decode bE_readTerm 71 = .ok (.iconst 1, 1) := by decide +kernel
theorem dE_readTerm_72 : decode bE_readTerm 72 = .ok (.iadd, 1) := by decide +kernel
theorem dE_readTerm_73 : decode bE_readTerm 73 = .ok (.putfield 45, 3) := by decide +kernel
theorem dE_readTerm_76 : decode bE_readTerm 76 = .ok (.aload_n 0, 1) := by decide +kernel
theorem dE_readTerm_77 : decode bE_readTerm 77 = .ok (.iload_n 1, 1) := by decide +kernel
theorem dE_readTerm_78 : decode bE_readTerm 78 = .ok (.invokevirtual 81, 3) := by decide +kernel
theorem dE_readTerm_81 : decode bE_readTerm 81 = .ok (.aload_n 0, 1) := by decide +kernel
theorem dE_readTerm_82 : decode bE_readTerm 82 = .ok (.getfield 42, 3) := by decide +kernel
theorem dE_readTerm_85 : decode bE_readTerm 85 = .ok (.ifCond .ne 25, 3) := by decide +kernel
theorem dE_readTerm_88 : decode bE_readTerm 88 = .ok (.aload_n 0, 1) := by decide +kernel
theorem dE_readTerm_89 : decode bE_readTerm 89 = .ok (.getfield 9, 3) := by decide +kernel
theorem dE_readTerm_92 : decode bE_readTerm 92 = .ok (.aload_n 2, 1) := by decide +kernel
theorem dE_readTerm_93 : decode bE_readTerm 93 = .ok (.aload_n 0, 1) := by decide +kernel
theorem dE_readTerm_94 : decode bE_readTerm 94 = .ok (.getfield 33, 3) := by decide +kernel
theorem dE_readTerm_97 : decode bE_readTerm 97 = .ok (.invokevirtual 84, 3) := by decide +kernel
theorem dE_readTerm_100 : decode bE_readTerm 100 = .ok (.ifCond .eq 10, 3) := by decide +kernel
theorem dE_readTerm_103 : decode bE_readTerm 103 = .ok (.aload_n 0, 1) := by decide +kernel
theorem dE_readTerm_104 : decode bE_readTerm 104 = .ok (.iconst 3, 1) := by decide +kernel
theorem dE_readTerm_105 : decode bE_readTerm 105 = .ok (.iload 4, 2) := by decide +kernel
theorem dE_readTerm_107 : decode bE_readTerm 107 = .ok (.invokevirtual 56, 3) := by decide +kernel
theorem dE_readTerm_110 : decode bE_readTerm 110 = .ok (.aload_n 0, 1) := by decide +kernel
theorem dE_readTerm_111 : decode bE_readTerm 111 = .ok (.getfield 42, 3) := by decide +kernel
theorem dE_readTerm_114 : decode bE_readTerm 114 = .ok (.ifCond .ne 16, 3) := by decide +kernel
theorem dE_readTerm_117 : decode bE_readTerm 117 = .ok (.aload_n 0, 1) := by decide +kernel
theorem dE_readTerm_118 : decode bE_readTerm 118 = .ok (.getfield 9, 3) := by decide +kernel
theorem dE_readTerm_121 : decode bE_readTerm 121 = .ok (.aload_n 2, 1) := by decide +kernel
theorem dE_readTerm_122 : decode bE_readTerm 122 = .ok (.aload_n 0, 1) := by decide +kernel
theorem dE_readTerm_123 : decode bE_readTerm 123 = .ok (.getfield 33, 3) := by decide +kernel
theorem dE_readTerm_126 : decode bE_readTerm 126 = .ok (.aload_n 2, 1) := by decide +kernel
theorem dE_readTerm_127 : decode bE_readTerm 127 = .ok (.invokevirtual 88, 3) := by decide +kernel
theorem dE_readTerm_130 : decode bE_readTerm 130 = .ok (.iinc 3 1, 3) := by decide +kernel
theorem dE_readTerm_133 : decode bE_readTerm 133 = .ok (.goto (-96), 3) := by decide +kernel
theorem dE_readTerm_136 : decode bE_readTerm 136 = .ok (.return_, 1) := by decide +kernel
theorem dE_readFactor_0 : decode bE_readFactor 0 = .ok (.aload_n 0, 1) := by decide +kernel
theorem dE_readFactor_1 : decode bE_readFactor 1 = .ok (.iload_n 1, 1) := by decide +kernel
theorem dE_readFactor_2 : decode bE_readFactor 2 = .ok (.invokevirtual 92, 3) := by decide +kernel
theorem dE_readFactor_5 : decode bE_readFactor 5 = .ok (.aload_n 0, 1) := by decide +kernel
theorem dE_readFactor_6 : decode bE_readFactor 6 = .ok (.getfield 42, 3) := by decide +kernel
theorem dE_readFactor_9 : decode bE_readFactor 9 = .ok (.ifCond .ne 12, 3) := by decide +kernel
theorem dE_readFactor_12 : decode bE_readFactor 12 = .ok (.aload_n 0, 1) := by decide +kernel
theorem dE_readFactor_13 : decode bE_readFactor 13 = .ok (.invokevirtual 52, 3) := by decide +kernel
theorem dE_readFactor_16 : decode bE_readFactor 16 = .ok (.bipush 94, 2) := by decide +kernel
theorem dE_readFactor_18 : decode bE_readFactor 18 = .ok (.if_icmp .eq 4, 3) := by decide +kernel
theorem dE_readFactor_21 : decode bE_readFactor 21 = .ok (.return_, 1) := by decide +kernel
theorem dE_readFactor_22 : decode bE_readFactor 22 = .ok (.aload_n 0, 1) := by decide +kernel
theorem dE_readFactor_23 : decode bE_readFactor 23 = .ok (.getfield 45, 3) := by decide +kernel
theorem dE_readFactor_26 : decode bE_readFactor 26 = .ok (.istore_n 2, 1) := by decide +kernel
theorem dE_readFactor_27 : decode bE_readFactor 27 = .ok (.aload_n 0, 1) := by decide +kernel
theorem dE_readFactor_28 : decode bE_readFactor 28 = .ok (.dup, 1) := by decide +kernel
theorem dE_readFactor_29 : decode bE_readFactor 29 = .ok (.getfield 45, 3) := by decide +kernel
theorem dE_readFactor_32 : decode bE_readFactor 32 = .ok (.iconst 1, 1) := by decide +kernel
theorem dE_readFactor_33 : decode bE_readFactor 33 = .ok (.iadd, 1) := by decide +kernel
theorem dE_readFactor_34 : decode bE_readFactor 34 = .ok (.putfield 45, 3) := by decide +kernel
theorem dE_readFactor_37 : decode bE_readFactor 37 = .ok (.aload_n 0, 1) := by decide +kernel
theorem dE_readFactor_38 : decode bE_readFactor 38 = .ok (.iconst 2, 1) := by decide +kernel
theorem dE_readFactor_39 : decode bE_readFactor 39 = .ok (.invokevirtual 95, 3) := by decide +kernel
theorem dE_readFactor_42 : decode bE_readFactor 42 = .ok (.istore_n 3, 1) := by decide +kernel
theorem dE_readFactor_43 : decode bE_readFactor 43 = .ok (.aload_n 0, 1) := by decide +kernel
theorem dE_readFactor_44 : decode bE_readFactor 44 = .ok (.getfield 42, 3) := by decide +kernel
theorem dE_readFactor_47 : decode bE_readFactor 47 = .ok (.ifCond .ne 24, 3) := by decide +kernel
theorem dE_readFactor_50 : decode bE_readFactor 50 = .ok (.aload_n 0, 1) := by decide +kernel
theorem dE_readFactor_51 : decode bE_readFactor 51 = .ok (.getfield 9, 3) := by decide +kernel
theorem dE_readFactor_54 : decode bE_readFactor 54 = .ok (.aload_n 0, 1) := by decide +kernel
theorem dE_readFactor_55 : decode bE_readFactor 55 = .ok (.getfield 33, 3) := by decide +kernel
theorem dE_readFactor_58 : decode bE_readFactor 58 = .ok (.iload_n 3, 1) := by decide +kernel
theorem dE_readFactor_59 : decode bE_readFactor 59 = .ok (.invokevirtual 99, 3) := by decide +kernel
theorem dE_readFactor_62 : decode bE_readFactor 62 = .ok (.ifCond .eq 9, 3) := by decide +kernel
theorem dE_readFactor_65 : decode bE_readFactor 65 = .ok (.aload_n 0, 1) := by decide +kernel
theorem dE_readFactor_66 : decode bE_readFactor 66 = .ok (.iconst 3, 1) := by decide +kernel
theorem dE_readFactor_67 : decode bE_readFactor 67 = .ok (.iload_n 2, 1) := by decide +kernel
theorem dE_readFactor_68 : decode bE_readFactor 68 = .ok (.invokevirtual 56, 3) := by decide +kernel
theorem dE_readFactor_71 : decode bE_readFactor 71 = .ok (.aload_n 0, 1) := by decide +kernel
theorem dE_readFactor_72 : decode bE_readFactor 72 = .ok (.getfield 42, 3) := by decide +kernel
theorem dE_readFactor_75 : decode bE_readFactor 75 = .ok (.ifCond .ne 19, 3) := by decide +kernel
theorem dE_readFactor_78 : decode bE_readFactor 78 = .ok (.aload_n 0, 1) := by decide +kernel
theorem dE_readFactor_79 : decode bE_readFactor 79 = .ok (.getfield 9, 3) := by decide +kernel
theorem dE_readFactor_82 : decode bE_readFactor 82 = .ok (.aload_n 0, 1) := by decide +kernel
theorem dE_readFactor_83 : decode bE_readFactor 83 = .ok (.getfield 33, 3) := by decide +kernel
theorem dE_readFactor_86 : decode bE_readFactor 86 = .ok (.iload_n 3, 1) := by decide +kernel
theorem dE_readFactor_87 : decode bE_readFactor 87 = .ok (.aload_n 0, 1) := by decide +kernel
theorem dE_readFactor_88 : decode bE_readFactor 88 = .ok (.getfield 33, 3) := by decide +kernel
theorem dE_readFactor_91 : decode bE_readFactor 91 = .ok (.invokevirtual 103, 3) := by decide +kernel
theorem dE_readFactor_94 : decode bE_readFactor 94 = .ok (.return_, 1) := by decide +kernel
theorem dE_readBareFactor_0 : decode bE_readBareFactor 0 = .ok (.aload_n 0, 1) := by decide +kernel
theorem dE_readBareFactor_1 : decode bE_readBareFactor 1 = .ok (.invokevirtual 52, 3) := by decide +kernel
theorem dE_readBareFactor_4 : decode bE_readBareFactor 4 = .ok (.istore_n 2, 1) := by decide +kernel
theorem dE_readBareFactor_5 : decode bE_readBareFactor 5 = .ok (.iload_n 2, 1) := by decide +kernel
theorem dE_readBareFactor_6 : decode bE_readBareFactor 6 = .ok (.invokestatic 107, 3) := by decide +kernel
theorem dE_readBareFactor_9 : decode bE_readBareFactor 9 = .ok (.istore_n 3, 1) := by decide +kernel
theorem dE_readBareFactor_10 : decode bE_readBareFactor 10 = .ok (.iload_n 2, 1) := by decide +kernel
theorem dE_readBareFactor_11 : decode bE_readBareFactor 11 = .ok (.invokestatic 110, 3) := by decide +kernel
theorem dE_readBareFactor_14 : decode bE_readBareFactor 14 = .ok (.ifCond .eq 23, 3) := by decide +kernel
theorem dE_readBareFactor_17 : decode bE_readBareFactor 17 = .ok (.aload_n 0, 1) := by decide +kernel
theorem dE_readBareFactor_18 : decode bE_readBareFactor 18 = .ok (.getfield 9, 3) := by decide +kernel
theorem dE_readBareFactor_21 : decode bE_readBareFactor 21 = .ok (.aload_n 0, 1) := by decide +kernel
theorem dE_readBareFactor_22 : decode bE_readBareFactor 22 = .ok (.bipush 9, 2) := by decide +kernel
theorem dE_readBareFactor_24 : decode bE_readBareFactor 24 = .ok (.invokevirtual 95, 3) := by decide +kernel
theorem dE_readBareFactor_27 : decode bE_readBareFactor 27 = .ok (.aload_n 0, 1) := by decide +kernel
theorem dE_readBareFactor_28 : decode bE_readBareFactor 28 = .ok (.getfield 33, 3) := by decide +kernel
theorem dE_readBareFactor_31 : decode bE_readBareFactor 31 = .ok (.invokevirtual 113, 3) := by decide +kernel
theorem dE_readBareFactor_34 : decode bE_readBareFactor 34 = .ok (.goto 68, 3) := by decide +kernel
theorem dE_readBareFactor_37 : decode bE_readBareFactor 37 = .ok (.iload_n 3, 1) := by decide +kernel
theorem dE_readBareFactor_38 : decode bE_readBareFactor 38 = .ok (.ifCond .lt 39, 3) := by decide +kernel
theorem dE_readBareFactor_41 : decode bE_readBareFactor 41 = .ok (.iload_n 3, 1) := by decide +kernel
theorem dE_readBareFactor_42 : decode bE_readBareFactor 42 = .ok (.aload_n 0, 1) := by decide +kernel
theorem dE_readBareFactor_43 : decode bE_readBareFactor 43 = .ok (.getfield 9, 3) := by decide +kernel
theorem dE_readBareFactor_46 : decode bE_readBareFactor 46 = .ok (.invokevirtual 117, 3) := by decide +kernel
theorem dE_readBareFactor_49 : decode bE_readBareFactor 49 = .ok (.if_icmp .ge 28, 3) := by decide +kernel
theorem dE_readBareFactor_52 : decode bE_readBareFactor 52 = .ok (.aload_n 0, 1) := by decide +kernel
theorem dE_readBareFactor_53 : decode bE_readBareFactor 53 = .ok (.getfield 9, 3) := by decide +kernel
theorem dE_readBareFactor_56 : decode bE_readBareFactor 56 = .ok (.iload_n 3, 1) := by decide +kernel
theorem dE_readBareFactor_57 : decode bE_readBareFactor 57 = .ok (.aload_n 0, 1) := by decide +kernel
theorem dE_readBareFactor_58 : decode bE_readBareFactor 58 = .ok (.getfield 33, 3) := by decide +kernel
theorem dE_readBareFactor_61 : decode bE_readBareFactor 61 = .ok (.invokevirtual 120, 3) := by decide +kernel
theorem dE_readBareFactor_64 : decode bE_readBareFactor 64 = .ok (.aload_n 0, 1) := by decide +kernel
theorem dE_readBareFactor_65 : decode bE_readBareFactor 65 = .ok (.dup, 1) := by decide +kernel
theorem dE_readBareFactor_66 : decode bE_readBareFactor 66 = .ok (.getfield 45, 3) := by decide +kernel
theorem dE_readBareFactor_69 : decode bE_readBareFactor 69 = .ok (.iconst 1, 1) := by decide +kernel
theorem dE_readBareFactor_70 : decode bE_readBareFactor 70 = .ok (.iadd, 1) := by decide +kernel
theorem dE_readBareFactor_71 : decode bE_readBareFactor 71 = .ok (.putfield 45, 3) := by decide +kernel
theorem dE_readBareFactor_74 : decode bE_readBareFactor 74 = .ok (.goto 28, 3) := by decide +kernel
theorem dE_readBareFactor_77 : decode bE_readBareFactor 77 = .ok (.iload_n 2, 1) := by decide +kernel
theorem dE_readBareFactor_78 : decode bE_readBareFactor 78 = .ok (.bipush 40, 2) := by decide +kernel
theorem dE_readBareFactor_80 : decode bE_readBareFactor 80 = .ok (.if_icmp .ne 13, 3) := by decide +kernel
theorem dE_readBareFactor_83 : decode bE_readBareFactor 83 = .ok (.aload_n 0, 1) := by decide +kernel
theorem dE_readBareFactor_84 : decode bE_readBareFactor 84 = .ok (.iload_n 1, 1) := by decide +kernel
theorem dE_readBareFactor_85 : decode bE_readBareFactor 85 = .ok (.iconst 1, 1) := by decide +kernel
theorem dE_readBareFactor_86 : decode bE_readBareFactor 86 = .ok (.iadd, 1) := by decide +kernel
theorem dE_readBareFactor_87 : decode bE_readBareFactor 87 = .ok (.invokevirtual 123, 3) := by decide +kernel
theorem dE_readBareFactor_90 : decode bE_readBareFactor 90 = .ok (.goto 12, 3) := by decide +kernel
theorem dE_readBareFactor_93 : decode bE_readBareFactor 93 = .ok (.aload_n 0, 1) := by decide +kernel
theorem dE_readBareFactor_94 : decode bE_readBareFactor 94 = .ok (.iconst 1, 1) := by decide +kernel
theorem dE_readBareFactor_95 : decode bE_readBareFactor 95 = .ok (.aload_n 0, 1) := by decide +kernel
theorem dE_readBareFactor_96 : decode bE_readBareFactor 96 = .ok (.getfield 45, 3) := by decide +kernel
theorem dE_readBareFactor_99 : decode bE_readBareFactor 99 = .ok (.invokevirtual 56, 3) := by decide +kernel
theorem dE_readBareFactor_102 : decode bE_readBareFactor 102 = .ok (.return_, 1) := by decide +kernel
theorem dR_isProductTooHigh_0 : decode bR_isProductTooHigh 0 = .ok (.aload_n 0, 1) := by decide +kernel
theorem dR_isProductTooHigh_1 : decode bR_isProductTooHigh 1 = .ok (.aload_n 1, 1) := by decide +kernel
theorem dR_isProductTooHigh_2 : decode bR_isProductTooHigh 2 = .ok (.invokevirtual 75, 3) := by decide +kernel
theorem dR_isProductTooHigh_5 : decode bR_isProductTooHigh 5 = .ok (.istore_n 3, 1) := by decide +kernel
theorem dR_isProductTooHigh_6 : decode bR_isProductTooHigh 6 = .ok (.aload_n 0, 1) := by decide +kernel
theorem dR_isProductTooHigh_7 : decode bR_isProductTooHigh 7 = .ok (.aload_n 2, 1) := by decide +kernel
theorem dR_isProductTooHigh_8 : decode bR_isProductTooHigh 8 = .ok (.invokevirtual 75, 3) := by decide +kernel
theorem dR_isProductTooHigh_11 : decode bR_isProductTooHigh 11 = .ok (.istore 4, 2) := by decide +kernel
theorem dR_isProductTooHigh_13 : decode bR_isProductTooHigh 13 = .ok (.iload_n 3, 1) := by decide +kernel
theorem dR_isProductTooHigh_14 : decode bR_isProductTooHigh 14 = .ok (.ifCond .lt 23, 3) := by decide +kernel
theorem dR_isProductTooHigh_17 : decode bR_isProductTooHigh 17 = .ok (.iload 4, 2) := by decide +kernel
theorem dR_isProductTooHigh_19 : decode bR_isProductTooHigh 19 = .ok (.ifCond .lt 18, 3) := by decide +kernel
theorem dR_isProductTooHigh_22 : decode bR_isProductTooHigh 22 = .ok (.iload_n 3, 1) := by decide +kernel
theorem dR_isProductTooHigh_23 : decode bR_isProductTooHigh 23 = .ok (.iload 4, 2) := by decide +kernel
theorem dR_isProductTooHigh_25 : decode bR_isProductTooHigh 25 = .ok (.iadd, 1) := by decide +kernel
theorem dR_isProductTooHigh_26 : decode bR_isProductTooHigh 26 = .ok (.aload_n 0, 1) := by decide +kernel
theorem dR_isProductTooHigh_27 : decode bR_isProductTooHigh 27 = .ok (.getfield 51, 3) := by decide +kernel
theorem dR_isProductTooHigh_30 : decode bR_isProductTooHigh 30 = .ok (.if_icmp .le 7, 3) := by decide +kernel
theorem dR_isProductTooHigh_33 : decode bR_isProductTooHigh 33 = .ok (.iconst 1, 1) := by decide +kernel
theorem dR_isProductTooHigh_34 : decode bR_isProductTooHigh 34 = .ok (.goto 4, 3) := by decide +kernel
theorem dR_isProductTooHigh_37 : decode bR_isProductTooHigh 37 = .ok (.iconst 0, 1) := by decide +kernel
theorem dR_isProductTooHigh_38 : decode bR_isProductTooHigh 38 = .ok (.ireturn, 1) := by decide +kernel
theorem dR_isPowerTooHigh_0 : decode bR_isPowerTooHigh 0 = .ok (.aload_n 0, 1) := by decide +kernel
theorem dR_isPowerTooHigh_1 : decode bR_isPowerTooHigh 1 = .ok (.aload_n 1, 1) := by decide +kernel
theorem dR_isPowerTooHigh_2 : decode bR_isPowerTooHigh 2 = .ok (.invokevirtual 75, 3) := by decide +kernel
theorem dR_isPowerTooHigh_5 : decode bR_isPowerTooHigh 5 = .ok (.istore_n 3, 1) := by decide +kernel
theorem dR_isPowerTooHigh_6 : decode bR_isPowerTooHigh 6 = .ok (.iload_n 3, 1) := by decide +kernel
theorem dR_isPowerTooHigh_7 : decode bR_isPowerTooHigh 7 = .ok (.ifCond .lt 17, 3) := by decide +kernel
theorem dR_isPowerTooHigh_10 : decode bR_isPowerTooHigh 10 = .ok (.iload_n 3, 1) := by decide +kernel
theorem dR_isPowerTooHigh_11 : decode bR_isPowerTooHigh 11 = .ok (.iload_n 2, 1) := by decide +kernel
theorem dR_isPowerTooHigh_12 : decode bR_isPowerTooHigh 12 = .ok (.imul, 1) := by decide +kernel
theorem dR_isPowerTooHigh_13 : decode bR_isPowerTooHigh 13 = .ok (.aload_n 0, 1) := by decide +kernel
theorem dR_isPowerTooHigh_14 : decode bR_isPowerTooHigh 14 = .ok (.getfield 51, 3) := by decide +kernel
theorem dR_isPowerTooHigh_17 : decode bR_isPowerTooHigh 17 = .ok (.if_icmp .le 7, 3) := by decide +kernel
theorem dR_isPowerTooHigh_20 : decode bR_isPowerTooHigh 20 = .ok (.iconst 1, 1) := by decide +kernel
theorem dR_isPowerTooHigh_21 : decode bR_isPowerTooHigh 21 = .ok (.goto 4, 3) := by decide +kernel
theorem dR_isPowerTooHigh_24 : decode bR_isPowerTooHigh 24 = .ok (.iconst 0, 1) := by decide +kernel
theorem dR_isPowerTooHigh_25 : decode bR_isPowerTooHigh 25 = .ok (.ireturn, 1) := by decide +kernel
theorem dR_writeNumber_0 : decode bR_writeNumber 0 = .ok (.aload_n 2, 1) := by decide +kernel
theorem dR_writeNumber_1 : decode bR_writeNumber 1 = .ok (.iconst 0, 1) := by decide +kernel
theorem dR_writeNumber_2 : decode bR_writeNumber 2 = .ok (.invokestatic 57, 3) := by decide +kernel
theorem dR_writeNumber_5 : decode bR_writeNumber 5 = .ok (.aload_n 0, 1) := by decide +kernel
theorem dR_writeNumber_6 : decode bR_writeNumber 6 = .ok (.iconst 0, 1) := by decide +kernel
theorem dR_writeNumber_7 : decode bR_writeNumber 7 = .ok (.aload_n 0, 1) := by decide +kernel
theorem dR_writeNumber_8 : decode bR_writeNumber 8 = .ok (.iload_n 1, 1) := by decide +kernel
theorem dR_writeNumber_9 : decode bR_writeNumber 9 = .ok (.invokevirtual 78, 3) := by decide +kernel
theorem dR_writeNumber_12 : decode bR_writeNumber 12 = .ok (.aload_n 2, 1) := by decide +kernel
theorem dR_writeNumber_13 : decode bR_writeNumber 13 = .ok (.invokevirtual 82, 3) := by decide +kernel
theorem dR_writeNumber_16 : decode bR_writeNumber 16 = .ok (.return_, 1) := by decide +kernel
theorem dR_writeVariable_0 : decode bR_writeVariable 0 = .ok (.aload_n 2, 1) := by decide +kernel
theorem dR_writeVariable_1 : decode bR_writeVariable 1 = .ok (.iconst 0, 1) := by decide +kernel
theorem dR_writeVariable_2 : decode bR_writeVariable 2 = .ok (.invokestatic 57, 3) := by decide +kernel
theorem dR_writeVariable_5 : decode bR_writeVariable 5 = .ok (.iload_n 1, 1) := by decide +kernel
theorem dR_writeVariable_6 : decode bR_writeVariable 6 = .ok (.ifCond .lt 23, 3) := by decide +kernel
theorem dR_writeVariable_9 : decode bR_writeVariable 9 = .ok (.iload_n 1, 1) := by decide +kernel
theorem dR_writeVariable_10 : decode bR_writeVariable 10 = .ok (.aload_n 0, 1) := by decide +kernel
theorem dR_writeVariable_11 : decode bR_writeVariable 11 = .ok (.getfield 42, 3) := by decide +kernel
theorem dR_writeVariable_14 : decode bR_writeVariable 14 = .ok (.if_icmp .ge 15, 3) := by decide +kernel
theorem dR_writeVariable_17 : decode bR_writeVariable 17 = .ok (.aload_n 0, 1) := by decide +kernel
theorem dR_writeVariable_18 : decode bR_writeVariable 18 = .ok (.aload_n 0, 1) := by decide +kernel
theorem dR_writeVariable_19 : decode bR_writeVariable 19 = .ok (.getfield 23, 3) := by decide +kernel
theorem dR_writeVariable_22 : decode bR_writeVariable 22 = .ok (.iload_n 1, 1) := by decide +kernel
theorem dR_writeVariable_23 : decode bR_writeVariable 23 = .ok (.iaload, 1) := by decide +kernel
theorem dR_writeVariable_24 : decode bR_writeVariable 24 = .ok (.iconst 1, 1) := by decide +kernel
theorem dR_writeVariable_25 : decode bR_writeVariable 25 = .ok (.aload_n 2, 1) := by decide +kernel
theorem dR_writeVariable_26 : decode bR_writeVariable 26 = .ok (.invokevirtual 82, 3) := by decide +kernel
theorem dR_writeVariable_29 : decode bR_writeVariable 29 = .ok (.return_, 1) := by decide +kernel
theorem dR_writeCopy_0 : decode bR_writeCopy 0 = .ok (.aload_n 1, 1) := by decide +kernel
theorem dR_writeCopy_1 : decode bR_writeCopy 1 = .ok (.iconst 0, 1) := by decide +kernel
theorem dR_writeCopy_2 : decode bR_writeCopy 2 = .ok (.aload_n 2, 1) := by decide +kernel
theorem dR_writeCopy_3 : decode bR_writeCopy 3 = .ok (.iconst 0, 1) := by decide +kernel
theorem dR_writeCopy_4 : decode bR_writeCopy 4 = .ok (.bipush 126, 2) := by decide +kernel
theorem dR_writeCopy_6 : decode bR_writeCopy 6 = .ok (.invokestatic 86, 3) := by decide +kernel
theorem dR_writeCopy_9 : decode bR_writeCopy 9 = .ok (.return_, 1) := by decide +kernel
theorem dR_writeSum_0 : decode bR_writeSum 0 = .ok (.aload_n 0, 1) := by decide +kernel
theorem dR_writeSum_1 : decode bR_writeSum 1 = .ok (.iload_n 2, 1) := by decide +kernel
theorem dR_writeSum_2 : decode bR_writeSum 2 = .ok (.invokevirtual 78, 3) := by decide +kernel
theorem dR_writeSum_5 : decode bR_writeSum 5 = .ok (.istore 5, 2) := by decide +kernel
theorem dR_writeSum_7 : decode bR_writeSum 7 = .ok (.iconst 0, 1) := by decide +kernel
theorem dR_writeSum_8 : decode bR_writeSum 8 = .ok (.istore 6, 2) := by decide +kernel
theorem dR_writeSum_10 : decode bR_writeSum 10 = .ok (.iload 6, 2) := by decide +kernel
theorem dR_writeSum_12 : decode bR_writeSum 12 = .ok (.aload_n 0, 1) := by decide +kernel
theorem dR_writeSum_13 : decode bR_writeSum 13 = .ok (.getfield 54, 3) := by decide +kernel
theorem dR_writeSum_16 : decode bR_writeSum 16 = .ok (.if_icmp .ge 30, 3) := by decide +kernel
theorem dR_writeSum_19 : decode bR_writeSum 19 = .ok (.aload 4, 2) := by decide +kernel
theorem dR_writeSum_21 : decode bR_writeSum 21 = .ok (.iload 6, 2) := by decide +kernel
theorem dR_writeSum_23 : decode bR_writeSum 23 = .ok (.aload_n 0, 1) := by decide +kernel
theorem dR_writeSum_24 : decode bR_writeSum 24 = .ok (.aload_n 1, 1) := by decide +kernel
theorem dR_writeSum_25 : decode bR_writeSum 25 = .ok (.iload 6, 2) := by decide +kernel
theorem dR_writeSum_27 : decode bR_writeSum 27 = .ok (.iaload, 1) := by decide +kernel
theorem dR_writeSum_28 : decode bR_writeSum 28 = .ok (.iload 5, 2) := by decide +kernel
theorem dR_writeSum_30 : decode bR_writeSum 30 = .ok (.aload_n 3, 1) := by decide +kernel
theorem dR_writeSum_31 : decode bR_writeSum 31 = .ok (.iload 6, 2) := by decide +kernel
theorem dR_writeSum_33 : decode bR_writeSum 33 = .ok (.iaload, 1) := by decide +kernel
theorem dR_writeSum_34 : decode bR_writeSum 34 = .ok (.imul, 1) := by decide +kernel
theorem dR_writeSum_35 : decode bR_writeSum 35 = .ok (.iadd, 1) := by decide +kernel
theorem dR_writeSum_36 : decode bR_writeSum 36 = .ok (.invokevirtual 78, 3) := by decide +kernel
theorem dR_writeSum_39 : decode bR_writeSum 39 = .ok (.iastore, 1) := by decide +kernel
theorem dR_writeSum_40 : decode bR_writeSum 40 = .ok (.iinc 6 1, 3) := by decide +kernel
theorem dR_writeSum_43 : decode bR_writeSum 43 = .ok (.goto (-33), 3) := by decide +kernel
theorem dR_writeSum_46 : decode bR_writeSum 46 = .ok (.return_, 1) := by decide +kernel
theorem dR_writeProduct_0 : decode bR_writeProduct 0 = .ok (.aload_n 0, 1) := by decide +kernel
theorem dR_writeProduct_1 : decode bR_writeProduct 1 = .ok (.getfield 32, 3) := by decide +kernel
theorem dR_writeProduct_4 : decode bR_writeProduct 4 = .ok (.iconst 0, 1) := by decide +kernel
theorem dR_writeProduct_5 : decode bR_writeProduct 5 = .ok (.invokestatic 57, 3) := by decide +kernel
theorem dR_writeProduct_8 : decode bR_writeProduct 8 = .ok (.aload_n 0, 1) := by decide +kernel
theorem dR_writeProduct_9 : decode bR_writeProduct 9 = .ok (.aload_n 2, 1) := by decide +kernel
theorem dR_writeProduct_10 : decode bR_writeProduct 10 = .ok (.invokevirtual 71, 3) := by decide +kernel
theorem dR_writeProduct_13 : decode bR_writeProduct 13 = .ok (.istore 4, 2) := by decide +kernel
theorem dR_writeProduct_15 : decode bR_writeProduct 15 = .ok (.aload_n 0, 1) := by decide +kernel
theorem dR_writeProduct_16 : decode bR_writeProduct 16 = .ok (.aload_n 1, 1) := by decide +kernel
theorem dR_writeProduct_17 : decode bR_writeProduct 17 = .ok (.invokevirtual 71, 3) := by decide +kernel
theorem dR_writeProduct_20 : decode bR_writeProduct 20 = .ok (.istore 5, 2) := by decide +kernel
theorem dR_writeProduct_22 : decode bR_writeProduct 22 = .ok (.iload 5, 2) := by decide +kernel
theorem dR_writeProduct_24 : decode bR_writeProduct 24 = .ok (.aload_n 0, 1) := by decide +kernel
theorem dR_writeProduct_25 : decode bR_writeProduct 25 = .ok (.getfield 54, 3) := by decide +kernel
theorem dR_writeProduct_28 : decode bR_writeProduct 28 = .ok (.if_icmp .ge 74, 3) := by decide +kernel
theorem dR_writeProduct_31 : decode bR_writeProduct 31 = .ok (.iload 4, 2) := by decide +kernel
theorem dR_writeProduct_33 : decode bR_writeProduct 33 = .ok (.istore 6, 2) := by decide +kernel
theorem dR_writeProduct_35 : decode bR_writeProduct 35 = .ok (.aload_n 1, 1) := by decide +kernel
theorem dR_writeProduct_36 : decode bR_writeProduct 36 = .ok (.iload 5, 2) := by decide +kernel
theorem dR_writeProduct_38 : decode bR_writeProduct 38 = .ok (.iaload, 1) := by decide +kernel
theorem dR_writeProduct_39 : decode bR_writeProduct 39 = .ok (.ifCond .eq 57, 3) := by decide +kernel
theorem dR_writeProduct_42 : decode bR_writeProduct 42 = .ok (.iload 6, 2) := by decide +kernel
theorem dR_writeProduct_44 : decode bR_writeProduct 44 = .ok (.aload_n 0, 1) := by decide +kernel
theorem dR_writeProduct_45 : decode bR_writeProduct 45 = .ok (.getfield 54, 3) := by decide +kernel
theorem dR_writeProduct_48 : decode bR_writeProduct 48 = .ok (.if_icmp .ge 48, 3) := by decide +kernel
theorem dR_writeProduct_51 : decode bR_writeProduct 51 = .ok (.aload_n 2, 1) := by decide +kernel
theorem dR_writeProduct_52 : decode bR_writeProduct 52 = .ok (.iload 6, 2) := by decide +kernel
theorem dR_writeProduct_54 : decode bR_writeProduct 54 = .ok (.iaload, 1) := by decide +kernel
theorem dR_writeProduct_55 : decode bR_writeProduct 55 = .ok (.ifCond .eq 35, 3) := by decide +kernel
theorem dR_writeProduct_58 : decode bR_writeProduct 58 = .ok (.aload_n 0, 1) := by decide +kernel
theorem dR_writeProduct_59 : decode bR_writeProduct 59 = .ok (.aload_n 0, 1) := by decide +kernel
theorem dR_writeProduct_60 : decode bR_writeProduct 60 = .ok (.getfield 20, 3) := by decide +kernel
theorem dR_writeProduct_63 : decode bR_writeProduct 63 = .ok (.iload 5, 2) := by decide +kernel
theorem dR_writeProduct_65 : decode bR_writeProduct 65 = .ok (.iaload, 1) := by decide +kernel
theorem dR_writeProduct_66 : decode bR_writeProduct 66 = .ok (.aload_n 0, 1) := by decide +kernel
theorem dR_writeProduct_67 : decode bR_writeProduct 67 = .ok (.getfield 20, 3) := by decide +kernel
theorem dR_writeProduct_70 : decode bR_writeProduct 70 = .ok (.iload 6, 2) := by decide +kernel
theorem dR_writeProduct_72 : decode bR_writeProduct 72 = .ok (.iaload, 1) := by decide +kernel
theorem dR_writeProduct_73 : decode bR_writeProduct 73 = .ok (.iadd, 1) := by decide +kernel
theorem dR_writeProduct_74 : decode bR_writeProduct 74 = .ok (.aload_n 1, 1) := by decide +kernel
theorem dR_writeProduct_75 : decode bR_writeProduct 75 = .ok (.iload 5, 2) := by decide +kernel
theorem dR_writeProduct_77 : decode bR_writeProduct 77 = .ok (.iaload, 1) := by decide +kernel
theorem dR_writeProduct_78 : decode bR_writeProduct 78 = .ok (.aload_n 2, 1) := by decide +kernel
theorem dR_writeProduct_79 : decode bR_writeProduct 79 = .ok (.iload 6, 2) := by decide +kernel
theorem dR_writeProduct_81 : decode bR_writeProduct 81 = .ok (.iaload, 1) := by decide +kernel
theorem dR_writeProduct_82 : decode bR_writeProduct 82 = .ok (.imul, 1) := by decide +kernel
theorem dR_writeProduct_83 : decode bR_writeProduct 83 = .ok (.aload_n 0, 1) := by decide +kernel
theorem dR_writeProduct_84 : decode bR_writeProduct 84 = .ok (.getfield 32, 3) := by decide +kernel
theorem dR_writeProduct_87 : decode bR_writeProduct 87 = .ok (.invokevirtual 82, 3) := by decide +kernel
theorem dR_writeProduct_90 : decode bR_writeProduct 90 = .ok (.iinc 6 1, 3) := by decide +kernel
theorem dR_writeProduct_93 : decode bR_writeProduct 93 = .ok (.goto (-58), 3) := by decide +kernel
theorem dR_writeProduct_96 : decode bR_writeProduct 96 = .ok (.iinc 5 1, 3) := by decide +kernel
theorem dR_writeProduct_99 : decode bR_writeProduct 99 = .ok (.goto (-77), 3) := by decide +kernel
theorem dR_writeProduct_102 : decode bR_writeProduct 102 = .ok (.aload_n 0, 1) := by decide +kernel
theorem dR_writeProduct_103 : decode bR_writeProduct 103 = .ok (.getfield 32, 3) := by decide +kernel
theorem dR_writeProduct_106 : decode bR_writeProduct 106 = .ok (.iconst 0, 1) := by decide +kernel
theorem dR_writeProduct_107 : decode bR_writeProduct 107 = .ok (.aload_n 3, 1) := by decide +kernel
theorem dR_writeProduct_108 : decode bR_writeProduct 108 = .ok (.iconst 0, 1) := by decide +kernel
theorem dR_writeProduct_109 : decode bR_writeProduct 109 = .ok (.bipush 126, 2) := by decide +kernel
theorem dR_writeProduct_111 : decode bR_writeProduct 111 = .ok (.invokestatic 86, 3) := by decide +kernel
theorem dR_writeProduct_114 : decode bR_writeProduct 114 = .ok (.return_, 1) := by decide +kernel
theorem dR_writePower_0 : decode bR_writePower 0 = .ok (.aload_n 1, 1) := by decide +kernel
theorem dR_writePower_1 : decode bR_writePower 1 = .ok (.iconst 0, 1) := by decide +kernel
theorem dR_writePower_2 : decode bR_writePower 2 = .ok (.aload_n 0, 1) := by decide +kernel
theorem dR_writePower_3 : decode bR_writePower 3 = .ok (.getfield 35, 3) := by decide +kernel
theorem dR_writePower_6 : decode bR_writePower 6 = .ok (.iconst 0, 1) := by decide +kernel
theorem dR_writePower_7 : decode bR_writePower 7 = .ok (.bipush 126, 2) := by decide +kernel
theorem dR_writePower_9 : decode bR_writePower 9 = .ok (.invokestatic 86, 3) := by decide +kernel
theorem dR_writePower_12 : decode bR_writePower 12 = .ok (.aload_n 0, 1) := by decide +kernel
theorem dR_writePower_13 : decode bR_writePower 13 = .ok (.iconst 1, 1) := by decide +kernel
theorem dR_writePower_14 : decode bR_writePower 14 = .ok (.aload_n 3, 1) := by decide +kernel
theorem dR_writePower_15 : decode bR_writePower 15 = .ok (.invokevirtual 92, 3) := by decide +kernel
theorem dR_writePower_18 : decode bR_writePower 18 = .ok (.bipush 6, 2) := by decide +kernel
theorem dR_writePower_20 : decode bR_writePower 20 = .ok (.istore 4, 2) := by decide +kernel
theorem dR_writePower_22 : decode bR_writePower 22 = .ok (.iload 4, 2) := by decide +kernel
theorem dR_writePower_24 : decode bR_writePower 24 = .ok (.ifCond .lt 44, 3) := by decide +kernel
theorem dR_writePower_27 : decode bR_writePower 27 = .ok (.iload_n 2, 1) := by decide +kernel
theorem dR_writePower_28 : decode bR_writePower 28 = .ok (.iload 4, 2) := by decide +kernel
theorem dR_writePower_30 : decode bR_writePower 30 = .ok (.ishr, 1) := by decide +kernel
theorem dR_writePower_31 : decode bR_writePower 31 = .ok (.iconst 1, 1) := by decide +kernel
theorem dR_writePower_32 : decode bR_writePower 32 = .ok (.if_icmp .le 10, 3) := by decide +kernel
theorem dR_writePower_35 : decode bR_writePower 35 = .ok (.aload_n 0, 1) := by decide +kernel
theorem dR_writePower_36 : decode bR_writePower 36 = .ok (.aload_n 3, 1) := by decide +kernel
theorem dR_writePower_37 : decode bR_writePower 37 = .ok (.aload_n 3, 1) := by decide +kernel
theorem dR_writePower_38 : decode bR_writePower 38 = .ok (.aload_n 3, 1) := by decide +kernel
theorem dR_writePower_39 : decode bR_writePower 39 = .ok (.invokevirtual 96, 3) := by decide +kernel
theorem dR_writePower_42 : decode bR_writePower 42 = .ok (.iload_n 2, 1) := by decide +kernel
theorem dR_writePower_43 : decode bR_writePower 43 = .ok (.iload 4, 2) := by decide +kernel
theorem dR_writePower_45 : decode bR_writePower 45 = .ok (.ishr, 1) := by decide +kernel
theorem dR_writePower_46 : decode bR_writePower 46 = .ok (.iconst 1, 1) := by decide +kernel
theorem dR_writePower_47 : decode bR_writePower 47 = .ok (.iand, 1) := by decide +kernel
theorem dR_writePower_48 : decode bR_writePower 48 = .ok (.iconst 1, 1) := by decide +kernel
theorem dR_writePower_49 : decode bR_writePower 49 = .ok (.if_icmp .ne 13, 3) := by decide +kernel
theorem dR_writePower_52 : decode bR_writePower 52 = .ok (.aload_n 0, 1) := by decide +kernel
theorem dR_writePower_53 : decode bR_writePower 53 = .ok (.aload_n 3, 1) := by decide +kernel
theorem dR_writePower_54 : decode bR_writePower 54 = .ok (.aload_n 0, 1) := by decide +kernel
theorem dR_writePower_55 : decode bR_writePower 55 = .ok (.getfield 35, 3) := by decide +kernel
theorem dR_writePower_58 : decode bR_writePower 58 = .ok (.aload_n 3, 1) := by decide +kernel
theorem dR_writePower_59 : decode bR_writePower 59 = .ok (.invokevirtual 96, 3) := by decide +kernel
theorem dR_writePower_62 : decode bR_writePower 62 = .ok (.iinc 4 (-1), 3) := by decide +kernel
theorem dR_writePower_65 : decode bR_writePower 65 = .ok (.goto (-43), 3) := by decide +kernel
theorem dR_writePower_68 : decode bR_writePower 68 = .ok (.return_, 1) := by decide +kernel
theorem dR_writeDerivative_0 : decode bR_writeDerivative 0 = .ok (.aload_n 0, 1) := by decide +kernel
theorem dR_writeDerivative_1 : decode bR_writeDerivative 1 = .ok (.getfield 32, 3) := by decide +kernel
theorem dR_writeDerivative_4 : decode bR_writeDerivative 4 = .ok (.iconst 0, 1) := by decide +kernel
theorem dR_writeDerivative_5 : decode bR_writeDerivative 5 = .ok (.invokestatic 57, 3) := by decide +kernel
theorem dR_writeDerivative_8 : decode bR_writeDerivative 8 = .ok (.iconst 0, 1) := by decide +kernel
theorem dR_writeDerivative_9 : decode bR_writeDerivative 9 = .ok (.istore 4, 2) := by decide +kernel
theorem dR_writeDerivative_11 : decode bR_writeDerivative 11 = .ok (.iload 4, 2) := by decide +kernel
theorem dR_writeDerivative_13 : decode bR_writeDerivative 13 = .ok (.aload_n 0, 1) := by decide +kernel
theorem dR_writeDerivative_14 : decode bR_writeDerivative 14 = .ok (.getfield 54, 3) := by decide +kernel
theorem dR_writeDerivative_17 : decode bR_writeDerivative 17 = .ok (.if_icmp .ge 59, 3) := by decide +kernel
theorem dR_writeDerivative_20 : decode bR_writeDerivative 20 = .ok (.aload_n 0, 1) := by decide +kernel
theorem dR_writeDerivative_21 : decode bR_writeDerivative 21 = .ok (.iload 4, 2) := by decide +kernel
theorem dR_writeDerivative_23 : decode bR_writeDerivative 23 = .ok (.iload_n 2, 1) := by decide +kernel
theorem dR_writeDerivative_24 : decode bR_writeDerivative 24 = .ok (.invokevirtual 100, 3) := by decide +kernel
theorem dR_writeDerivative_27 : decode bR_writeDerivative 27 = .ok (.istore 5, 2) := by decide +kernel
theorem dR_writeDerivative_29 : decode bR_writeDerivative 29 = .ok (.aload_n 1, 1) := by decide +kernel
theorem dR_writeDerivative_30 : decode bR_writeDerivative 30 = .ok (.iload 4, 2) := by decide +kernel
theorem dR_writeDerivative_32 : decode bR_writeDerivative 32 = .ok (.iaload, 1) := by decide +kernel
theorem dR_writeDerivative_33 : decode bR_writeDerivative 33 = .ok (.ifCond .eq 37, 3) := by decide +kernel
theorem dR_writeDerivative_36 : decode bR_writeDerivative 36 = .ok (.iload 5, 2) := by decide +kernel
theorem dR_writeDerivative_38 : decode bR_writeDerivative 38 = .ok (.ifCond .le 32, 3) := by decide +kernel
theorem dR_writeDerivative_41 : decode bR_writeDerivative 41 = .ok (.aload_n 0, 1) := by decide +kernel
theorem dR_writeDerivative_42 : decode bR_writeDerivative 42 = .ok (.aload_n 0, 1) := by decide +kernel
theorem dR_writeDerivative_43 : decode bR_writeDerivative 43 = .ok (.getfield 20, 3) := by decide +kernel
theorem dR_writeDerivative_46 : decode bR_writeDerivative 46 = .ok (.iload 4, 2) := by decide +kernel
theorem dR_writeDerivative_48 : decode bR_writeDerivative 48 = .ok (.iaload, 1) := by decide +kernel
theorem dR_writeDerivative_49 : decode bR_writeDerivative 49 = .ok (.aload_n 0, 1) := by decide +kernel
theorem dR_writeDerivative_50 : decode bR_writeDerivative 50 = .ok (.getfield 23, 3) := by decide +kernel
theorem dR_writeDerivative_53 : decode bR_writeDerivative 53 = .ok (.iload_n 2, 1) := by decide +kernel
theorem dR_writeDerivative_54 : decode bR_writeDerivative 54 = .ok (.iaload, 1) := by decide +kernel
theorem dR_writeDerivative_55 : decode bR_writeDerivative 55 = .ok (.isub, 1) := by decide +kernel
theorem dR_writeDerivative_56 : decode bR_writeDerivative 56 = .ok (.aload_n 1, 1) := by decide +kernel
theorem dR_writeDerivative_57 : decode bR_writeDerivative 57 = .ok (.iload 4, 2) := by decide +kernel
theorem dR_writeDerivative_59 : decode bR_writeDerivative 59 = .ok (.iaload, 1) := by decide +kernel
theorem dR_writeDerivative_60 : decode bR_writeDerivative 60 = .ok (.iload 5, 2) := by decide +kernel
theorem dR_writeDerivative_62 : decode bR_writeDerivative 62 = .ok (.imul, 1) := by decide +kernel
theorem dR_writeDerivative_63 : decode bR_writeDerivative 63 = .ok (.aload_n 0, 1) := by decide +kernel
theorem dR_writeDerivative_64 : decode bR_writeDerivative 64 = .ok (.getfield 32, 3) := by decide +kernel
theorem dR_writeDerivative_67 : decode bR_writeDerivative 67 = .ok (.invokevirtual 82, 3) := by decide +kernel
theorem dR_writeDerivative_70 : decode bR_writeDerivative 70 = .ok (.iinc 4 1, 3) := by decide +kernel
theorem dR_writeDerivative_73 : decode bR_writeDerivative 73 = .ok (.goto (-62), 3) := by decide +kernel
theorem dR_writeDerivative_76 : decode bR_writeDerivative 76 = .ok (.aload_n 0, 1) := by decide +kernel
theorem dR_writeDerivative_77 : decode bR_writeDerivative 77 = .ok (.getfield 32, 3) := by decide +kernel
theorem dR_writeDerivative_80 : decode bR_writeDerivative 80 = .ok (.iconst 0, 1) := by decide +kernel
theorem dR_writeDerivative_81 : decode bR_writeDerivative 81 = .ok (.aload_n 3, 1) := by decide +kernel
theorem dR_writeDerivative_82 : decode bR_writeDerivative 82 = .ok (.iconst 0, 1) := by decide +kernel
theorem dR_writeDerivative_83 : decode bR_writeDerivative 83 = .ok (.bipush 126, 2) := by decide +kernel
theorem dR_writeDerivative_85 : decode bR_writeDerivative 85 = .ok (.invokestatic 86, 3) := by decide +kernel
theorem dR_writeDerivative_88 : decode bR_writeDerivative 88 = .ok (.return_, 1) := by decide +kernel
theorem dR_writeSubstitute_0 : decode bR_writeSubstitute 0 = .ok (.aload_n 0, 1) := by decide +kernel
theorem dR_writeSubstitute_1 : decode bR_writeSubstitute 1 = .ok (.getfield 32, 3) := by decide +kernel
theorem dR_writeSubstitute_4 : decode bR_writeSubstitute 4 = .ok (.iconst 0, 1) := by decide +kernel
theorem dR_writeSubstitute_5 : decode bR_writeSubstitute 5 = .ok (.invokestatic 57, 3) := by decide +kernel
theorem dR_writeSubstitute_8 : decode bR_writeSubstitute 8 = .ok (.iload_n 2, 1) := by decide +kernel
theorem dR_writeSubstitute_9 : decode bR_writeSubstitute 9 = .ok (.ifCond .lt 91, 3) := by decide +kernel
theorem dR_writeSubstitute_12 : decode bR_writeSubstitute 12 = .ok (.iload_n 2, 1) := by decide +kernel
theorem dR_writeSubstitute_13 : decode bR_writeSubstitute 13 = .ok (.aload_n 0, 1) := by decide +kernel
theorem dR_writeSubstitute_14 : decode bR_writeSubstitute 14 = .ok (.getfield 42, 3) := by decide +kernel
theorem dR_writeSubstitute_17 : decode bR_writeSubstitute 17 = .ok (.if_icmp .ge 83, 3) := by decide +kernel
theorem dR_writeSubstitute_20 : decode bR_writeSubstitute 20 = .ok (.aload_n 0, 1) := by decide +kernel
theorem dR_writeSubstitute_21 : decode bR_writeSubstitute 21 = .ok (.iload_n 3, 1) := by decide +kernel
theorem dR_writeSubstitute_22 : decode bR_writeSubstitute 22 = .ok (.invokevirtual 78, 3) := by decide +kernel
theorem dR_writeSubstitute_25 : decode bR_writeSubstitute 25 = .ok (.istore 5, 2) := by decide +kernel
theorem dR_writeSubstitute_27 : decode bR_writeSubstitute 27 = .ok (.iconst 0, 1) := by decide +kernel
theorem dR_writeSubstitute_28 : decode bR_writeSubstitute 28 = .ok (.istore 6, 2) := by decide +kernel
theorem dR_writeSubstitute_30 : decode bR_writeSubstitute 30 = .ok (.iload 6, 2) := by decide +kernel
theorem dR_writeSubstitute_32 : decode bR_writeSubstitute 32 = .ok (.aload_n 0, 1) := by decide +kernel
theorem dR_writeSubstitute_33 : decode bR_writeSubstitute 33 = .ok (.getfield 54, 3) := by decide +kernel
theorem dR_writeSubstitute_36 : decode bR_writeSubstitute 36 = .ok (.if_icmp .ge 64, 3) := by decide +kernel
theorem dR_writeSubstitute_39 : decode bR_writeSubstitute 39 = .ok (.aload_n 0, 1) := by decide +kernel
theorem dR_writeSubstitute_40 : decode bR_writeSubstitute 40 = .ok (.getfield 13, 3) := by decide +kernel
theorem dR_writeSubstitute_43 : decode bR_writeSubstitute 43 = .ok (.iload_n 2, 1) := by decide +kernel
theorem dR_writeSubstitute_44 : decode bR_writeSubstitute 44 = .ok (.aaload, 1) := by decide +kernel
theorem dR_writeSubstitute_45 : decode bR_writeSubstitute 45 = .ok (.iload 6, 2) := by decide +kernel
theorem dR_writeSubstitute_47 : decode bR_writeSubstitute 47 = .ok (.iaload, 1) := by decide +kernel
theorem dR_writeSubstitute_48 : decode bR_writeSubstitute 48 = .ok (.istore 7, 2) := by decide +kernel
theorem dR_writeSubstitute_50 : decode bR_writeSubstitute 50 = .ok (.aload_n 1, 1) := by decide +kernel
theorem dR_writeSubstitute_51 : decode bR_writeSubstitute 51 = .ok (.iload 6, 2) := by decide +kernel
theorem dR_writeSubstitute_53 : decode bR_writeSubstitute 53 = .ok (.iaload, 1) := by decide +kernel
theorem dR_writeSubstitute_54 : decode bR_writeSubstitute 54 = .ok (.ifCond .eq 40, 3) := by decide +kernel
theorem dR_writeSubstitute_57 : decode bR_writeSubstitute 57 = .ok (.aload_n 0, 1) := by decide +kernel
theorem dR_writeSubstitute_58 : decode bR_writeSubstitute 58 = .ok (.aload_n 0, 1) := by decide +kernel
theorem dR_writeSubstitute_59 : decode bR_writeSubstitute 59 = .ok (.getfield 20, 3) := by decide +kernel
theorem dR_writeSubstitute_62 : decode bR_writeSubstitute 62 = .ok (.iload 6, 2) := by decide +kernel
theorem dR_writeSubstitute_64 : decode bR_writeSubstitute 64 = .ok (.iaload, 1) := by decide +kernel
theorem dR_writeSubstitute_65 : decode bR_writeSubstitute 65 = .ok (.iload 7, 2) := by decide +kernel
theorem dR_writeSubstitute_67 : decode bR_writeSubstitute 67 = .ok (.aload_n 0, 1) := by decide +kernel
theorem dR_writeSubstitute_68 : decode bR_writeSubstitute 68 = .ok (.getfield 23, 3) := by decide +kernel
theorem dR_writeSubstitute_71 : decode bR_writeSubstitute 71 = .ok (.iload_n 2, 1) := by decide +kernel
theorem dR_writeSubstitute_72 : decode bR_writeSubstitute 72 = .ok (.iaload, 1) := by decide +kernel
theorem dR_writeSubstitute_73 : decode bR_writeSubstitute 73 = .ok (.imul, 1) := by decide +kernel
theorem dR_writeSubstitute_74 : decode bR_writeSubstitute 74 = .ok (.isub, 1) := by decide +kernel
theorem dR_writeSubstitute_75 : decode bR_writeSubstitute 75 = .ok (.aload_n 0, 1) := by decide +kernel
theorem dR_writeSubstitute_76 : decode bR_writeSubstitute 76 = .ok (.aload_n 1, 1) := by decide +kernel
theorem dR_writeSubstitute_77 : decode bR_writeSubstitute 77 = .ok (.iload 6, 2) := by decide +kernel
theorem dR_writeSubstitute_79 : decode bR_writeSubstitute 79 = .ok (.iaload, 1) := by decide +kernel
theorem dR_writeSubstitute_80 : decode bR_writeSubstitute 80 = .ok (.iload 5, 2) := by decide +kernel
theorem dR_writeSubstitute_82 : decode bR_writeSubstitute 82 = .ok (.iload 7, 2) := by decide +kernel
theorem dR_writeSubstitute_84 : decode bR_writeSubstitute 84 = .ok (.invokevirtual 104, 3) := by decide +kernel
theorem dR_writeSubstitute_87 : decode bR_writeSubstitute 87 = .ok (.aload_n 0, 1) := by decide +kernel
theorem dR_writeSubstitute_88 : decode bR_writeSubstitute 88 = .ok (.getfield 32, 3) := by decide +kernel
theorem dR_writeSubstitute_91 : decode bR_writeSubstitute 91 = .ok (.invokevirtual 82, 3) := by decide +kernel
theorem dR_writeSubstitute_94 : decode bR_writeSubstitute 94 = .ok (.iinc 6 1, 3) := by decide +kernel
theorem dR_writeSubstitute_97 : decode bR_writeSubstitute 97 = .ok (.goto (-67), 3) := by decide +kernel
theorem dR_writeSubstitute_100 : decode bR_writeSubstitute 100 = .ok (.aload_n 0, 1) := by decide +kernel
theorem dR_writeSubstitute_101 : decode bR_writeSubstitute 101 = .ok (.getfield 32, 3) := by decide +kernel
theorem dR_writeSubstitute_104 : decode bR_writeSubstitute 104 = .ok (.iconst 0, 1) := by decide +kernel
theorem dR_writeSubstitute_105 : decode bR_writeSubstitute 105 = .ok (.aload 4, 2) := by decide +kernel
theorem dR_writeSubstitute_107 : decode bR_writeSubstitute 107 = .ok (.iconst 0, 1) := by decide +kernel
theorem dR_writeSubstitute_108 : decode bR_writeSubstitute 108 = .ok (.bipush 126, 2) := by decide +kernel
theorem dR_writeSubstitute_110 : decode bR_writeSubstitute 110 = .ok (.invokestatic 86, 3) := by decide +kernel
theorem dR_writeSubstitute_113 : decode bR_writeSubstitute 113 = .ok (.return_, 1) := by decide +kernel
theorem dR_init_0 : decode bR_init 0 = .ok (.aload_n 0, 1) := by decide +kernel
theorem dR_init_1 : decode bR_init 1 = .ok (.invokespecial 3, 3) := by decide +kernel
theorem dR_init_4 : decode bR_init 4 = .ok (.aload_n 0, 1) := by decide +kernel
theorem dR_init_5 : decode bR_init 5 = .ok (.iconst 4, 1) := by decide +kernel
theorem dR_init_6 : decode bR_init 6 = .ok (.bipush 126, 2) := by decide +kernel
theorem dR_init_8 : decode bR_init 8 = .ok (.multianewarray 11 2, 4) := by decide +kernel
theorem dR_init_12 : decode bR_init 12 = .ok (.putfield 13, 3) := by decide +kernel
theorem dR_init_15 : decode bR_init 15 = .ok (.aload_n 0, 1) := by decide +kernel
theorem dR_init_16 : decode bR_init 16 = .ok (.bipush 126, 2) := by decide +kernel
theorem dR_init_18 : decode bR_init 18 = .ok (.newarray .int, 2) := by decide +kernel
theorem dR_init_20 : decode bR_init 20 = .ok (.putfield 16, 3) := by decide +kernel
theorem dR_init_23 : decode bR_init 23 = .ok (.aload_n 0, 1) := by decide +kernel
theorem dR_init_24 : decode bR_init 24 = .ok (.bipush 126, 2) := by decide +kernel
theorem dR_init_26 : decode bR_init 26 = .ok (.newarray .int, 2) := by decide +kernel
theorem dR_init_28 : decode bR_init 28 = .ok (.putfield 20, 3) := by decide +kernel
theorem dR_init_31 : decode bR_init 31 = .ok (.aload_n 0, 1) := by decide +kernel
theorem dR_init_32 : decode bR_init 32 = .ok (.iconst 4, 1) := by decide +kernel
theorem dR_init_33 : decode bR_init 33 = .ok (.newarray .int, 2) := by decide +kernel
theorem dR_init_35 : decode bR_init 35 = .ok (.putfield 23, 3) := by decide +kernel
theorem dR_init_38 : decode bR_init 38 = .ok (.aload_n 0, 1) := by decide +kernel
theorem dR_init_39 : decode bR_init 39 = .ok (.sipush 1296, 3) := by decide +kernel
theorem dR_init_42 : decode bR_init 42 = .ok (.newarray .int, 2) := by decide +kernel
theorem dR_init_44 : decode bR_init 44 = .ok (.putfield 26, 3) := by decide +kernel
theorem dR_init_47 : decode bR_init 47 = .ok (.aload_n 0, 1) := by decide +kernel
theorem dR_init_48 : decode bR_init 48 = .ok (.iconst 4, 1) := by decide +kernel
theorem dR_init_49 : decode bR_init 49 = .ok (.newarray .int, 2) := by decide +kernel
theorem dR_init_51 : decode bR_init 51 = .ok (.putfield 29, 3) := by decide +kernel
theorem dR_init_54 : decode bR_init 54 = .ok (.aload_n 0, 1) := by decide +kernel
theorem dR_init_55 : decode bR_init 55 = .ok (.bipush 126, 2) := by decide +kernel
theorem dR_init_57 : decode bR_init 57 = .ok (.newarray .int, 2) := by decide +kernel
theorem dR_init_59 : decode bR_init 59 = .ok (.putfield 32, 3) := by decide +kernel
theorem dR_init_62 : decode bR_init 62 = .ok (.aload_n 0, 1) := by decide +kernel
theorem dR_init_63 : decode bR_init 63 = .ok (.bipush 126, 2) := by decide +kernel
theorem dR_init_65 : decode bR_init 65 = .ok (.newarray .int, 2) := by decide +kernel
theorem dR_init_67 : decode bR_init 67 = .ok (.putfield 35, 3) := by decide +kernel
theorem dR_init_70 : decode bR_init 70 = .ok (.return_, 1) := by decide +kernel
theorem dR_evaluate_0 : decode bR_evaluate 0 = .ok (.iconst 0, 1) := by decide +kernel
theorem dR_evaluate_1 : decode bR_evaluate 1 = .ok (.istore_n 3, 1) := by decide +kernel
theorem dR_evaluate_2 : decode bR_evaluate 2 = .ok (.iconst 0, 1) := by decide +kernel
theorem dR_evaluate_3 : decode bR_evaluate 3 = .ok (.istore 4, 2) := by decide +kernel
theorem dR_evaluate_5 : decode bR_evaluate 5 = .ok (.iload 4, 2) := by decide +kernel
theorem dR_evaluate_7 : decode bR_evaluate 7 = .ok (.aload_n 0, 1) := by decide +kernel
theorem dR_evaluate_8 : decode bR_evaluate 8 = .ok (.getfield 54, 3) := by decide +kernel
theorem dR_evaluate_11 : decode bR_evaluate 11 = .ok (.if_icmp .ge 80, 3) := by decide +kernel
theorem dR_evaluate_14 : decode bR_evaluate 14 = .ok (.aload_n 1, 1) := by decide +kernel
theorem dR_evaluate_15 : decode bR_evaluate 15 = .ok (.iload 4, 2) := by decide +kernel
theorem dR_evaluate_17 : decode bR_evaluate 17 = .ok (.iaload, 1) := by decide +kernel
theorem dR_evaluate_18 : decode bR_evaluate 18 = .ok (.istore 5, 2) := by decide +kernel
theorem dR_evaluate_20 : decode bR_evaluate 20 = .ok (.iconst 0, 1) := by decide +kernel
theorem dR_evaluate_21 : decode bR_evaluate 21 = .ok (.istore 6, 2) := by decide +kernel
theorem dR_evaluate_23 : decode bR_evaluate 23 = .ok (.iload 6, 2) := by decide +kernel
theorem dR_evaluate_25 : decode bR_evaluate 25 = .ok (.aload_n 0, 1) := by decide +kernel
theorem dR_evaluate_26 : decode bR_evaluate 26 = .ok (.getfield 42, 3) := by decide +kernel
theorem dR_evaluate_29 : decode bR_evaluate 29 = .ok (.if_icmp .ge 47, 3) := by decide +kernel
theorem dR_evaluate_32 : decode bR_evaluate 32 = .ok (.iload 6, 2) := by decide +kernel
theorem dR_evaluate_34 : decode bR_evaluate 34 = .ok (.aload_n 2, 1) := by decide +kernel
theorem dR_evaluate_35 : decode bR_evaluate 35 = .ok (.arraylength, 1) := by decide +kernel
theorem dR_evaluate_36 : decode bR_evaluate 36 = .ok (.if_icmp .ge 40, 3) := by decide +kernel
theorem dR_evaluate_39 : decode bR_evaluate 39 = .ok (.iload 5, 2) := by decide +kernel
theorem dR_evaluate_41 : decode bR_evaluate 41 = .ok (.ifCond .eq 35, 3) := by decide +kernel
theorem dR_evaluate_44 : decode bR_evaluate 44 = .ok (.aload_n 0, 1) := by decide +kernel
theorem dR_evaluate_45 : decode bR_evaluate 45 = .ok (.iload 5, 2) := by decide +kernel
theorem dR_evaluate_47 : decode bR_evaluate 47 = .ok (.aload_n 0, 1) := by decide +kernel
theorem dR_evaluate_48 : decode bR_evaluate 48 = .ok (.aload_n 2, 1) := by decide +kernel
theorem dR_evaluate_49 : decode bR_evaluate 49 = .ok (.iload 6, 2) := by decide +kernel
theorem dR_evaluate_51 : decode bR_evaluate 51 = .ok (.iaload, 1) := by decide +kernel
theorem dR_evaluate_52 : decode bR_evaluate 52 = .ok (.invokevirtual 78, 3) := by decide +kernel
theorem dR_evaluate_55 : decode bR_evaluate 55 = .ok (.aload_n 0, 1) := by decide +kernel
theorem dR_evaluate_56 : decode bR_evaluate 56 = .ok (.getfield 13, 3) := by decide +kernel
theorem dR_evaluate_59 : decode bR_evaluate 59 = .ok (.iload 6, 2) := by decide +kernel
theorem dR_evaluate_61 : decode bR_evaluate 61 = .ok (.aaload, 1) := by decide +kernel
theorem dR_evaluate_62 : decode bR_evaluate 62 = .ok (.iload 4, 2) := by decide +kernel
theorem dR_evaluate_64 : decode bR_evaluate 64 = .ok (.iaload, 1) := by decide +kernel
theorem dR_evaluate_65 : decode bR_evaluate 65 = .ok (.invokevirtual 104, 3) := by decide +kernel
theorem dR_evaluate_68 : decode bR_evaluate 68 = .ok (.istore 5, 2) := by decide +kernel
theorem dR_evaluate_70 : decode bR_evaluate 70 = .ok (.iinc 6 1, 3) := by decide +kernel
theorem dR_evaluate_73 : decode bR_evaluate 73 = .ok (.goto (-50), 3) := by decide +kernel
theorem dR_evaluate_76 : decode bR_evaluate 76 = .ok (.aload_n 0, 1) := by decide +kernel
theorem dR_evaluate_77 : decode bR_evaluate 77 = .ok (.iload_n 3, 1) := by decide +kernel
theorem dR_evaluate_78 : decode bR_evaluate 78 = .ok (.iload 5, 2) := by decide +kernel
theorem dR_evaluate_80 : decode bR_evaluate 80 = .ok (.iadd, 1) := by decide +kernel
theorem dR_evaluate_81 : decode bR_evaluate 81 = .ok (.invokevirtual 78, 3) := by decide +kernel
theorem dR_evaluate_84 : decode bR_evaluate 84 = .ok (.istore_n 3, 1) := by decide +kernel
theorem dR_evaluate_85 : decode bR_evaluate 85 = .ok (.iinc 4 1, 3) := by decide +kernel
theorem dR_evaluate_88 : decode bR_evaluate 88 = .ok (.goto (-83), 3) := by decide +kernel
theorem dR_evaluate_91 : decode bR_evaluate 91 = .ok (.iload_n 3, 1) := by decide +kernel
theorem dR_evaluate_92 : decode bR_evaluate 92 = .ok (.ireturn, 1) := by decide +kernel
theorem dR_timesPower_0 : decode bR_timesPower 0 = .ok (.iload_n 1, 1) := by decide +kernel
theorem dR_timesPower_1 : decode bR_timesPower 1 = .ok (.istore 4, 2) := by decide +kernel
theorem dR_timesPower_3 : decode bR_timesPower 3 = .ok (.iconst 0, 1) := by decide +kernel
theorem dR_timesPower_4 : decode bR_timesPower 4 = .ok (.istore 5, 2) := by decide +kernel
theorem dR_timesPower_6 : decode bR_timesPower 6 = .ok (.iload 5, 2) := by decide +kernel
theorem dR_timesPower_8 : decode bR_timesPower 8 = .ok (.iload_n 3, 1) := by decide +kernel
theorem dR_timesPower_9 : decode bR_timesPower 9 = .ok (.if_icmp .ge 19, 3) := by decide +kernel
theorem dR_timesPower_12 : decode bR_timesPower 12 = .ok (.aload_n 0, 1) := by decide +kernel
theorem dR_timesPower_13 : decode bR_timesPower 13 = .ok (.iload 4, 2) := by decide +kernel
theorem dR_timesPower_15 : decode bR_timesPower 15 = .ok (.iload_n 2, 1) := by decide +kernel
theorem dR_timesPower_16 : decode bR_timesPower 16 = .ok (.imul, 1) := by decide +kernel
theorem dR_timesPower_17 : decode bR_timesPower 17 = .ok (.invokevirtual 78, 3) := by decide +kernel
theorem dR_timesPower_20 : decode bR_timesPower 20 = .ok (.istore 4, 2) := by decide +kernel
theorem dR_timesPower_22 : decode bR_timesPower 22 = .ok (.iinc 5 1, 3) := by decide +kernel
theorem dR_timesPower_25 : decode bR_timesPower 25 = .ok (.goto (-19), 3) := by decide +kernel
theorem dR_timesPower_28 : decode bR_timesPower 28 = .ok (.iload 4, 2) := by decide +kernel
theorem dR_timesPower_30 : decode bR_timesPower 30 = .ok (.ireturn, 1) := by decide +kernel
theorem dR_addAt_0 : decode bR_addAt 0 = .ok (.iload_n 1, 1) := by decide +kernel
theorem dR_addAt_1 : decode bR_addAt 1 = .ok (.ifCond .lt 19, 3) := by decide +kernel
theorem dR_addAt_4 : decode bR_addAt 4 = .ok (.iload_n 1, 1) := by decide +kernel
theorem dR_addAt_5 : decode bR_addAt 5 = .ok (.sipush 1296, 3) := by decide +kernel
theorem dR_addAt_8 : decode bR_addAt 8 = .ok (.if_icmp .ge 12, 3) := by decide +kernel
theorem dR_addAt_11 : decode bR_addAt 11 = .ok (.aload_n 0, 1) := by decide +kernel
theorem dR_addAt_12 : decode bR_addAt 12 = .ok (.getfield 26, 3) := by decide +kernel
theorem dR_addAt_15 : decode bR_addAt 15 = .ok (.iload_n 1, 1) := by decide +kernel
theorem dR_addAt_16 : decode bR_addAt 16 = .ok (.iaload, 1) := by decide +kernel
theorem dR_addAt_17 : decode bR_addAt 17 = .ok (.goto 4, 3) := by decide +kernel
theorem dR_addAt_20 : decode bR_addAt 20 = .ok (.iconst (-1), 1) := by decide +kernel
theorem dR_addAt_21 : decode bR_addAt 21 = .ok (.istore 4, 2) := by decide +kernel
theorem dR_addAt_23 : decode bR_addAt 23 = .ok (.iload 4, 2) := by decide +kernel
theorem dR_addAt_25 : decode bR_addAt 25 = .ok (.ifCond .lt 33, 3) := by decide +kernel
theorem dR_addAt_28 : decode bR_addAt 28 = .ok (.iload 4, 2) := by decide +kernel
theorem dR_addAt_30 : decode bR_addAt 30 = .ok (.bipush 126, 2) := by decide +kernel
theorem dR_addAt_32 : decode bR_addAt 32 = .ok (.if_icmp .ge 26, 3) := by decide +kernel
theorem dR_addAt_35 : decode bR_addAt 35 = .ok (.aload_n 0, 1) := by decide +kernel
theorem dR_addAt_36 : decode bR_addAt 36 = .ok (.getfield 38, 3) := by decide +kernel
theorem dR_addAt_39 : decode bR_addAt 39 = .ok (.iconst 1, 1) := by decide +kernel
theorem dR_addAt_40 : decode bR_addAt 40 = .ok (.if_icmp .le 18, 3) := by decide +kernel
theorem dR_addAt_43 : decode bR_addAt 43 = .ok (.aload_n 3, 1) := by decide +kernel
theorem dR_addAt_44 : decode bR_addAt 44 = .ok (.iload 4, 2) := by decide +kernel
theorem dR_addAt_46 : decode bR_addAt 46 = .ok (.aload_n 3, 1) := by decide +kernel
theorem dR_addAt_47 : decode bR_addAt 47 = .ok (.iload 4, 2) := by decide +kernel
theorem dR_addAt_49 : decode bR_addAt 49 = .ok (.iaload, 1) := by decide +kernel
theorem dR_addAt_50 : decode bR_addAt 50 = .ok (.iload_n 2, 1) := by decide +kernel
theorem dR_addAt_51 : decode bR_addAt 51 = .ok (.iadd, 1) := by decide +kernel
theorem dR_addAt_52 : decode bR_addAt 52 = .ok (.aload_n 0, 1) := by decide +kernel
theorem dR_addAt_53 : decode bR_addAt 53 = .ok (.getfield 38, 3) := by decide +kernel
theorem dR_addAt_56 : decode bR_addAt 56 = .ok (.irem, 1) := by decide +kernel
theorem dR_addAt_57 : decode bR_addAt 57 = .ok (.iastore, 1) := by decide +kernel
theorem dR_addAt_58 : decode bR_addAt 58 = .ok (.return_, 1) := by decide +kernel
theorem dR_leadingOf_0 : decode bR_leadingOf 0 = .ok (.iconst 0, 1) := by decide +kernel
theorem dR_leadingOf_1 : decode bR_leadingOf 1 = .ok (.istore_n 2, 1) := by decide +kernel
theorem dR_leadingOf_2 : decode bR_leadingOf 2 = .ok (.iload_n 2, 1) := by decide +kernel
theorem dR_leadingOf_3 : decode bR_leadingOf 3 = .ok (.aload_n 0, 1) := by decide +kernel
theorem dR_leadingOf_4 : decode bR_leadingOf 4 = .ok (.getfield 54, 3) := by decide +kernel
theorem dR_leadingOf_7 : decode bR_leadingOf 7 = .ok (.if_icmp .ge 15, 3) := by decide +kernel
theorem dR_leadingOf_10 : decode bR_leadingOf 10 = .ok (.aload_n 1, 1) := by decide +kernel
theorem dR_leadingOf_11 : decode bR_leadingOf 11 = .ok (.iload_n 2, 1) := by decide +kernel
theorem dR_leadingOf_12 : decode bR_leadingOf 12 = .ok (.iaload, 1) := by decide +kernel
theorem dR_leadingOf_13 : decode bR_leadingOf 13 = .ok (.ifCond .ne 9, 3) := by decide +kernel
theorem dR_leadingOf_16 : decode bR_leadingOf 16 = .ok (.iinc 2 1, 3) := by decide +kernel
theorem dR_leadingOf_19 : decode bR_leadingOf 19 = .ok (.goto (-17), 3) := by decide +kernel
theorem dR_leadingOf_22 : decode bR_leadingOf 22 = .ok (.iload_n 2, 1) := by decide +kernel
theorem dR_leadingOf_23 : decode bR_leadingOf 23 = .ok (.ireturn, 1) := by decide +kernel
theorem dR_reduce_0 : decode bR_reduce 0 = .ok (.aload_n 0, 1) := by decide +kernel
theorem dR_reduce_1 : decode bR_reduce 1 = .ok (.getfield 38, 3) := by decide +kernel
theorem dR_reduce_4 : decode bR_reduce 4 = .ok (.iconst 2, 1) := by decide +kernel
theorem dR_reduce_5 : decode bR_reduce 5 = .ok (.if_icmp .ge 5, 3) := by decide +kernel
theorem dR_reduce_8 : decode bR_reduce 8 = .ok (.iconst 0, 1) := by decide +kernel
theorem dR_reduce_9 : decode bR_reduce 9 = .ok (.ireturn, 1) := by decide +kernel
theorem dR_reduce_10 : decode bR_reduce 10 = .ok (.iload_n 1, 1) := by decide +kernel
theorem dR_reduce_11 : decode bR_reduce 11 = .ok (.aload_n 0, 1) := by decide +kernel
theorem dR_reduce_12 : decode bR_reduce 12 = .ok (.getfield 38, 3) := by decide +kernel
theorem dR_reduce_15 : decode bR_reduce 15 = .ok (.irem, 1) := by decide +kernel
theorem dR_reduce_16 : decode bR_reduce 16 = .ok (.istore_n 2, 1) := by decide +kernel
theorem dR_reduce_17 : decode bR_reduce 17 = .ok (.iload_n 2, 1) := by decide +kernel
theorem dR_reduce_18 : decode bR_reduce 18 = .ok (.ifCond .ge 12, 3) := by decide +kernel
theorem dR_reduce_21 : decode bR_reduce 21 = .ok (.iload_n 2, 1) := by decide +kernel
theorem dR_reduce_22 : decode bR_reduce 22 = .ok (.aload_n 0, 1) := by decide +kernel
theorem dR_reduce_23 : decode bR_reduce 23 = .ok (.getfield 38, 3) := by decide +kernel
theorem dR_reduce_26 : decode bR_reduce 26 = .ok (.iadd, 1) := by decide +kernel
theorem dR_reduce_27 : decode bR_reduce 27 = .ok (.goto 4, 3) := by decide +kernel
theorem dR_reduce_30 : decode bR_reduce 30 = .ok (.iload_n 2, 1) := by decide +kernel
theorem dR_reduce_31 : decode bR_reduce 31 = .ok (.ireturn, 1) := by decide +kernel
theorem dR_prepare_0 : decode bR_prepare 0 = .ok (.iload_n 1, 1) := by decide +kernel
theorem dR_prepare_1 : decode bR_prepare 1 = .ok (.iconst 2, 1) := by decide +kernel
theorem dR_prepare_2 : decode bR_prepare 2 = .ok (.if_icmp .lt 13, 3) := by decide +kernel
theorem dR_prepare_5 : decode bR_prepare 5 = .ok (.iload_n 2, 1) := by decide +kernel
theorem dR_prepare_6 : decode bR_prepare 6 = .ok (.iconst 1, 1) := by decide +kernel
theorem dR_prepare_7 : decode bR_prepare 7 = .ok (.if_icmp .lt 8, 3) := by decide +kernel
theorem dR_prepare_10 : decode bR_prepare 10 = .ok (.iload_n 2, 1) := by decide +kernel
theorem dR_prepare_11 : decode bR_prepare 11 = .ok (.iconst 4, 1) := by decide +kernel
theorem dR_prepare_12 : decode bR_prepare 12 = .ok (.if_icmp .le 4, 3) := by decide +kernel
theorem dR_prepare_15 : decode bR_prepare 15 = .ok (.return_, 1) := by decide +kernel
theorem dR_prepare_16 : decode bR_prepare 16 = .ok (.aload_n 0, 1) := by decide +kernel
theorem dR_prepare_17 : decode bR_prepare 17 = .ok (.iload_n 1, 1) := by decide +kernel
theorem dR_prepare_18 : decode bR_prepare 18 = .ok (.putfield 38, 3) := by decide +kernel
theorem dR_prepare_21 : decode bR_prepare 21 = .ok (.aload_n 0, 1) := by decide +kernel
theorem dR_prepare_22 : decode bR_prepare 22 = .ok (.iload_n 2, 1) := by decide +kernel
theorem dR_prepare_23 : decode bR_prepare 23 = .ok (.putfield 42, 3) := by decide +kernel
theorem dR_prepare_26 : decode bR_prepare 26 = .ok (.aload_n 0, 1) := by decide +kernel
theorem dR_prepare_27 : decode bR_prepare 27 = .ok (.iload_n 3, 1) := by decide +kernel
theorem dR_prepare_28 : decode bR_prepare 28 = .ok (.putfield 45, 3) := by decide +kernel
theorem dR_prepare_31 : decode bR_prepare 31 = .ok (.aload_n 0, 1) := by decide +kernel
theorem dR_prepare_32 : decode bR_prepare 32 = .ok (.getstatic 48, 3) := by decide +kernel
theorem dR_prepare_35 : decode bR_prepare 35 = .ok (.iload_n 2, 1) := by decide +kernel
theorem dR_prepare_36 : decode bR_prepare 36 = .ok (.iconst 1, 1) := by decide +kernel
theorem dR_prepare_37 : decode bR_prepare 37 = .ok (.isub, 1) := by decide +kernel
theorem dR_prepare_38 : decode bR_prepare 38 = .ok (.iaload, 1) := by decide +kernel
theorem dR_prepare_39 : decode bR_prepare 39 = .ok (.putfield 51, 3) := by decide +kernel
theorem dR_prepare_42 : decode bR_prepare 42 = .ok (.aload_n 0, 1) := by decide +kernel
theorem dR_prepare_43 : decode bR_prepare 43 = .ok (.iconst 0, 1) := by decide +kernel
theorem dR_prepare_44 : decode bR_prepare 44 = .ok (.putfield 54, 3) := by decide +kernel
theorem dR_prepare_47 : decode bR_prepare 47 = .ok (.aload_n 0, 1) := by decide +kernel
theorem dR_prepare_48 : decode bR_prepare 48 = .ok (.getfield 26, 3) := by decide +kernel
theorem dR_prepare_51 : decode bR_prepare 51 = .ok (.iconst (-1), 1) := by decide +kernel
theorem dR_prepare_52 : decode bR_prepare 52 = .ok (.invokestatic 57, 3) := by decide +kernel
theorem dR_prepare_55 : decode bR_prepare 55 = .ok (.aload_n 0, 1) := by decide +kernel
theorem dR_prepare_56 : decode bR_prepare 56 = .ok (.getfield 29, 3) := by decide +kernel
theorem dR_prepare_59 : decode bR_prepare 59 = .ok (.iconst 0, 1) := by decide +kernel
theorem dR_prepare_60 : decode bR_prepare 60 = .ok (.invokestatic 57, 3) := by decide +kernel
theorem dR_prepare_63 : decode bR_prepare 63 = .ok (.iconst 1, 1) := by decide +kernel
theorem dR_prepare_64 : decode bR_prepare 64 = .ok (.istore 4, 2) := by decide +kernel
theorem dR_prepare_66 : decode bR_prepare 66 = .ok (.iconst 0, 1) := by decide +kernel
theorem dR_prepare_67 : decode bR_prepare 67 = .ok (.istore 5, 2) := by decide +kernel
theorem dR_prepare_69 : decode bR_prepare 69 = .ok (.iload 5, 2) := by decide +kernel
theorem dR_prepare_71 : decode bR_prepare 71 = .ok (.iconst 4, 1) := by decide +kernel
theorem dR_prepare_72 : decode bR_prepare 72 = .ok (.if_icmp .ge 42, 3) := by decide +kernel
theorem dR_prepare_75 : decode bR_prepare 75 = .ok (.aload_n 0, 1) := by decide +kernel
theorem dR_prepare_76 : decode bR_prepare 76 = .ok (.getfield 23, 3) := by decide +kernel
theorem dR_prepare_79 : decode bR_prepare 79 = .ok (.iload 5, 2) := by decide +kernel
theorem dR_prepare_81 : decode bR_prepare 81 = .ok (.iload 5, 2) := by decide +kernel
theorem dR_prepare_83 : decode bR_prepare 83 = .ok (.aload_n 0, 1) := by decide +kernel
theorem dR_prepare_84 : decode bR_prepare 84 = .ok (.getfield 42, 3) := by decide +kernel
theorem dR_prepare_87 : decode bR_prepare 87 = .ok (.if_icmp .ge 8, 3) := by decide +kernel
theorem dR_prepare_90 : decode bR_prepare 90 = .ok (.iload 4, 2) := by decide +kernel
theorem dR_prepare_92 : decode bR_prepare 92 = .ok (.goto 4, 3) := by decide +kernel
theorem dR_prepare_95 : decode bR_prepare 95 = .ok (.iconst 0, 1) := by decide +kernel
theorem dR_prepare_96 : decode bR_prepare 96 = .ok (.iastore, 1) := by decide +kernel
theorem dR_prepare_97 : decode bR_prepare 97 = .ok (.iload 4, 2) := by decide +kernel
theorem dR_prepare_99 : decode bR_prepare 99 = .ok (.aload_n 0, 1) := by decide +kernel
theorem dR_prepare_100 : decode bR_prepare 100 = .ok (.getfield 51, 3) := by decide +kernel
theorem dR_prepare_103 : decode bR_prepare 103 = .ok (.iconst 1, 1) := by decide +kernel
theorem dR_prepare_104 : decode bR_prepare 104 = .ok (.iadd, 1) := by decide +kernel
theorem dR_prepare_105 : decode bR_prepare 105 = .ok (.imul, 1) := by decide +kernel
theorem dR_prepare_106 : decode bR_prepare 106 = .ok (.istore 4, 2) := by decide +kernel
theorem dR_prepare_108 : decode bR_prepare 108 = .ok (.iinc 5 1, 3) := by decide +kernel
theorem dR_prepare_111 : decode bR_prepare 111 = .ok (.goto (-42), 3) := by decide +kernel
theorem dR_prepare_114 : decode bR_prepare 114 = .ok (.aload_n 0, 1) := by decide +kernel
theorem dR_prepare_115 : decode bR_prepare 115 = .ok (.getfield 51, 3) := by decide +kernel
theorem dR_prepare_118 : decode bR_prepare 118 = .ok (.istore 5, 2) := by decide +kernel
theorem dR_prepare_120 : decode bR_prepare 120 = .ok (.iload 5, 2) := by decide +kernel
theorem dR_prepare_122 : decode bR_prepare 122 = .ok (.ifCond .lt 18, 3) := by decide +kernel
theorem dR_prepare_125 : decode bR_prepare 125 = .ok (.aload_n 0, 1) := by decide +kernel
theorem dR_prepare_126 : decode bR_prepare 126 = .ok (.iconst 0, 1) := by decide +kernel
theorem dR_prepare_127 : decode bR_prepare 127 = .ok (.iload 5, 2) := by decide +kernel
theorem dR_prepare_129 : decode bR_prepare 129 = .ok (.iload 5, 2) := by decide +kernel
theorem dR_prepare_131 : decode bR_prepare 131 = .ok (.invokevirtual 63, 3) := by decide +kernel
theorem dR_prepare_134 : decode bR_prepare 134 = .ok (.iinc 5 (-1), 3) := by decide +kernel
theorem dR_prepare_137 : decode bR_prepare 137 = .ok (.goto (-17), 3) := by decide +kernel
theorem dR_prepare_140 : decode bR_prepare 140 = .ok (.return_, 1) := by decide +kernel
theorem dR_listMonomials_0 : decode bR_listMonomials 0 = .ok (.iload_n 1, 1) := by decide +kernel
theorem dR_listMonomials_1 : decode bR_listMonomials 1 = .ok (.ifCond .lt 11, 3) := by decide +kernel
theorem dR_listMonomials_4 : decode bR_listMonomials 4 = .ok (.iload_n 1, 1) := by decide +kernel
theorem dR_listMonomials_5 : decode bR_listMonomials 5 = .ok (.aload_n 0, 1) := by decide +kernel
theorem dR_listMonomials_6 : decode bR_listMonomials 6 = .ok (.getfield 42, 3) := by decide +kernel
theorem dR_listMonomials_9 : decode bR_listMonomials 9 = .ok (.if_icmp .lt 4, 3) := by decide +kernel
theorem dR_listMonomials_12 : decode bR_listMonomials 12 = .ok (.return_, 1) := by decide +kernel
theorem dR_listMonomials_13 : decode bR_listMonomials 13 = .ok (.aload_n 0, 1) := by decide +kernel
theorem dR_listMonomials_14 : decode bR_listMonomials 14 = .ok (.getfield 45, 3) := by decide +kernel
theorem dR_listMonomials_17 : decode bR_listMonomials 17 = .ok (.iconst 1, 1) := by decide +kernel
theorem dR_listMonomials_18 : decode bR_listMonomials 18 = .ok (.if_icmp .ne 7, 3) := by decide +kernel
theorem dR_listMonomials_21 : decode bR_listMonomials 21 = .ok (.iload_n 1, 1) := by decide +kernel
theorem dR_listMonomials_22 : decode bR_listMonomials 22 = .ok (.goto 11, 3) := by decide +kernel
theorem dR_listMonomials_25 : decode bR_listMonomials 25 = .ok (.aload_n 0, 1) := by decide +kernel
theorem dR_listMonomials_26 : decode bR_listMonomials 26 = .ok (.getfield 42, 3) := by decide +kernel
theorem dR_listMonomials_29 : decode bR_listMonomials 29 = .ok (.iconst 1, 1) := by decide +kernel
theorem dR_listMonomials_30 : decode bR_listMonomials 30 = .ok (.isub, 1) := by decide +kernel
theorem dR_listMonomials_31 : decode bR_listMonomials 31 = .ok (.iload_n 1, 1) := by decide +kernel
theorem dR_listMonomials_32 : decode bR_listMonomials 32 = .ok (.isub, 1) := by decide +kernel
theorem dR_listMonomials_33 : decode bR_listMonomials 33 = .ok (.istore 4, 2) := by decide +kernel
theorem dR_listMonomials_35 : decode bR_listMonomials 35 = .ok (.iload_n 1, 1) := by decide +kernel
theorem dR_listMonomials_36 : decode bR_listMonomials 36 = .ok (.aload_n 0, 1) := by decide +kernel
theorem dR_listMonomials_37 : decode bR_listMonomials 37 = .ok (.getfield 42, 3) := by decide +kernel
theorem dR_listMonomials_40 : decode bR_listMonomials 40 = .ok (.iconst 1, 1) := by decide +kernel
theorem dR_listMonomials_41 : decode bR_listMonomials 41 = .ok (.isub, 1) := by decide +kernel
theorem dR_listMonomials_42 : decode bR_listMonomials 42 = .ok (.if_icmp .ne 17, 3) := by decide +kernel
theorem dR_listMonomials_45 : decode bR_listMonomials 45 = .ok (.aload_n 0, 1) := by decide +kernel
theorem dR_listMonomials_46 : decode bR_listMonomials 46 = .ok (.getfield 29, 3) := by decide +kernel
theorem dR_listMonomials_49 : decode bR_listMonomials 49 = .ok (.iload 4, 2) := by decide +kernel
theorem dR_listMonomials_51 : decode bR_listMonomials 51 = .ok (.iload_n 2, 1) := by decide +kernel
theorem dR_listMonomials_52 : decode bR_listMonomials 52 = .ok (.iastore, 1) := by decide +kernel
theorem dR_listMonomials_53 : decode bR_listMonomials 53 = .ok (.aload_n 0, 1) := by decide +kernel
theorem dR_listMonomials_54 : decode bR_listMonomials 54 = .ok (.iload_n 3, 1) := by decide +kernel
theorem dR_listMonomials_55 : decode bR_listMonomials 55 = .ok (.invokevirtual 67, 3) := by decide +kernel
theorem dR_listMonomials_58 : decode bR_listMonomials 58 = .ok (.return_, 1) := by decide +kernel
theorem dR_listMonomials_59 : decode bR_listMonomials 59 = .ok (.iconst 0, 1) := by decide +kernel
theorem dR_listMonomials_60 : decode bR_listMonomials 60 = .ok (.istore 5, 2) := by decide +kernel
theorem dR_listMonomials_62 : decode bR_listMonomials 62 = .ok (.iload 5, 2) := by decide +kernel
theorem dR_listMonomials_64 : decode bR_listMonomials 64 = .ok (.iload_n 2, 1) := by decide +kernel
theorem dR_listMonomials_65 : decode bR_listMonomials 65 = .ok (.if_icmp .gt 49, 3) := by decide +kernel
theorem dR_listMonomials_68 : decode bR_listMonomials 68 = .ok (.aload_n 0, 1) := by decide +kernel
theorem dR_listMonomials_69 : decode bR_listMonomials 69 = .ok (.getfield 45, 3) := by decide +kernel
theorem dR_listMonomials_72 : decode bR_listMonomials 72 = .ok (.iconst 1, 1) := by decide +kernel
theorem dR_listMonomials_73 : decode bR_listMonomials 73 = .ok (.if_icmp .ne 10, 3) := by decide +kernel
theorem dR_listMonomials_76 : decode bR_listMonomials 76 = .ok (.iload_n 2, 1) := by decide +kernel
theorem dR_listMonomials_77 : decode bR_listMonomials 77 = .ok (.iload 5, 2) := by decide +kernel
theorem dR_listMonomials_79 : decode bR_listMonomials 79 = .ok (.isub, 1) := by decide +kernel
theorem dR_listMonomials_80 : decode bR_listMonomials 80 = .ok (.goto 5, 3) := by decide +kernel
theorem dR_listMonomials_83 : decode bR_listMonomials 83 = .ok (.iload 5, 2) := by decide +kernel
theorem dR_listMonomials_85 : decode bR_listMonomials 85 = .ok (.istore 6, 2) := by decide +kernel
theorem dR_listMonomials_87 : decode bR_listMonomials 87 = .ok (.aload_n 0, 1) := by decide +kernel
theorem dR_listMonomials_88 : decode bR_listMonomials 88 = .ok (.getfield 29, 3) := by decide +kernel
theorem dR_listMonomials_91 : decode bR_listMonomials 91 = .ok (.iload 4, 2) := by decide +kernel
theorem dR_listMonomials_93 : decode bR_listMonomials 93 = .ok (.iload 6, 2) := by decide +kernel
theorem dR_listMonomials_95 : decode bR_listMonomials 95 = .ok (.iastore, 1) := by decide +kernel
theorem dR_listMonomials_96 : decode bR_listMonomials 96 = .ok (.aload_n 0, 1) := by decide +kernel
theorem dR_listMonomials_97 : decode bR_listMonomials 97 = .ok (.iload_n 1, 1) := by decide +kernel
theorem dR_listMonomials_98 : decode bR_listMonomials 98 = .ok (.iconst 1, 1) := by decide +kernel
theorem dR_listMonomials_99 : decode bR_listMonomials 99 = .ok (.iadd, 1) := by decide +kernel
theorem dR_listMonomials_100 : decode bR_listMonomials 100 = .ok (.iload_n 2, 1) := by decide +kernel
theorem dR_listMonomials_101 : decode bR_listMonomials 101 = .ok (.iload 6, 2) := by decide +kernel
theorem dR_listMonomials_103 : decode bR_listMonomials 103 = .ok (.isub, 1) := by decide +kernel
theorem dR_listMonomials_104 : decode bR_listMonomials 104 = .ok (.iload_n 3, 1) := by decide +kernel
theorem dR_listMonomials_105 : decode bR_listMonomials 105 = .ok (.invokevirtual 63, 3) := by decide +kernel
theorem dR_listMonomials_108 : decode bR_listMonomials 108 = .ok (.iinc 5 1, 3) := by decide +kernel
theorem dR_listMonomials_111 : decode bR_listMonomials 111 = .ok (.goto (-49), 3) := by decide +kernel
theorem dR_listMonomials_114 : decode bR_listMonomials 114 = .ok (.return_, 1) := by decide +kernel
theorem dR_recordMonomial_0 : decode bR_recordMonomial 0 = .ok (.aload_n 0, 1) := by decide +kernel
theorem dR_recordMonomial_1 : decode bR_recordMonomial 1 = .ok (.getfield 54, 3) := by decide +kernel
theorem dR_recordMonomial_4 : decode bR_recordMonomial 4 = .ok (.bipush 126, 2) := by decide +kernel
theorem dR_recordMonomial_6 : decode bR_recordMonomial 6 = .ok (.if_icmp .lt 4, 3) := by decide +kernel
theorem dR_recordMonomial_9 : decode bR_recordMonomial 9 = .ok (.return_, 1) := by decide +kernel
theorem dR_recordMonomial_10 : decode bR_recordMonomial 10 = .ok (.iconst 0, 1) := by decide +kernel
theorem dR_recordMonomial_11 : decode bR_recordMonomial 11 = .ok (.istore_n 2, 1) := by decide +kernel
theorem dR_recordMonomial_12 : decode bR_recordMonomial 12 = .ok (.iconst 0, 1) := by decide +kernel
theorem dR_recordMonomial_13 : decode bR_recordMonomial 13 = .ok (.istore_n 3, 1) := by decide +kernel
theorem dR_recordMonomial_14 : decode bR_recordMonomial 14 = .ok (.iload_n 3, 1) := by decide +kernel
theorem dR_recordMonomial_15 : decode bR_recordMonomial 15 = .ok (.iconst 4, 1) := by decide +kernel
theorem dR_recordMonomial_16 : decode bR_recordMonomial 16 = .ok (.if_icmp .ge 42, 3) := by decide +kernel
theorem dR_recordMonomial_19 : decode bR_recordMonomial 19 = .ok (.aload_n 0, 1) := by decide +kernel
theorem dR_recordMonomial_20 : decode bR_recordMonomial 20 = .ok (.getfield 13, 3) := by decide +kernel
theorem dR_recordMonomial_23 : decode bR_recordMonomial 23 = .ok (.iload_n 3, 1) := by decide +kernel
theorem dR_recordMonomial_24 : decode bR_recordMonomial 24 = .ok (.aaload, 1) := by decide +kernel
theorem dR_recordMonomial_25 : decode bR_recordMonomial 25 = .ok (.aload_n 0, 1) := by decide +kernel
theorem dR_recordMonomial_26 : decode bR_recordMonomial 26 = .ok (.getfield 54, 3) := by decide +kernel
theorem dR_recordMonomial_29 : decode bR_recordMonomial 29 = .ok (.aload_n 0, 1) := by decide +kernel
theorem dR_recordMonomial_30 : decode bR_recordMonomial 30 = .ok (.getfield 29, 3) := by decide +kernel
theorem dR_recordMonomial_33 : decode bR_recordMonomial 33 = .ok (.iload_n 3, 1) := by decide +kernel
theorem dR_recordMonomial_34 : decode bR_recordMonomial 34 = .ok (.iaload, 1) := by decide +kernel
theorem dR_recordMonomial_35 : decode bR_recordMonomial 35 = .ok (.iastore, 1) := by decide +kernel
theorem dR_recordMonomial_36 : decode bR_recordMonomial 36 = .ok (.iload_n 2, 1) := by decide +kernel
theorem dR_recordMonomial_37 : decode bR_recordMonomial 37 = .ok (.aload_n 0, 1) := by decide +kernel
theorem dR_recordMonomial_38 : decode bR_recordMonomial 38 = .ok (.getfield 29, 3) := by decide +kernel
theorem dR_recordMonomial_41 : decode bR_recordMonomial 41 = .ok (.iload_n 3, 1) := by decide +kernel
theorem dR_recordMonomial_42 : decode bR_recordMonomial 42 = .ok (.iaload, 1) := by decide +kernel
theorem dR_recordMonomial_43 : decode bR_recordMonomial 43 = .ok (.aload_n 0, 1) := by decide +kernel
theorem dR_recordMonomial_44 : decode bR_recordMonomial 44 = .ok (.getfield 23, 3) := by decide +kernel
theorem dR_recordMonomial_47 : decode bR_recordMonomial 47 = .ok (.iload_n 3, 1) := by decide +kernel
theorem dR_recordMonomial_48 : decode bR_recordMonomial 48 = .ok (.iaload, 1) := by decide +kernel
theorem dR_recordMonomial_49 : decode bR_recordMonomial 49 = .ok (.imul, 1) := by decide +kernel
theorem dR_recordMonomial_50 : decode bR_recordMonomial 50 = .ok (.iadd, 1) := by decide +kernel
theorem dR_recordMonomial_51 : decode bR_recordMonomial 51 = .ok (.istore_n 2, 1) := by decide +kernel
theorem dR_recordMonomial_52 : decode bR_recordMonomial 52 = .ok (.iinc 3 1, 3) := by decide +kernel
theorem dR_recordMonomial_55 : decode bR_recordMonomial 55 = .ok (.goto (-41), 3) := by decide +kernel
theorem dR_recordMonomial_58 : decode bR_recordMonomial 58 = .ok (.aload_n 0, 1) := by decide +kernel
theorem dR_recordMonomial_59 : decode bR_recordMonomial 59 = .ok (.getfield 16, 3) := by decide +kernel
theorem dR_recordMonomial_62 : decode bR_recordMonomial 62 = .ok (.aload_n 0, 1) := by decide +kernel
theorem dR_recordMonomial_63 : decode bR_recordMonomial 63 = .ok (.getfield 54, 3) := by decide +kernel
theorem dR_recordMonomial_66 : decode bR_recordMonomial 66 = .ok (.iload_n 1, 1) := by decide +kernel
theorem dR_recordMonomial_67 : decode bR_recordMonomial 67 = .ok (.iastore, 1) := by decide +kernel
theorem dR_recordMonomial_68 : decode bR_recordMonomial 68 = .ok (.aload_n 0, 1) := by decide +kernel
theorem dR_recordMonomial_69 : decode bR_recordMonomial 69 = .ok (.getfield 20, 3) := by decide +kernel
theorem dR_recordMonomial_72 : decode bR_recordMonomial 72 = .ok (.aload_n 0, 1) := by decide +kernel
theorem dR_recordMonomial_73 : decode bR_recordMonomial 73 = .ok (.getfield 54, 3) := by decide +kernel
theorem dR_recordMonomial_76 : decode bR_recordMonomial 76 = .ok (.iload_n 2, 1) := by decide +kernel
theorem dR_recordMonomial_77 : decode bR_recordMonomial 77 = .ok (.iastore, 1) := by decide +kernel
theorem dR_recordMonomial_78 : decode bR_recordMonomial 78 = .ok (.iload_n 2, 1) := by decide +kernel
theorem dR_recordMonomial_79 : decode bR_recordMonomial 79 = .ok (.ifCond .lt 20, 3) := by decide +kernel
theorem dR_recordMonomial_82 : decode bR_recordMonomial 82 = .ok (.iload_n 2, 1) := by decide +kernel
theorem dR_recordMonomial_83 : decode bR_recordMonomial 83 = .ok (.sipush 1296, 3) := by decide +kernel
theorem dR_recordMonomial_86 : decode bR_recordMonomial 86 = .ok (.if_icmp .ge 13, 3) := by decide +kernel
theorem dR_recordMonomial_89 : decode bR_recordMonomial 89 = .ok (.aload_n 0, 1) := by decide +kernel
theorem dR_recordMonomial_90 : decode bR_recordMonomial 90 = .ok (.getfield 26, 3) := by decide +kernel
theorem dR_recordMonomial_93 : decode bR_recordMonomial 93 = .ok (.iload_n 2, 1) := by decide +kernel
theorem dR_recordMonomial_94 : decode bR_recordMonomial 94 = .ok (.aload_n 0, 1) := by decide +kernel
theorem dR_recordMonomial_95 : decode bR_recordMonomial 95 = .ok (.getfield 54, 3) := by decide +kernel
theorem dR_recordMonomial_98 : decode bR_recordMonomial 98 = .ok (.iastore, 1) := by decide +kernel
theorem dR_recordMonomial_99 : decode bR_recordMonomial 99 = .ok (.aload_n 0, 1) := by decide +kernel
theorem dR_recordMonomial_100 : decode bR_recordMonomial 100 = .ok (.dup, 1) := by decide +kernel
theorem dR_recordMonomial_101 : decode bR_recordMonomial 101 = .ok (.getfield 54, 3) := by decide +kernel
theorem dR_recordMonomial_104 : decode bR_recordMonomial 104 = .ok (.iconst 1, 1) := by decide +kernel
theorem dR_recordMonomial_105 : decode bR_recordMonomial 105 = .ok (.iadd, 1) := by decide +kernel
theorem dR_recordMonomial_106 : decode bR_recordMonomial 106 = .ok (.putfield 54, 3) := by decide +kernel
theorem dR_recordMonomial_109 : decode bR_recordMonomial 109 = .ok (.return_, 1) := by decide +kernel
theorem dR_variables_0 : decode bR_variables 0 = .ok (.aload_n 0, 1) := by decide +kernel
theorem dR_variables_1 : decode bR_variables 1 = .ok (.getfield 42, 3) := by decide +kernel
theorem dR_variables_4 : decode bR_variables 4 = .ok (.ireturn, 1) := by decide +kernel
theorem dR_exponentOf_0 : decode bR_exponentOf 0 = .ok (.iload_n 1, 1) := by decide +kernel
theorem dR_exponentOf_1 : decode bR_exponentOf 1 = .ok (.ifCond .lt 20, 3) := by decide +kernel
theorem dR_exponentOf_4 : decode bR_exponentOf 4 = .ok (.iload_n 1, 1) := by decide +kernel
theorem dR_exponentOf_5 : decode bR_exponentOf 5 = .ok (.aload_n 0, 1) := by decide +kernel
theorem dR_exponentOf_6 : decode bR_exponentOf 6 = .ok (.getfield 54, 3) := by decide +kernel
theorem dR_exponentOf_9 : decode bR_exponentOf 9 = .ok (.if_icmp .ge 12, 3) := by decide +kernel
theorem dR_exponentOf_12 : decode bR_exponentOf 12 = .ok (.iload_n 2, 1) := by decide +kernel
theorem dR_exponentOf_13 : decode bR_exponentOf 13 = .ok (.ifCond .lt 8, 3) := by decide +kernel
theorem dR_exponentOf_16 : decode bR_exponentOf 16 = .ok (.iload_n 2, 1) := by decide +kernel
theorem dR_exponentOf_17 : decode bR_exponentOf 17 = .ok (.iconst 4, 1) := by decide +kernel
theorem dR_exponentOf_18 : decode bR_exponentOf 18 = .ok (.if_icmp .lt 5, 3) := by decide +kernel
theorem dR_exponentOf_21 : decode bR_exponentOf 21 = .ok (.iconst 0, 1) := by decide +kernel
theorem dR_exponentOf_22 : decode bR_exponentOf 22 = .ok (.ireturn, 1) := by decide +kernel
theorem dR_exponentOf_23 : decode bR_exponentOf 23 = .ok (.aload_n 0, 1) := by decide +kernel
theorem dR_exponentOf_24 : decode bR_exponentOf 24 = .ok (.getfield 13, 3) := by decide +kernel
theorem dR_exponentOf_27 : decode bR_exponentOf 27 = .ok (.iload_n 2, 1) := by decide +kernel
theorem dR_exponentOf_28 : decode bR_exponentOf 28 = .ok (.aaload, 1) := by decide +kernel
theorem dR_exponentOf_29 : decode bR_exponentOf 29 = .ok (.iload_n 1, 1) := by decide +kernel
theorem dR_exponentOf_30 : decode bR_exponentOf 30 = .ok (.iaload, 1) := by decide +kernel
theorem dR_exponentOf_31 : decode bR_exponentOf 31 = .ok (.ireturn, 1) := by decide +kernel
theorem dR_countTerms_0 : decode bR_countTerms 0 = .ok (.iconst 0, 1) := by decide +kernel
theorem dR_countTerms_1 : decode bR_countTerms 1 = .ok (.istore_n 2, 1) := by decide +kernel
theorem dR_countTerms_2 : decode bR_countTerms 2 = .ok (.iconst 0, 1) := by decide +kernel
theorem dR_countTerms_3 : decode bR_countTerms 3 = .ok (.istore_n 3, 1) := by decide +kernel
theorem dR_countTerms_4 : decode bR_countTerms 4 = .ok (.iload_n 3, 1) := by decide +kernel
theorem dR_countTerms_5 : decode bR_countTerms 5 = .ok (.aload_n 0, 1) := by decide +kernel
theorem dR_countTerms_6 : decode bR_countTerms 6 = .ok (.getfield 54, 3) := by decide +kernel
theorem dR_countTerms_9 : decode bR_countTerms 9 = .ok (.if_icmp .ge 18, 3) := by decide +kernel
theorem dR_countTerms_12 : decode bR_countTerms 12 = .ok (.aload_n 1, 1) := by decide +kernel
theorem dR_countTerms_13 : decode bR_countTerms 13 = .ok (.iload_n 3, 1) := by decide +kernel
theorem dR_countTerms_14 : decode bR_countTerms 14 = .ok (.iaload, 1) := by decide +kernel
theorem dR_countTerms_15 : decode bR_countTerms 15 = .ok (.ifCond .eq 6, 3) := by decide +kernel
theorem dR_countTerms_18 : decode bR_countTerms 18 = .ok (.iinc 2 1, 3) := by decide +kernel
theorem dR_countTerms_21 : decode bR_countTerms 21 = .ok (.iinc 3 1, 3) := by decide +kernel
theorem dR_countTerms_24 : decode bR_countTerms 24 = .ok (.goto (-20), 3) := by decide +kernel
theorem dR_countTerms_27 : decode bR_countTerms 27 = .ok (.iload_n 2, 1) := by decide +kernel
theorem dR_countTerms_28 : decode bR_countTerms 28 = .ok (.ireturn, 1) := by decide +kernel
theorem dR_indexOfTerm_0 : decode bR_indexOfTerm 0 = .ok (.iconst 0, 1) := by decide +kernel
theorem dR_indexOfTerm_1 : decode bR_indexOfTerm 1 = .ok (.istore_n 3, 1) := by decide +kernel
theorem dR_indexOfTerm_2 : decode bR_indexOfTerm 2 = .ok (.iconst 0, 1) := by decide +kernel
theorem dR_indexOfTerm_3 : decode bR_indexOfTerm 3 = .ok (.istore 4, 2) := by decide +kernel
theorem dR_indexOfTerm_5 : decode bR_indexOfTerm 5 = .ok (.iload 4, 2) := by decide +kernel
theorem dR_indexOfTerm_7 : decode bR_indexOfTerm 7 = .ok (.aload_n 0, 1) := by decide +kernel
theorem dR_indexOfTerm_8 : decode bR_indexOfTerm 8 = .ok (.getfield 54, 3) := by decide +kernel
theorem dR_indexOfTerm_11 : decode bR_indexOfTerm 11 = .ok (.if_icmp .ge 27, 3) := by decide +kernel
theorem dR_indexOfTerm_14 : decode bR_indexOfTerm 14 = .ok (.aload_n 1, 1) := by decide +kernel
theorem dR_indexOfTerm_15 : decode bR_indexOfTerm 15 = .ok (.iload 4, 2) := by decide +kernel
theorem dR_indexOfTerm_17 : decode bR_indexOfTerm 17 = .ok (.iaload, 1) := by decide +kernel
theorem dR_indexOfTerm_18 : decode bR_indexOfTerm 18 = .ok (.ifCond .eq 14, 3) := by decide +kernel
theorem dR_indexOfTerm_21 : decode bR_indexOfTerm 21 = .ok (.iload_n 3, 1) := by decide +kernel
theorem dR_indexOfTerm_22 : decode bR_indexOfTerm 22 = .ok (.iload_n 2, 1) := by decide +kernel
theorem dR_indexOfTerm_23 : decode bR_indexOfTerm 23 = .ok (.if_icmp .ne 6, 3) := by decide +kernel
theorem dR_indexOfTerm_26 : decode bR_indexOfTerm 26 = .ok (.iload 4, 2) := by decide +kernel
theorem dR_indexOfTerm_28 : decode bR_indexOfTerm 28 = .ok (.ireturn, 1) := by decide +kernel
theorem dR_indexOfTerm_29 : decode bR_indexOfTerm 29 = .ok (.iinc 3 1, 3) := by decide +kernel
theorem dR_indexOfTerm_32 : decode bR_indexOfTerm 32 = .ok (.iinc 4 1, 3) := by decide +kernel
theorem dR_indexOfTerm_35 : decode bR_indexOfTerm 35 = .ok (.goto (-30), 3) := by decide +kernel
theorem dR_indexOfTerm_38 : decode bR_indexOfTerm 38 = .ok (.iconst (-1), 1) := by decide +kernel
theorem dR_indexOfTerm_39 : decode bR_indexOfTerm 39 = .ok (.ireturn, 1) := by decide +kernel
theorem dR_degreeOf_0 : decode bR_degreeOf 0 = .ok (.aload_n 0, 1) := by decide +kernel
theorem dR_degreeOf_1 : decode bR_degreeOf 1 = .ok (.aload_n 1, 1) := by decide +kernel
theorem dR_degreeOf_2 : decode bR_degreeOf 2 = .ok (.invokevirtual 71, 3) := by decide +kernel
theorem dR_degreeOf_5 : decode bR_degreeOf 5 = .ok (.istore_n 2, 1) := by decide +kernel
theorem dR_degreeOf_6 : decode bR_degreeOf 6 = .ok (.iload_n 2, 1) := by decide +kernel
theorem dR_degreeOf_7 : decode bR_degreeOf 7 = .ok (.aload_n 0, 1) := by decide +kernel
theorem dR_degreeOf_8 : decode bR_degreeOf 8 = .ok (.getfield 54, 3) := by decide +kernel
theorem dR_degreeOf_11 : decode bR_degreeOf 11 = .ok (.if_icmp .ge 12, 3) := by decide +kernel
theorem dR_degreeOf_14 : decode bR_degreeOf 14 = .ok (.aload_n 0, 1) := by decide +kernel
theorem dR_degreeOf_15 : decode bR_degreeOf 15 = .ok (.getfield 16, 3) := by decide +kernel
theorem dR_degreeOf_18 : decode bR_degreeOf 18 = .ok (.iload_n 2, 1) := by decide +kernel
theorem dR_degreeOf_19 : decode bR_degreeOf 19 = .ok (.iaload, 1) := by decide +kernel
theorem dR_degreeOf_20 : decode bR_degreeOf 20 = .ok (.goto 4, 3) := by decide +kernel
theorem dR_degreeOf_23 : decode bR_degreeOf 23 = .ok (.iconst (-1), 1) := by decide +kernel
theorem dR_degreeOf_24 : decode bR_degreeOf 24 = .ok (.ireturn, 1) := by decide +kernel
theorem dJ_fill_0 : decode bJ_fill 0 = .ok (.iconst 0, 1) := by decide +kernel
theorem dJ_fill_1 : decode bJ_fill 1 = .ok (.istore_n 2, 1) := by decide +kernel
theorem dJ_fill_2 : decode bJ_fill 2 = .ok (.aload_n 0, 1) := by decide +kernel
theorem dJ_fill_3 : decode bJ_fill 3 = .ok (.arraylength, 1) := by decide +kernel
theorem dJ_fill_4 : decode bJ_fill 4 = .ok (.istore_n 3, 1) := by decide +kernel
theorem dJ_fill_5 : decode bJ_fill 5 = .ok (.iload_n 2, 1) := by decide +kernel
theorem dJ_fill_6 : decode bJ_fill 6 = .ok (.iload_n 3, 1) := by decide +kernel
theorem dJ_fill_7 : decode bJ_fill 7 = .ok (.if_icmp .ge 13, 3) := by decide +kernel
theorem dJ_fill_10 : decode bJ_fill 10 = .ok (.aload_n 0, 1) := by decide +kernel
theorem dJ_fill_11 : decode bJ_fill 11 = .ok (.iload_n 2, 1) := by decide +kernel
theorem dJ_fill_12 : decode bJ_fill 12 = .ok (.iload_n 1, 1) := by decide +kernel
theorem dJ_fill_13 : decode bJ_fill 13 = .ok (.iastore, 1) := by decide +kernel
theorem dJ_fill_14 : decode bJ_fill 14 = .ok (.iinc 2 1, 3) := by decide +kernel
theorem dJ_fill_17 : decode bJ_fill 17 = .ok (.goto (-12), 3) := by decide +kernel
theorem dJ_fill_20 : decode bJ_fill 20 = .ok (.return_, 1) := by decide +kernel
end
section
/-! decode rows, by program -/
theorem dK_value_0 : decode bK_value 0 = .ok (.iload_n 1, 1) := by decide +kernel
theorem dK_value_1 : decode bK_value 1 = .ok (.invokestatic 73, 3) := by decide +kernel
theorem dK_value_4 : decode bK_value 4 = .ok (.aload_n 0, 1) := by decide +kernel
theorem dK_value_5 : decode bK_value 5 = .ok (.getfield 41, 3) := by decide +kernel
theorem dK_value_8 : decode bK_value 8 = .ok (.iconst 0, 1) := by decide +kernel
theorem dK_value_9 : decode bK_value 9 = .ok (.iload_n 2, 1) := by decide +kernel
theorem dK_value_10 : decode bK_value 10 = .ok (.iastore, 1) := by decide +kernel
theorem dK_value_11 : decode bK_value 11 = .ok (.aload_n 0, 1) := by decide +kernel
theorem dK_value_12 : decode bK_value 12 = .ok (.getfield 41, 3) := by decide +kernel
theorem dK_value_15 : decode bK_value 15 = .ok (.iconst 1, 1) := by decide +kernel
theorem dK_value_16 : decode bK_value 16 = .ok (.iload_n 3, 1) := by decide +kernel
theorem dK_value_17 : decode bK_value 17 = .ok (.iastore, 1) := by decide +kernel
theorem dK_value_18 : decode bK_value 18 = .ok (.aload_n 0, 1) := by decide +kernel
theorem dK_value_19 : decode bK_value 19 = .ok (.getfield 41, 3) := by decide +kernel
theorem dK_value_22 : decode bK_value 22 = .ok (.iconst 2, 1) := by decide +kernel
theorem dK_value_23 : decode bK_value 23 = .ok (.iload 4, 2) := by decide +kernel
theorem dK_value_25 : decode bK_value 25 = .ok (.iastore, 1) := by decide +kernel
theorem dK_value_26 : decode bK_value 26 = .ok (.aload_n 0, 1) := by decide +kernel
theorem dK_value_27 : decode bK_value 27 = .ok (.getfield 41, 3) := by decide +kernel
theorem dK_value_30 : decode bK_value 30 = .ok (.iconst 3, 1) := by decide +kernel
theorem dK_value_31 : decode bK_value 31 = .ok (.iload 5, 2) := by decide +kernel
theorem dK_value_33 : decode bK_value 33 = .ok (.iastore, 1) := by decide +kernel
theorem dK_value_34 : decode bK_value 34 = .ok (.aload_n 0, 1) := by decide +kernel
theorem dK_value_35 : decode bK_value 35 = .ok (.getfield 10, 3) := by decide +kernel
theorem dK_value_38 : decode bK_value 38 = .ok (.aload_n 0, 1) := by decide +kernel
theorem dK_value_39 : decode bK_value 39 = .ok (.getfield 38, 3) := by decide +kernel
theorem dK_value_42 : decode bK_value 42 = .ok (.iload_n 1, 1) := by decide +kernel
theorem dK_value_43 : decode bK_value 43 = .ok (.aaload, 1) := by decide +kernel
theorem dK_value_44 : decode bK_value 44 = .ok (.aload_n 0, 1) := by decide +kernel
theorem dK_value_45 : decode bK_value 45 = .ok (.getfield 41, 3) := by decide +kernel
theorem dK_value_48 : decode bK_value 48 = .ok (.invokevirtual 122, 3) := by decide +kernel
theorem dK_value_51 : decode bK_value 51 = .ok (.ireturn, 1) := by decide +kernel
theorem dK_about_0 : decode bK_about 0 = .ok (.iload_n 1, 1) := by decide +kernel
theorem dK_about_1 : decode bK_about 1 = .ok (.invokestatic 126, 3) := by decide +kernel
theorem dK_about_4 : decode bK_about 4 = .ok (.ifCond .ne 5, 3) := by decide +kernel
theorem dK_about_7 : decode bK_about 7 = .ok (.iconst (-1), 1) := by decide +kernel
theorem dK_about_8 : decode bK_about 8 = .ok (.ireturn, 1) := by decide +kernel
theorem dK_about_9 : decode bK_about 9 = .ok (.iload_n 2, 1) := by decide +kernel
theorem dK_about_10 : decode bK_about 10 = .ok (.ifCond .ne 17, 3) := by decide +kernel
theorem dK_about_13 : decode bK_about 13 = .ok (.aload_n 0, 1) := by decide +kernel
theorem dK_about_14 : decode bK_about 14 = .ok (.getfield 10, 3) := by decide +kernel
theorem dK_about_17 : decode bK_about 17 = .ok (.aload_n 0, 1) := by decide +kernel
theorem dK_about_18 : decode bK_about 18 = .ok (.getfield 38, 3) := by decide +kernel
theorem dK_about_21 : decode bK_about 21 = .ok (.iload_n 1, 1) := by decide +kernel
theorem dK_about_22 : decode bK_about 22 = .ok (.aaload, 1) := by decide +kernel
theorem dK_about_23 : decode bK_about 23 = .ok (.invokevirtual 83, 3) := by decide +kernel
theorem dK_about_26 : decode bK_about 26 = .ok (.ireturn, 1) := by decide +kernel
theorem dK_about_27 : decode bK_about 27 = .ok (.iload_n 2, 1) := by decide +kernel
theorem dK_about_28 : decode bK_about 28 = .ok (.iconst 1, 1) := by decide +kernel
theorem dK_about_29 : decode bK_about 29 = .ok (.if_icmp .ne 19, 3) := by decide +kernel
theorem dK_about_32 : decode bK_about 32 = .ok (.aload_n 0, 1) := by decide +kernel
theorem dK_about_33 : decode bK_about 33 = .ok (.getfield 10, 3) := by decide +kernel
theorem dK_about_36 : decode bK_about 36 = .ok (.aload_n 0, 1) := by decide +kernel
theorem dK_about_37 : decode bK_about 37 = .ok (.getfield 38, 3) := by decide +kernel
theorem dK_about_40 : decode bK_about 40 = .ok (.iload_n 1, 1) := by decide +kernel
theorem dK_about_41 : decode bK_about 41 = .ok (.aaload, 1) := by decide +kernel
theorem dK_about_42 : decode bK_about 42 = .ok (.invokevirtual 129, 3) := by decide +kernel
theorem dK_about_45 : decode bK_about 45 = .ok (.goto 4, 3) := by decide +kernel
theorem dK_about_48 : decode bK_about 48 = .ok (.iconst (-1), 1) := by decide +kernel
theorem dK_about_49 : decode bK_about 49 = .ok (.ireturn, 1) := by decide +kernel
theorem dK_term_0 : decode bK_term 0 = .ok (.iload_n 1, 1) := by decide +kernel
theorem dK_term_1 : decode bK_term 1 = .ok (.invokestatic 126, 3) := by decide +kernel
theorem dK_term_4 : decode bK_term 4 = .ok (.ifCond .eq 12, 3) := by decide +kernel
theorem dK_term_7 : decode bK_term 7 = .ok (.iload_n 3, 1) := by decide +kernel
theorem dK_term_8 : decode bK_term 8 = .ok (.ifCond .lt 8, 3) := by decide +kernel
theorem dK_term_11 : decode bK_term 11 = .ok (.iload_n 3, 1) := by decide +kernel
theorem dK_term_12 : decode bK_term 12 = .ok (.iconst 4, 1) := by decide +kernel
theorem dK_term_13 : decode bK_term 13 = .ok (.if_icmp .le 5, 3) := by decide +kernel
theorem dK_term_16 : decode bK_term 16 = .ok (.iconst (-1), 1) := by decide +kernel
theorem dK_term_17 : decode bK_term 17 = .ok (.ireturn, 1) := by decide +kernel
theorem dK_term_18 : decode bK_term 18 = .ok (.aload_n 0, 1) := by decide +kernel
theorem dK_term_19 : decode bK_term 19 = .ok (.getfield 10, 3) := by decide +kernel
theorem dK_term_22 : decode bK_term 22 = .ok (.aload_n 0, 1) := by decide +kernel
theorem dK_term_23 : decode bK_term 23 = .ok (.getfield 38, 3) := by decide +kernel
theorem dK_term_26 : decode bK_term 26 = .ok (.iload_n 1, 1) := by decide +kernel
theorem dK_term_27 : decode bK_term 27 = .ok (.aaload, 1) := by decide +kernel
theorem dK_term_28 : decode bK_term 28 = .ok (.iload_n 2, 1) := by decide +kernel
theorem dK_term_29 : decode bK_term 29 = .ok (.invokevirtual 132, 3) := by decide +kernel
theorem dK_term_32 : decode bK_term 32 = .ok (.istore 4, 2) := by decide +kernel
theorem dK_term_34 : decode bK_term 34 = .ok (.iload 4, 2) := by decide +kernel
theorem dK_term_36 : decode bK_term 36 = .ok (.ifCond .lt 10, 3) := by decide +kernel
theorem dK_term_39 : decode bK_term 39 = .ok (.iload 4, 2) := by decide +kernel
theorem dK_term_41 : decode bK_term 41 = .ok (.bipush 126, 2) := by decide +kernel
theorem dK_term_43 : decode bK_term 43 = .ok (.if_icmp .lt 5, 3) := by decide +kernel
theorem dK_term_46 : decode bK_term 46 = .ok (.iconst (-1), 1) := by decide +kernel
theorem dK_term_47 : decode bK_term 47 = .ok (.ireturn, 1) := by decide +kernel
theorem dK_term_48 : decode bK_term 48 = .ok (.iload_n 3, 1) := by decide +kernel
theorem dK_term_49 : decode bK_term 49 = .ok (.iconst 4, 1) := by decide +kernel
theorem dK_term_50 : decode bK_term 50 = .ok (.if_icmp .ne 15, 3) := by decide +kernel
theorem dK_term_53 : decode bK_term 53 = .ok (.aload_n 0, 1) := by decide +kernel
theorem dK_term_54 : decode bK_term 54 = .ok (.getfield 38, 3) := by decide +kernel
theorem dK_term_57 : decode bK_term 57 = .ok (.iload_n 1, 1) := by decide +kernel
theorem dK_term_58 : decode bK_term 58 = .ok (.aaload, 1) := by decide +kernel
theorem dK_term_59 : decode bK_term 59 = .ok (.iload 4, 2) := by decide +kernel
theorem dK_term_61 : decode bK_term 61 = .ok (.iaload, 1) := by decide +kernel
theorem dK_term_62 : decode bK_term 62 = .ok (.goto 13, 3) := by decide +kernel
theorem dK_term_65 : decode bK_term 65 = .ok (.aload_n 0, 1) := by decide +kernel
theorem dK_term_66 : decode bK_term 66 = .ok (.getfield 10, 3) := by decide +kernel
theorem dK_term_69 : decode bK_term 69 = .ok (.iload 4, 2) := by decide +kernel
theorem dK_term_71 : decode bK_term 71 = .ok (.iload_n 3, 1) := by decide +kernel
theorem dK_term_72 : decode bK_term 72 = .ok (.invokevirtual 136, 3) := by decide +kernel
theorem dK_term_75 : decode bK_term 75 = .ok (.ireturn, 1) := by decide +kernel
theorem dK_print_0 : decode bK_print 0 = .ok (.iload_n 1, 1) := by decide +kernel
theorem dK_print_1 : decode bK_print 1 = .ok (.invokestatic 73, 3) := by decide +kernel
theorem dK_print_4 : decode bK_print 4 = .ok (.aload_n 0, 1) := by decide +kernel
theorem dK_print_5 : decode bK_print 5 = .ok (.getfield 32, 3) := by decide +kernel
theorem dK_print_8 : decode bK_print 8 = .ok (.aload_n 0, 1) := by decide +kernel
theorem dK_print_9 : decode bK_print 9 = .ok (.getfield 38, 3) := by decide +kernel
theorem dK_print_12 : decode bK_print 12 = .ok (.iload_n 1, 1) := by decide +kernel
theorem dK_print_13 : decode bK_print 13 = .ok (.aaload, 1) := by decide +kernel
theorem dK_print_14 : decode bK_print 14 = .ok (.invokevirtual 140, 3) := by decide +kernel
theorem dK_print_17 : decode bK_print 17 = .ok (.ireturn, 1) := by decide +kernel
theorem dK_output_0 : decode bK_output 0 = .ok (.aload_n 0, 1) := by decide +kernel
theorem dK_output_1 : decode bK_output 1 = .ok (.getfield 32, 3) := by decide +kernel
theorem dK_output_4 : decode bK_output 4 = .ok (.iload_n 1, 1) := by decide +kernel
theorem dK_output_5 : decode bK_output 5 = .ok (.invokevirtual 143, 3) := by decide +kernel
theorem dK_output_8 : decode bK_output 8 = .ok (.ireturn, 1) := by decide +kernel
theorem dK_isPolynomial_0 : decode bK_isPolynomial 0 = .ok (.iload_n 0, 1) := by decide +kernel
theorem dK_isPolynomial_1 : decode bK_isPolynomial 1 = .ok (.ifCond .lt 13, 3) := by decide +kernel
theorem dK_isPolynomial_4 : decode bK_isPolynomial 4 = .ok (.iload_n 0, 1) := by decide +kernel
theorem dK_isPolynomial_5 : decode bK_isPolynomial 5 = .ok (.bipush 8, 2) := by decide +kernel
theorem dK_isPolynomial_7 : decode bK_isPolynomial 7 = .ok (.if_icmp .ge 7, 3) := by decide +kernel
theorem dK_isPolynomial_10 : decode bK_isPolynomial 10 = .ok (.iconst 1, 1) := by decide +kernel
theorem dK_isPolynomial_11 : decode bK_isPolynomial 11 = .ok (.goto 4, 3) := by decide +kernel
theorem dK_isPolynomial_14 : decode bK_isPolynomial 14 = .ok (.iconst 0, 1) := by decide +kernel
theorem dK_isPolynomial_15 : decode bK_isPolynomial 15 = .ok (.ireturn, 1) := by decide +kernel
theorem dK_requirePolynomial_0 : decode bK_requirePolynomial 0 = .ok (.iload_n 0, 1) := by decide +kernel
theorem dK_requirePolynomial_1 : decode bK_requirePolynomial 1 = .ok (.invokestatic 126, 3) := by decide +kernel
theorem dK_requirePolynomial_4 : decode bK_requirePolynomial 4 = .ok (.ifCond .ne 13, 3) := by decide +kernel
theorem dK_requirePolynomial_7 : decode bK_requirePolynomial 7 = .ok (.new 147, 3) := by decide +kernel
theorem dK_requirePolynomial_10 : decode bK_requirePolynomial 10 = .ok (.dup, 1) := by decide +kernel
theorem dK_requirePolynomial_11 : decode bK_requirePolynomial 11 = .ok (.ldc 149, 2) := by decide +kernel
theorem dK_requirePolynomial_13 : decode bK_requirePolynomial 13 = .ok (.invokespecial 151, 3) := by decide +kernel
theorem dK_requirePolynomial_16 : decode bK_requirePolynomial 16 = .ok (.athrow, 1) := by decide +kernel
theorem dK_requirePolynomial_17 : decode bK_requirePolynomial 17 = .ok (.return_, 1) := by decide +kernel
theorem dK_requireVariable_0 : decode bK_requireVariable 0 = .ok (.iload_n 1, 1) := by decide +kernel
theorem dK_requireVariable_1 : decode bK_requireVariable 1 = .ok (.ifCond .lt 14, 3) := by decide +kernel
theorem dK_requireVariable_4 : decode bK_requireVariable 4 = .ok (.iload_n 1, 1) := by decide +kernel
theorem dK_requireVariable_5 : decode bK_requireVariable 5 = .ok (.aload_n 0, 1) := by decide +kernel
theorem dK_requireVariable_6 : decode bK_requireVariable 6 = .ok (.getfield 10, 3) := by decide +kernel
theorem dK_requireVariable_9 : decode bK_requireVariable 9 = .ok (.invokevirtual 152, 3) := by decide +kernel
theorem dK_requireVariable_12 : decode bK_requireVariable 12 = .ok (.if_icmp .lt 13, 3) := by decide +kernel
theorem dK_requireVariable_15 : decode bK_requireVariable 15 = .ok (.new 147, 3) := by decide +kernel
theorem dK_requireVariable_18 : decode bK_requireVariable 18 = .ok (.dup, 1) := by decide +kernel
theorem dK_requireVariable_19 : decode bK_requireVariable 19 = .ok (.ldc 155, 2) := by decide +kernel
theorem dK_requireVariable_21 : decode bK_requireVariable 21 = .ok (.invokespecial 151, 3) := by decide +kernel
theorem dK_requireVariable_24 : decode bK_requireVariable 24 = .ok (.athrow, 1) := by decide +kernel
theorem dK_requireVariable_25 : decode bK_requireVariable 25 = .ok (.return_, 1) := by decide +kernel
theorem dK_isPrime_0 : decode bK_isPrime 0 = .ok (.iload_n 0, 1) := by decide +kernel
theorem dK_isPrime_1 : decode bK_isPrime 1 = .ok (.iconst 2, 1) := by decide +kernel
theorem dK_isPrime_2 : decode bK_isPrime 2 = .ok (.if_icmp .lt 10, 3) := by decide +kernel
theorem dK_isPrime_5 : decode bK_isPrime 5 = .ok (.iload_n 0, 1) := by decide +kernel
theorem dK_isPrime_6 : decode bK_isPrime 6 = .ok (.sipush 32003, 3) := by decide +kernel
theorem dK_isPrime_9 : decode bK_isPrime 9 = .ok (.if_icmp .le 5, 3) := by decide +kernel
theorem dK_isPrime_12 : decode bK_isPrime 12 = .ok (.iconst 0, 1) := by decide +kernel
theorem dK_isPrime_13 : decode bK_isPrime 13 = .ok (.ireturn, 1) := by decide +kernel
theorem dK_isPrime_14 : decode bK_isPrime 14 = .ok (.iconst 2, 1) := by decide +kernel
theorem dK_isPrime_15 : decode bK_isPrime 15 = .ok (.istore_n 1, 1) := by decide +kernel
theorem dK_isPrime_16 : decode bK_isPrime 16 = .ok (.iload_n 1, 1) := by decide +kernel
theorem dK_isPrime_17 : decode bK_isPrime 17 = .ok (.iload_n 1, 1) := by decide +kernel
theorem dK_isPrime_18 : decode bK_isPrime 18 = .ok (.imul, 1) := by decide +kernel
theorem dK_isPrime_19 : decode bK_isPrime 19 = .ok (.iload_n 0, 1) := by decide +kernel
theorem dK_isPrime_20 : decode bK_isPrime 20 = .ok (.if_icmp .gt 17, 3) := by decide +kernel
theorem dK_isPrime_23 : decode bK_isPrime 23 = .ok (.iload_n 0, 1) := by decide +kernel
theorem dK_isPrime_24 : decode bK_isPrime 24 = .ok (.iload_n 1, 1) := by decide +kernel
theorem dK_isPrime_25 : decode bK_isPrime 25 = .ok (.irem, 1) := by decide +kernel
theorem dK_isPrime_26 : decode bK_isPrime 26 = .ok (.ifCond .ne 5, 3) := by decide +kernel
theorem dK_isPrime_29 : decode bK_isPrime 29 = .ok (.iconst 0, 1) := by decide +kernel
theorem dK_isPrime_30 : decode bK_isPrime 30 = .ok (.ireturn, 1) := by decide +kernel
theorem dK_isPrime_31 : decode bK_isPrime 31 = .ok (.iinc 1 1, 3) := by decide +kernel
theorem dK_isPrime_34 : decode bK_isPrime 34 = .ok (.goto (-18), 3) := by decide +kernel
theorem dK_isPrime_37 : decode bK_isPrime 37 = .ok (.iconst 1, 1) := by decide +kernel
theorem dK_isPrime_38 : decode bK_isPrime 38 = .ok (.ireturn, 1) := by decide +kernel
theorem dK_init_0 : decode bK_init 0 = .ok (.aload_n 0, 1) := by decide +kernel
theorem dK_init_1 : decode bK_init 1 = .ok (.invokespecial 1, 3) := by decide +kernel
theorem dK_init_4 : decode bK_init 4 = .ok (.aload_n 0, 1) := by decide +kernel
theorem dK_init_5 : decode bK_init 5 = .ok (.new 7, 3) := by decide +kernel
theorem dK_init_8 : decode bK_init 8 = .ok (.dup, 1) := by decide +kernel
theorem dK_init_9 : decode bK_init 9 = .ok (.invokespecial 9, 3) := by decide +kernel
theorem dK_init_12 : decode bK_init 12 = .ok (.putfield 10, 3) := by decide +kernel
theorem dK_init_15 : decode bK_init 15 = .ok (.aload_n 0, 1) := by decide +kernel
theorem dK_init_16 : decode bK_init 16 = .ok (.getfield 10, 3) := by decide +kernel
theorem dK_init_19 : decode bK_init 19 = .ok (.bipush 7, 2) := by decide +kernel
theorem dK_init_21 : decode bK_init 21 = .ok (.iconst 2, 1) := by decide +kernel
theorem dK_init_22 : decode bK_init 22 = .ok (.iconst 0, 1) := by decide +kernel
theorem dK_init_23 : decode bK_init 23 = .ok (.invokevirtual 16, 3) := by decide +kernel
theorem dK_init_26 : decode bK_init 26 = .ok (.aload_n 0, 1) := by decide +kernel
theorem dK_init_27 : decode bK_init 27 = .ok (.new 20, 3) := by decide +kernel
theorem dK_init_30 : decode bK_init 30 = .ok (.dup, 1) := by decide +kernel
theorem dK_init_31 : decode bK_init 31 = .ok (.aload_n 0, 1) := by decide +kernel
theorem dK_init_32 : decode bK_init 32 = .ok (.getfield 10, 3) := by decide +kernel
theorem dK_init_35 : decode bK_init 35 = .ok (.invokespecial 22, 3) := by decide +kernel
theorem dK_init_38 : decode bK_init 38 = .ok (.putfield 25, 3) := by decide +kernel
theorem dK_init_41 : decode bK_init 41 = .ok (.aload_n 0, 1) := by decide +kernel
theorem dK_init_42 : decode bK_init 42 = .ok (.new 29, 3) := by decide +kernel
theorem dK_init_45 : decode bK_init 45 = .ok (.dup, 1) := by decide +kernel
theorem dK_init_46 : decode bK_init 46 = .ok (.aload_n 0, 1) := by decide +kernel
theorem dK_init_47 : decode bK_init 47 = .ok (.getfield 10, 3) := by decide +kernel
theorem dK_init_50 : decode bK_init 50 = .ok (.invokespecial 31, 3) := by decide +kernel
theorem dK_init_53 : decode bK_init 53 = .ok (.putfield 32, 3) := by decide +kernel
theorem dK_init_56 : decode bK_init 56 = .ok (.aload_n 0, 1) := by decide +kernel
theorem dK_init_57 : decode bK_init 57 = .ok (.bipush 8, 2) := by decide +kernel
theorem dK_init_59 : decode bK_init 59 = .ok (.bipush 126, 2) := by decide +kernel
theorem dK_init_61 : decode bK_init 61 = .ok (.multianewarray 36 2, 4) := by decide +kernel
theorem dK_init_65 : decode bK_init 65 = .ok (.putfield 38, 3) := by decide +kernel
theorem dK_init_68 : decode bK_init 68 = .ok (.aload_n 0, 1) := by decide +kernel
theorem dK_init_69 : decode bK_init 69 = .ok (.iconst 4, 1) := by decide +kernel
theorem dK_init_70 : decode bK_init 70 = .ok (.newarray .int, 2) := by decide +kernel
theorem dK_init_72 : decode bK_init 72 = .ok (.putfield 41, 3) := by decide +kernel
theorem dK_init_75 : decode bK_init 75 = .ok (.return_, 1) := by decide +kernel
theorem dK_field_0 : decode bK_field 0 = .ok (.iload_n 1, 1) := by decide +kernel
theorem dK_field_1 : decode bK_field 1 = .ok (.invokestatic 45, 3) := by decide +kernel
theorem dK_field_4 : decode bK_field 4 = .ok (.ifCond .ne 13, 3) := by decide +kernel
theorem dK_field_7 : decode bK_field 7 = .ok (.new 49, 3) := by decide +kernel
theorem dK_field_10 : decode bK_field 10 = .ok (.dup, 1) := by decide +kernel
theorem dK_field_11 : decode bK_field 11 = .ok (.ldc 51, 2) := by decide +kernel
theorem dK_field_13 : decode bK_field 13 = .ok (.invokespecial 53, 3) := by decide +kernel
theorem dK_field_16 : decode bK_field 16 = .ok (.athrow, 1) := by decide +kernel
theorem dK_field_17 : decode bK_field 17 = .ok (.iload_n 2, 1) := by decide +kernel
theorem dK_field_18 : decode bK_field 18 = .ok (.iconst 1, 1) := by decide +kernel
theorem dK_field_19 : decode bK_field 19 = .ok (.if_icmp .lt 8, 3) := by decide +kernel
theorem dK_field_22 : decode bK_field 22 = .ok (.iload_n 2, 1) := by decide +kernel
theorem dK_field_23 : decode bK_field 23 = .ok (.iconst 4, 1) := by decide +kernel
theorem dK_field_24 : decode bK_field 24 = .ok (.if_icmp .le 13, 3) := by decide +kernel
theorem dK_field_27 : decode bK_field 27 = .ok (.new 49, 3) := by decide +kernel
theorem dK_field_30 : decode bK_field 30 = .ok (.dup, 1) := by decide +kernel
theorem dK_field_31 : decode bK_field 31 = .ok (.ldc 56, 2) := by decide +kernel
theorem dK_field_33 : decode bK_field 33 = .ok (.invokespecial 53, 3) := by decide +kernel
theorem dK_field_36 : decode bK_field 36 = .ok (.athrow, 1) := by decide +kernel
theorem dK_field_37 : decode bK_field 37 = .ok (.iload_n 3, 1) := by decide +kernel
theorem dK_field_38 : decode bK_field 38 = .ok (.ifCond .eq 18, 3) := by decide +kernel
theorem dK_field_41 : decode bK_field 41 = .ok (.iload_n 3, 1) := by decide +kernel
theorem dK_field_42 : decode bK_field 42 = .ok (.iconst 1, 1) := by decide +kernel
theorem dK_field_43 : decode bK_field 43 = .ok (.if_icmp .eq 13, 3) := by decide +kernel
theorem dK_field_46 : decode bK_field 46 = .ok (.new 49, 3) := by decide +kernel
theorem dK_field_49 : decode bK_field 49 = .ok (.dup, 1) := by decide +kernel
theorem dK_field_50 : decode bK_field 50 = .ok (.ldc 58, 2) := by decide +kernel
theorem dK_field_52 : decode bK_field 52 = .ok (.invokespecial 53, 3) := by decide +kernel
theorem dK_field_55 : decode bK_field 55 = .ok (.athrow, 1) := by decide +kernel
theorem dK_field_56 : decode bK_field 56 = .ok (.aload_n 0, 1) := by decide +kernel
theorem dK_field_57 : decode bK_field 57 = .ok (.getfield 10, 3) := by decide +kernel
theorem dK_field_60 : decode bK_field 60 = .ok (.iload_n 1, 1) := by decide +kernel
theorem dK_field_61 : decode bK_field 61 = .ok (.iload_n 2, 1) := by decide +kernel
theorem dK_field_62 : decode bK_field 62 = .ok (.iload_n 3, 1) := by decide +kernel
theorem dK_field_63 : decode bK_field 63 = .ok (.invokevirtual 16, 3) := by decide +kernel
theorem dK_field_66 : decode bK_field 66 = .ok (.iconst 0, 1) := by decide +kernel
theorem dK_field_67 : decode bK_field 67 = .ok (.istore 4, 2) := by decide +kernel
theorem dK_field_69 : decode bK_field 69 = .ok (.iload 4, 2) := by decide +kernel
theorem dK_field_71 : decode bK_field 71 = .ok (.bipush 8, 2) := by decide +kernel
theorem dK_field_73 : decode bK_field 73 = .ok (.if_icmp .ge 20, 3) := by decide +kernel
theorem dK_field_76 : decode bK_field 76 = .ok (.aload_n 0, 1) := by decide +kernel
theorem dK_field_77 : decode bK_field 77 = .ok (.getfield 38, 3) := by decide +kernel
theorem dK_field_80 : decode bK_field 80 = .ok (.iload 4, 2) := by decide +kernel
theorem dK_field_82 : decode bK_field 82 = .ok (.aaload, 1) := by decide +kernel
theorem dK_field_83 : decode bK_field 83 = .ok (.iconst 0, 1) := by decide +kernel
theorem dK_field_84 : decode bK_field 84 = .ok (.invokestatic 60, 3) := by decide +kernel
theorem dK_field_87 : decode bK_field 87 = .ok (.iinc 4 1, 3) := by decide +kernel
theorem dK_field_90 : decode bK_field 90 = .ok (.goto (-21), 3) := by decide +kernel
theorem dK_field_93 : decode bK_field 93 = .ok (.aload_n 0, 1) := by decide +kernel
theorem dK_field_94 : decode bK_field 94 = .ok (.getfield 32, 3) := by decide +kernel
theorem dK_field_97 : decode bK_field 97 = .ok (.invokevirtual 66, 3) := by decide +kernel
theorem dK_field_100 : decode bK_field 100 = .ok (.return_, 1) := by decide +kernel
theorem dK_put_0 : decode bK_put 0 = .ok (.aload_n 0, 1) := by decide +kernel
theorem dK_put_1 : decode bK_put 1 = .ok (.getfield 25, 3) := by decide +kernel
theorem dK_put_4 : decode bK_put 4 = .ok (.lload_n 1, 1) := by decide +kernel
theorem dK_put_5 : decode bK_put 5 = .ok (.iload_n 3, 1) := by decide +kernel
theorem dK_put_6 : decode bK_put 6 = .ok (.invokevirtual 69, 3) := by decide +kernel
theorem dK_put_9 : decode bK_put 9 = .ok (.ireturn, 1) := by decide +kernel
theorem dK_read_0 : decode bK_read 0 = .ok (.iload_n 1, 1) := by decide +kernel
theorem dK_read_1 : decode bK_read 1 = .ok (.invokestatic 73, 3) := by decide +kernel
theorem dK_read_4 : decode bK_read 4 = .ok (.aload_n 0, 1) := by decide +kernel
theorem dK_read_5 : decode bK_read 5 = .ok (.getfield 25, 3) := by decide +kernel
theorem dK_read_8 : decode bK_read 8 = .ok (.aload_n 0, 1) := by decide +kernel
theorem dK_read_9 : decode bK_read 9 = .ok (.getfield 38, 3) := by decide +kernel
theorem dK_read_12 : decode bK_read 12 = .ok (.iload_n 1, 1) := by decide +kernel
theorem dK_read_13 : decode bK_read 13 = .ok (.aaload, 1) := by decide +kernel
theorem dK_read_14 : decode bK_read 14 = .ok (.invokevirtual 77, 3) := by decide +kernel
theorem dK_read_17 : decode bK_read 17 = .ok (.ifCond .ne 13, 3) := by decide +kernel
theorem dK_read_20 : decode bK_read 20 = .ok (.new 49, 3) := by decide +kernel
theorem dK_read_23 : decode bK_read 23 = .ok (.dup, 1) := by decide +kernel
theorem dK_read_24 : decode bK_read 24 = .ok (.ldc 81, 2) := by decide +kernel
theorem dK_read_26 : decode bK_read 26 = .ok (.invokespecial 53, 3) := by decide +kernel
theorem dK_read_29 : decode bK_read 29 = .ok (.athrow, 1) := by decide +kernel
theorem dK_read_30 : decode bK_read 30 = .ok (.aload_n 0, 1) := by decide +kernel
theorem dK_read_31 : decode bK_read 31 = .ok (.getfield 10, 3) := by decide +kernel
theorem dK_read_34 : decode bK_read 34 = .ok (.aload_n 0, 1) := by decide +kernel
theorem dK_read_35 : decode bK_read 35 = .ok (.getfield 38, 3) := by decide +kernel
theorem dK_read_38 : decode bK_read 38 = .ok (.iload_n 1, 1) := by decide +kernel
theorem dK_read_39 : decode bK_read 39 = .ok (.aaload, 1) := by decide +kernel
theorem dK_read_40 : decode bK_read 40 = .ok (.invokevirtual 83, 3) := by decide +kernel
theorem dK_read_43 : decode bK_read 43 = .ok (.ireturn, 1) := by decide +kernel
theorem dK_fault_0 : decode bK_fault 0 = .ok (.iload_n 1, 1) := by decide +kernel
theorem dK_fault_1 : decode bK_fault 1 = .ok (.ifCond .ne 11, 3) := by decide +kernel
theorem dK_fault_4 : decode bK_fault 4 = .ok (.aload_n 0, 1) := by decide +kernel
theorem dK_fault_5 : decode bK_fault 5 = .ok (.getfield 25, 3) := by decide +kernel
theorem dK_fault_8 : decode bK_fault 8 = .ok (.invokevirtual 87, 3) := by decide +kernel
theorem dK_fault_11 : decode bK_fault 11 = .ok (.ireturn, 1) := by decide +kernel
theorem dK_fault_12 : decode bK_fault 12 = .ok (.iload_n 1, 1) := by decide +kernel
theorem dK_fault_13 : decode bK_fault 13 = .ok (.iconst 1, 1) := by decide +kernel
theorem dK_fault_14 : decode bK_fault 14 = .ok (.if_icmp .ne 13, 3) := by decide +kernel
theorem dK_fault_17 : decode bK_fault 17 = .ok (.aload_n 0, 1) := by decide +kernel
theorem dK_fault_18 : decode bK_fault 18 = .ok (.getfield 25, 3) := by decide +kernel
theorem dK_fault_21 : decode bK_fault 21 = .ok (.invokevirtual 91, 3) := by decide +kernel
theorem dK_fault_24 : decode bK_fault 24 = .ok (.goto 4, 3) := by decide +kernel
theorem dK_fault_27 : decode bK_fault 27 = .ok (.iconst (-1), 1) := by decide +kernel
theorem dK_fault_28 : decode bK_fault 28 = .ok (.ireturn, 1) := by decide +kernel
theorem dK_add_0 : decode bK_add 0 = .ok (.iload_n 1, 1) := by decide +kernel
theorem dK_add_1 : decode bK_add 1 = .ok (.invokestatic 73, 3) := by decide +kernel
theorem dK_add_4 : decode bK_add 4 = .ok (.iload_n 3, 1) := by decide +kernel
theorem dK_add_5 : decode bK_add 5 = .ok (.invokestatic 73, 3) := by decide +kernel
theorem dK_add_8 : decode bK_add 8 = .ok (.iload 4, 2) := by decide +kernel
theorem dK_add_10 : decode bK_add 10 = .ok (.invokestatic 73, 3) := by decide +kernel
theorem dK_add_13 : decode bK_add 13 = .ok (.aload_n 0, 1) := by decide +kernel
theorem dK_add_14 : decode bK_add 14 = .ok (.getfield 10, 3) := by decide +kernel
theorem dK_add_17 : decode bK_add 17 = .ok (.aload_n 0, 1) := by decide +kernel
theorem dK_add_18 : decode bK_add 18 = .ok (.getfield 38, 3) := by decide +kernel
theorem dK_add_21 : decode bK_add 21 = .ok (.iload_n 1, 1) := by decide +kernel
theorem dK_add_22 : decode bK_add 22 = .ok (.aaload, 1) := by decide +kernel
theorem dK_add_23 : decode bK_add 23 = .ok (.iload_n 2, 1) := by decide +kernel
theorem dK_add_24 : decode bK_add 24 = .ok (.aload_n 0, 1) := by decide +kernel
theorem dK_add_25 : decode bK_add 25 = .ok (.getfield 38, 3) := by decide +kernel
theorem dK_add_28 : decode bK_add 28 = .ok (.iload_n 3, 1) := by decide +kernel
theorem dK_add_29 : decode bK_add 29 = .ok (.aaload, 1) := by decide +kernel
theorem dK_add_30 : decode bK_add 30 = .ok (.aload_n 0, 1) := by decide +kernel
theorem dK_add_31 : decode bK_add 31 = .ok (.getfield 38, 3) := by decide +kernel
theorem dK_add_34 : decode bK_add 34 = .ok (.iload 4, 2) := by decide +kernel
theorem dK_add_36 : decode bK_add 36 = .ok (.aaload, 1) := by decide +kernel
theorem dK_add_37 : decode bK_add 37 = .ok (.invokevirtual 94, 3) := by decide +kernel
theorem dK_add_40 : decode bK_add 40 = .ok (.return_, 1) := by decide +kernel
theorem dK_multiply_0 : decode bK_multiply 0 = .ok (.iload_n 1, 1) := by decide +kernel
theorem dK_multiply_1 : decode bK_multiply 1 = .ok (.invokestatic 73, 3) := by decide +kernel
theorem dK_multiply_4 : decode bK_multiply 4 = .ok (.iload_n 2, 1) := by decide +kernel
theorem dK_multiply_5 : decode bK_multiply 5 = .ok (.invokestatic 73, 3) := by decide +kernel
theorem dK_multiply_8 : decode bK_multiply 8 = .ok (.iload_n 3, 1) := by decide +kernel
theorem dK_multiply_9 : decode bK_multiply 9 = .ok (.invokestatic 73, 3) := by decide +kernel
theorem dK_multiply_12 : decode bK_multiply 12 = .ok (.aload_n 0, 1) := by decide +kernel
theorem dK_multiply_13 : decode bK_multiply 13 = .ok (.getfield 10, 3) := by decide +kernel
theorem dK_multiply_16 : decode bK_multiply 16 = .ok (.aload_n 0, 1) := by decide +kernel
theorem dK_multiply_17 : decode bK_multiply 17 = .ok (.getfield 38, 3) := by decide +kernel
theorem dK_multiply_20 : decode bK_multiply 20 = .ok (.iload_n 1, 1) := by decide +kernel
theorem dK_multiply_21 : decode bK_multiply 21 = .ok (.aaload, 1) := by decide +kernel
theorem dK_multiply_22 : decode bK_multiply 22 = .ok (.aload_n 0, 1) := by decide +kernel
theorem dK_multiply_23 : decode bK_multiply 23 = .ok (.getfield 38, 3) := by decide +kernel
theorem dK_multiply_26 : decode bK_multiply 26 = .ok (.iload_n 2, 1) := by decide +kernel
theorem dK_multiply_27 : decode bK_multiply 27 = .ok (.aaload, 1) := by decide +kernel
theorem dK_multiply_28 : decode bK_multiply 28 = .ok (.invokevirtual 98, 3) := by decide +kernel
theorem dK_multiply_31 : decode bK_multiply 31 = .ok (.ifCond .eq 13, 3) := by decide +kernel
theorem dK_multiply_34 : decode bK_multiply 34 = .ok (.new 102, 3) := by decide +kernel
theorem dK_multiply_37 : decode bK_multiply 37 = .ok (.dup, 1) := by decide +kernel
theorem dK_multiply_38 : decode bK_multiply 38 = .ok (.ldc 104, 2) := by decide +kernel
theorem dK_multiply_40 : decode bK_multiply 40 = .ok (.invokespecial 106, 3) := by decide +kernel
theorem dK_multiply_43 : decode bK_multiply 43 = .ok (.athrow, 1) := by decide +kernel
theorem dK_multiply_44 : decode bK_multiply 44 = .ok (.aload_n 0, 1) := by decide +kernel
theorem dK_multiply_45 : decode bK_multiply 45 = .ok (.getfield 10, 3) := by decide +kernel
theorem dK_multiply_48 : decode bK_multiply 48 = .ok (.aload_n 0, 1) := by decide +kernel
theorem dK_multiply_49 : decode bK_multiply 49 = .ok (.getfield 38, 3) := by decide +kernel
theorem dK_multiply_52 : decode bK_multiply 52 = .ok (.iload_n 1, 1) := by decide +kernel
theorem dK_multiply_53 : decode bK_multiply 53 = .ok (.aaload, 1) := by decide +kernel
theorem dK_multiply_54 : decode bK_multiply 54 = .ok (.aload_n 0, 1) := by decide +kernel
theorem dK_multiply_55 : decode bK_multiply 55 = .ok (.getfield 38, 3) := by decide +kernel
theorem dK_multiply_58 : decode bK_multiply 58 = .ok (.iload_n 2, 1) := by decide +kernel
theorem dK_multiply_59 : decode bK_multiply 59 = .ok (.aaload, 1) := by decide +kernel
theorem dK_multiply_60 : decode bK_multiply 60 = .ok (.aload_n 0, 1) := by decide +kernel
theorem dK_multiply_61 : decode bK_multiply 61 = .ok (.getfield 38, 3) := by decide +kernel
theorem dK_multiply_64 : decode bK_multiply 64 = .ok (.iload_n 3, 1) := by decide +kernel
theorem dK_multiply_65 : decode bK_multiply 65 = .ok (.aaload, 1) := by decide +kernel
theorem dK_multiply_66 : decode bK_multiply 66 = .ok (.invokevirtual 107, 3) := by decide +kernel
theorem dK_multiply_69 : decode bK_multiply 69 = .ok (.return_, 1) := by decide +kernel
theorem dK_derive_0 : decode bK_derive 0 = .ok (.iload_n 1, 1) := by decide +kernel
theorem dK_derive_1 : decode bK_derive 1 = .ok (.invokestatic 73, 3) := by decide +kernel
theorem dK_derive_4 : decode bK_derive 4 = .ok (.aload_n 0, 1) := by decide +kernel
theorem dK_derive_5 : decode bK_derive 5 = .ok (.iload_n 2, 1) := by decide +kernel
theorem dK_derive_6 : decode bK_derive 6 = .ok (.invokevirtual 111, 3) := by decide +kernel
theorem dK_derive_9 : decode bK_derive 9 = .ok (.iload_n 3, 1) := by decide +kernel
theorem dK_derive_10 : decode bK_derive 10 = .ok (.invokestatic 73, 3) := by decide +kernel
theorem dK_derive_13 : decode bK_derive 13 = .ok (.aload_n 0, 1) := by decide +kernel
theorem dK_derive_14 : decode bK_derive 14 = .ok (.getfield 10, 3) := by decide +kernel
theorem dK_derive_17 : decode bK_derive 17 = .ok (.aload_n 0, 1) := by decide +kernel
theorem dK_derive_18 : decode bK_derive 18 = .ok (.getfield 38, 3) := by decide +kernel
theorem dK_derive_21 : decode bK_derive 21 = .ok (.iload_n 1, 1) := by decide +kernel
theorem dK_derive_22 : decode bK_derive 22 = .ok (.aaload, 1) := by decide +kernel
theorem dK_derive_23 : decode bK_derive 23 = .ok (.iload_n 2, 1) := by decide +kernel
theorem dK_derive_24 : decode bK_derive 24 = .ok (.aload_n 0, 1) := by decide +kernel
theorem dK_derive_25 : decode bK_derive 25 = .ok (.getfield 38, 3) := by decide +kernel
theorem dK_derive_28 : decode bK_derive 28 = .ok (.iload_n 3, 1) := by decide +kernel
theorem dK_derive_29 : decode bK_derive 29 = .ok (.aaload, 1) := by decide +kernel
theorem dK_derive_30 : decode bK_derive 30 = .ok (.invokevirtual 114, 3) := by decide +kernel
theorem dK_derive_33 : decode bK_derive 33 = .ok (.return_, 1) := by decide +kernel
theorem dK_set_0 : decode bK_set 0 = .ok (.iload_n 1, 1) := by decide +kernel
theorem dK_set_1 : decode bK_set 1 = .ok (.invokestatic 73, 3) := by decide +kernel
theorem dK_set_4 : decode bK_set 4 = .ok (.aload_n 0, 1) := by decide +kernel
theorem dK_set_5 : decode bK_set 5 = .ok (.iload_n 2, 1) := by decide +kernel
theorem dK_set_6 : decode bK_set 6 = .ok (.invokevirtual 111, 3) := by decide +kernel
theorem dK_set_9 : decode bK_set 9 = .ok (.iload 4, 2) := by decide +kernel
theorem dK_set_11 : decode bK_set 11 = .ok (.invokestatic 73, 3) := by decide +kernel
theorem dK_set_14 : decode bK_set 14 = .ok (.aload_n 0, 1) := by decide +kernel
theorem dK_set_15 : decode bK_set 15 = .ok (.getfield 10, 3) := by decide +kernel
theorem dK_set_18 : decode bK_set 18 = .ok (.aload_n 0, 1) := by decide +kernel
theorem dK_set_19 : decode bK_set 19 = .ok (.getfield 38, 3) := by decide +kernel
theorem dK_set_22 : decode bK_set 22 = .ok (.iload_n 1, 1) := by decide +kernel
theorem dK_set_23 : decode bK_set 23 = .ok (.aaload, 1) := by decide +kernel
theorem dK_set_24 : decode bK_set 24 = .ok (.iload_n 2, 1) := by decide +kernel
theorem dK_set_25 : decode bK_set 25 = .ok (.iload_n 3, 1) := by decide +kernel
theorem dK_set_26 : decode bK_set 26 = .ok (.aload_n 0, 1) := by decide +kernel
theorem dK_set_27 : decode bK_set 27 = .ok (.getfield 38, 3) := by decide +kernel
theorem dK_set_30 : decode bK_set 30 = .ok (.iload 4, 2) := by decide +kernel
theorem dK_set_32 : decode bK_set 32 = .ok (.aaload, 1) := by decide +kernel
theorem dK_set_33 : decode bK_set 33 = .ok (.invokevirtual 118, 3) := by decide +kernel
theorem dK_set_36 : decode bK_set 36 = .ok (.return_, 1) := by decide +kernel
end
section
/-! decode rows, by program -/
theorem dM_lay_0 : decode bM_lay 0 = .ok (.aload_n 0, 1) := by decide +kernel
theorem dM_lay_1 : decode bM_lay 1 = .ok (.getfield 27, 3) := by decide +kernel
theorem dM_lay_4 : decode bM_lay 4 = .ok (.sipush 1296, 3) := by decide +kernel
theorem dM_lay_7 : decode bM_lay 7 = .ok (.iload_n 1, 1) := by decide +kernel
theorem dM_lay_8 : decode bM_lay 8 = .ok (.imul, 1) := by decide +kernel
theorem dM_lay_9 : decode bM_lay 9 = .ok (.iload_n 2, 1) := by decide +kernel
theorem dM_lay_10 : decode bM_lay 10 = .ok (.iadd, 1) := by decide +kernel
theorem dM_lay_11 : decode bM_lay 11 = .ok (.iload_n 3, 1) := by decide +kernel
theorem dM_lay_12 : decode bM_lay 12 = .ok (.iastore, 1) := by decide +kernel
theorem dM_lay_13 : decode bM_lay 13 = .ok (.return_, 1) := by decide +kernel
theorem dM_clear_0 : decode bM_clear 0 = .ok (.iconst 0, 1) := by decide +kernel
theorem dM_clear_1 : decode bM_clear 1 = .ok (.istore_n 2, 1) := by decide +kernel
theorem dM_clear_2 : decode bM_clear 2 = .ok (.iload_n 2, 1) := by decide +kernel
theorem dM_clear_3 : decode bM_clear 3 = .ok (.aload_n 0, 1) := by decide +kernel
theorem dM_clear_4 : decode bM_clear 4 = .ok (.getfield 67, 3) := by decide +kernel
theorem dM_clear_7 : decode bM_clear 7 = .ok (.if_icmp .ge 21, 3) := by decide +kernel
theorem dM_clear_10 : decode bM_clear 10 = .ok (.aload_n 0, 1) := by decide +kernel
theorem dM_clear_11 : decode bM_clear 11 = .ok (.iload_n 1, 1) := by decide +kernel
theorem dM_clear_12 : decode bM_clear 12 = .ok (.aload_n 0, 1) := by decide +kernel
theorem dM_clear_13 : decode bM_clear 13 = .ok (.getfield 20, 3) := by decide +kernel
theorem dM_clear_16 : decode bM_clear 16 = .ok (.iload_n 2, 1) := by decide +kernel
theorem dM_clear_17 : decode bM_clear 17 = .ok (.iaload, 1) := by decide +kernel
theorem dM_clear_18 : decode bM_clear 18 = .ok (.iconst 0, 1) := by decide +kernel
theorem dM_clear_19 : decode bM_clear 19 = .ok (.invokevirtual 85, 3) := by decide +kernel
theorem dM_clear_22 : decode bM_clear 22 = .ok (.iinc 2 1, 3) := by decide +kernel
theorem dM_clear_25 : decode bM_clear 25 = .ok (.goto (-23), 3) := by decide +kernel
theorem dM_clear_28 : decode bM_clear 28 = .ok (.return_, 1) := by decide +kernel
theorem dM_copy_0 : decode bM_copy 0 = .ok (.iconst 0, 1) := by decide +kernel
theorem dM_copy_1 : decode bM_copy 1 = .ok (.istore_n 3, 1) := by decide +kernel
theorem dM_copy_2 : decode bM_copy 2 = .ok (.iload_n 3, 1) := by decide +kernel
theorem dM_copy_3 : decode bM_copy 3 = .ok (.aload_n 0, 1) := by decide +kernel
theorem dM_copy_4 : decode bM_copy 4 = .ok (.getfield 67, 3) := by decide +kernel
theorem dM_copy_7 : decode bM_copy 7 = .ok (.if_icmp .ge 31, 3) := by decide +kernel
theorem dM_copy_10 : decode bM_copy 10 = .ok (.aload_n 0, 1) := by decide +kernel
theorem dM_copy_11 : decode bM_copy 11 = .ok (.iload_n 2, 1) := by decide +kernel
theorem dM_copy_12 : decode bM_copy 12 = .ok (.aload_n 0, 1) := by decide +kernel
theorem dM_copy_13 : decode bM_copy 13 = .ok (.getfield 20, 3) := by decide +kernel
theorem dM_copy_16 : decode bM_copy 16 = .ok (.iload_n 3, 1) := by decide +kernel
theorem dM_copy_17 : decode bM_copy 17 = .ok (.iaload, 1) := by decide +kernel
theorem dM_copy_18 : decode bM_copy 18 = .ok (.aload_n 0, 1) := by decide +kernel
theorem dM_copy_19 : decode bM_copy 19 = .ok (.iload_n 1, 1) := by decide +kernel
theorem dM_copy_20 : decode bM_copy 20 = .ok (.aload_n 0, 1) := by decide +kernel
theorem dM_copy_21 : decode bM_copy 21 = .ok (.getfield 20, 3) := by decide +kernel
theorem dM_copy_24 : decode bM_copy 24 = .ok (.iload_n 3, 1) := by decide +kernel
theorem dM_copy_25 : decode bM_copy 25 = .ok (.iaload, 1) := by decide +kernel
theorem dM_copy_26 : decode bM_copy 26 = .ok (.invokevirtual 88, 3) := by decide +kernel
theorem dM_copy_29 : decode bM_copy 29 = .ok (.invokevirtual 85, 3) := by decide +kernel
theorem dM_copy_32 : decode bM_copy 32 = .ok (.iinc 3 1, 3) := by decide +kernel
theorem dM_copy_35 : decode bM_copy 35 = .ok (.goto (-33), 3) := by decide +kernel
theorem dM_copy_38 : decode bM_copy 38 = .ok (.return_, 1) := by decide +kernel
theorem dM_degreeOf_0 : decode bM_degreeOf 0 = .ok (.iconst 0, 1) := by decide +kernel
theorem dM_degreeOf_1 : decode bM_degreeOf 1 = .ok (.istore_n 2, 1) := by decide +kernel
theorem dM_degreeOf_2 : decode bM_degreeOf 2 = .ok (.iload_n 2, 1) := by decide +kernel
theorem dM_degreeOf_3 : decode bM_degreeOf 3 = .ok (.aload_n 0, 1) := by decide +kernel
theorem dM_degreeOf_4 : decode bM_degreeOf 4 = .ok (.getfield 67, 3) := by decide +kernel
theorem dM_degreeOf_7 : decode bM_degreeOf 7 = .ok (.if_icmp .ge 35, 3) := by decide +kernel
theorem dM_degreeOf_10 : decode bM_degreeOf 10 = .ok (.aload_n 0, 1) := by decide +kernel
theorem dM_degreeOf_11 : decode bM_degreeOf 11 = .ok (.iload_n 1, 1) := by decide +kernel
theorem dM_degreeOf_12 : decode bM_degreeOf 12 = .ok (.aload_n 0, 1) := by decide +kernel
theorem dM_degreeOf_13 : decode bM_degreeOf 13 = .ok (.getfield 20, 3) := by decide +kernel
theorem dM_degreeOf_16 : decode bM_degreeOf 16 = .ok (.iload_n 2, 1) := by decide +kernel
theorem dM_degreeOf_17 : decode bM_degreeOf 17 = .ok (.iaload, 1) := by decide +kernel
theorem dM_degreeOf_18 : decode bM_degreeOf 18 = .ok (.invokevirtual 88, 3) := by decide +kernel
theorem dM_degreeOf_21 : decode bM_degreeOf 21 = .ok (.ifCond .eq 15, 3) := by decide +kernel
theorem dM_degreeOf_24 : decode bM_degreeOf 24 = .ok (.aload_n 0, 1) := by decide +kernel
theorem dM_degreeOf_25 : decode bM_degreeOf 25 = .ok (.getfield 13, 3) := by decide +kernel
theorem dM_degreeOf_28 : decode bM_degreeOf 28 = .ok (.aload_n 0, 1) := by decide +kernel
theorem dM_degreeOf_29 : decode bM_degreeOf 29 = .ok (.getfield 20, 3) := by decide +kernel
theorem dM_degreeOf_32 : decode bM_degreeOf 32 = .ok (.iload_n 2, 1) := by decide +kernel
theorem dM_degreeOf_33 : decode bM_degreeOf 33 = .ok (.iaload, 1) := by decide +kernel
theorem dM_degreeOf_34 : decode bM_degreeOf 34 = .ok (.iaload, 1) := by decide +kernel
theorem dM_degreeOf_35 : decode bM_degreeOf 35 = .ok (.ireturn, 1) := by decide +kernel
theorem dM_degreeOf_36 : decode bM_degreeOf 36 = .ok (.iinc 2 1, 3) := by decide +kernel
theorem dM_degreeOf_39 : decode bM_degreeOf 39 = .ok (.goto (-37), 3) := by decide +kernel
theorem dM_degreeOf_42 : decode bM_degreeOf 42 = .ok (.iconst (-1), 1) := by decide +kernel
theorem dM_degreeOf_43 : decode bM_degreeOf 43 = .ok (.ireturn, 1) := by decide +kernel
theorem dM_terms_0 : decode bM_terms 0 = .ok (.iconst 0, 1) := by decide +kernel
theorem dM_terms_1 : decode bM_terms 1 = .ok (.istore_n 2, 1) := by decide +kernel
theorem dM_terms_2 : decode bM_terms 2 = .ok (.iconst 0, 1) := by decide +kernel
theorem dM_terms_3 : decode bM_terms 3 = .ok (.istore_n 3, 1) := by decide +kernel
theorem dM_terms_4 : decode bM_terms 4 = .ok (.iload_n 3, 1) := by decide +kernel
theorem dM_terms_5 : decode bM_terms 5 = .ok (.aload_n 0, 1) := by decide +kernel
theorem dM_terms_6 : decode bM_terms 6 = .ok (.getfield 67, 3) := by decide +kernel
theorem dM_terms_9 : decode bM_terms 9 = .ok (.if_icmp .ge 31, 3) := by decide +kernel
theorem dM_terms_12 : decode bM_terms 12 = .ok (.iload_n 2, 1) := by decide +kernel
theorem dM_terms_13 : decode bM_terms 13 = .ok (.aload_n 0, 1) := by decide +kernel
theorem dM_terms_14 : decode bM_terms 14 = .ok (.iload_n 1, 1) := by decide +kernel
theorem dM_terms_15 : decode bM_terms 15 = .ok (.aload_n 0, 1) := by decide +kernel
theorem dM_terms_16 : decode bM_terms 16 = .ok (.getfield 20, 3) := by decide +kernel
theorem dM_terms_19 : decode bM_terms 19 = .ok (.iload_n 3, 1) := by decide +kernel
theorem dM_terms_20 : decode bM_terms 20 = .ok (.iaload, 1) := by decide +kernel
theorem dM_terms_21 : decode bM_terms 21 = .ok (.invokevirtual 88, 3) := by decide +kernel
theorem dM_terms_24 : decode bM_terms 24 = .ok (.ifCond .eq 7, 3) := by decide +kernel
theorem dM_terms_27 : decode bM_terms 27 = .ok (.iconst 1, 1) := by decide +kernel
theorem dM_terms_28 : decode bM_terms 28 = .ok (.goto 4, 3) := by decide +kernel
theorem dM_terms_31 : decode bM_terms 31 = .ok (.iconst 0, 1) := by decide +kernel
theorem dM_terms_32 : decode bM_terms 32 = .ok (.iadd, 1) := by decide +kernel
theorem dM_terms_33 : decode bM_terms 33 = .ok (.istore_n 2, 1) := by decide +kernel
theorem dM_terms_34 : decode bM_terms 34 = .ok (.iinc 3 1, 3) := by decide +kernel
theorem dM_terms_37 : decode bM_terms 37 = .ok (.goto (-33), 3) := by decide +kernel
theorem dM_terms_40 : decode bM_terms 40 = .ok (.iload_n 2, 1) := by decide +kernel
theorem dM_terms_41 : decode bM_terms 41 = .ok (.ireturn, 1) := by decide +kernel
theorem dM_addTo_0 : decode bM_addTo 0 = .ok (.iconst 0, 1) := by decide +kernel
theorem dM_addTo_1 : decode bM_addTo 1 = .ok (.istore 4, 2) := by decide +kernel
theorem dM_addTo_3 : decode bM_addTo 3 = .ok (.iload 4, 2) := by decide +kernel
theorem dM_addTo_5 : decode bM_addTo 5 = .ok (.aload_n 0, 1) := by decide +kernel
theorem dM_addTo_6 : decode bM_addTo 6 = .ok (.getfield 67, 3) := by decide +kernel
theorem dM_addTo_9 : decode bM_addTo 9 = .ok (.if_icmp .ge 55, 3) := by decide +kernel
theorem dM_addTo_12 : decode bM_addTo 12 = .ok (.aload_n 0, 1) := by decide +kernel
theorem dM_addTo_13 : decode bM_addTo 13 = .ok (.iload_n 3, 1) := by decide +kernel
theorem dM_addTo_14 : decode bM_addTo 14 = .ok (.aload_n 0, 1) := by decide +kernel
theorem dM_addTo_15 : decode bM_addTo 15 = .ok (.getfield 20, 3) := by decide +kernel
theorem dM_addTo_18 : decode bM_addTo 18 = .ok (.iload 4, 2) := by decide +kernel
theorem dM_addTo_20 : decode bM_addTo 20 = .ok (.iaload, 1) := by decide +kernel
theorem dM_addTo_21 : decode bM_addTo 21 = .ok (.aload_n 0, 1) := by decide +kernel
theorem dM_addTo_22 : decode bM_addTo 22 = .ok (.aload_n 0, 1) := by decide +kernel
theorem dM_addTo_23 : decode bM_addTo 23 = .ok (.iload_n 3, 1) := by decide +kernel
theorem dM_addTo_24 : decode bM_addTo 24 = .ok (.aload_n 0, 1) := by decide +kernel
theorem dM_addTo_25 : decode bM_addTo 25 = .ok (.getfield 20, 3) := by decide +kernel
theorem dM_addTo_28 : decode bM_addTo 28 = .ok (.iload 4, 2) := by decide +kernel
theorem dM_addTo_30 : decode bM_addTo 30 = .ok (.iaload, 1) := by decide +kernel
theorem dM_addTo_31 : decode bM_addTo 31 = .ok (.invokevirtual 88, 3) := by decide +kernel
theorem dM_addTo_34 : decode bM_addTo 34 = .ok (.i2l, 1) := by decide +kernel
theorem dM_addTo_35 : decode bM_addTo 35 = .ok (.iload_n 2, 1) := by decide +kernel
theorem dM_addTo_36 : decode bM_addTo 36 = .ok (.i2l, 1) := by decide +kernel
theorem dM_addTo_37 : decode bM_addTo 37 = .ok (.aload_n 0, 1) := by decide +kernel
theorem dM_addTo_38 : decode bM_addTo 38 = .ok (.iload_n 1, 1) := by decide +kernel
theorem dM_addTo_39 : decode bM_addTo 39 = .ok (.aload_n 0, 1) := by decide +kernel
theorem dM_addTo_40 : decode bM_addTo 40 = .ok (.getfield 20, 3) := by decide +kernel
theorem dM_addTo_43 : decode bM_addTo 43 = .ok (.iload 4, 2) := by decide +kernel
theorem dM_addTo_45 : decode bM_addTo 45 = .ok (.iaload, 1) := by decide +kernel
theorem dM_addTo_46 : decode bM_addTo 46 = .ok (.invokevirtual 88, 3) := by decide +kernel
theorem dM_addTo_49 : decode bM_addTo 49 = .ok (.i2l, 1) := by decide +kernel
theorem dM_addTo_50 : decode bM_addTo 50 = .ok (.lmul, 1) := by decide +kernel
theorem dM_addTo_51 : decode bM_addTo 51 = .ok (.ladd, 1) := by decide +kernel
theorem dM_addTo_52 : decode bM_addTo 52 = .ok (.invokevirtual 92, 3) := by decide +kernel
theorem dM_addTo_55 : decode bM_addTo 55 = .ok (.invokevirtual 85, 3) := by decide +kernel
theorem dM_addTo_58 : decode bM_addTo 58 = .ok (.iinc 4 1, 3) := by decide +kernel
theorem dM_addTo_61 : decode bM_addTo 61 = .ok (.goto (-58), 3) := by decide +kernel
theorem dM_addTo_64 : decode bM_addTo 64 = .ok (.return_, 1) := by decide +kernel
theorem dM_isTooHigh_0 : decode bM_isTooHigh 0 = .ok (.aload_n 0, 1) := by decide +kernel
theorem dM_isTooHigh_1 : decode bM_isTooHigh 1 = .ok (.iload_n 1, 1) := by decide +kernel
theorem dM_isTooHigh_2 : decode bM_isTooHigh 2 = .ok (.invokevirtual 96, 3) := by decide +kernel
theorem dM_isTooHigh_5 : decode bM_isTooHigh 5 = .ok (.istore_n 3, 1) := by decide +kernel
theorem dM_isTooHigh_6 : decode bM_isTooHigh 6 = .ok (.aload_n 0, 1) := by decide +kernel
theorem dM_isTooHigh_7 : decode bM_isTooHigh 7 = .ok (.iload_n 2, 1) := by decide +kernel
theorem dM_isTooHigh_8 : decode bM_isTooHigh 8 = .ok (.invokevirtual 96, 3) := by decide +kernel
theorem dM_isTooHigh_11 : decode bM_isTooHigh 11 = .ok (.istore 4, 2) := by decide +kernel
theorem dM_isTooHigh_13 : decode bM_isTooHigh 13 = .ok (.iload_n 3, 1) := by decide +kernel
theorem dM_isTooHigh_14 : decode bM_isTooHigh 14 = .ok (.ifCond .lt 23, 3) := by decide +kernel
theorem dM_isTooHigh_17 : decode bM_isTooHigh 17 = .ok (.iload 4, 2) := by decide +kernel
theorem dM_isTooHigh_19 : decode bM_isTooHigh 19 = .ok (.ifCond .lt 18, 3) := by decide +kernel
theorem dM_isTooHigh_22 : decode bM_isTooHigh 22 = .ok (.iload_n 3, 1) := by decide +kernel
theorem dM_isTooHigh_23 : decode bM_isTooHigh 23 = .ok (.iload 4, 2) := by decide +kernel
theorem dM_isTooHigh_25 : decode bM_isTooHigh 25 = .ok (.iadd, 1) := by decide +kernel
theorem dM_isTooHigh_26 : decode bM_isTooHigh 26 = .ok (.aload_n 0, 1) := by decide +kernel
theorem dM_isTooHigh_27 : decode bM_isTooHigh 27 = .ok (.getfield 61, 3) := by decide +kernel
theorem dM_isTooHigh_30 : decode bM_isTooHigh 30 = .ok (.if_icmp .le 7, 3) := by decide +kernel
theorem dM_isTooHigh_33 : decode bM_isTooHigh 33 = .ok (.iconst 1, 1) := by decide +kernel
theorem dM_isTooHigh_34 : decode bM_isTooHigh 34 = .ok (.goto 4, 3) := by decide +kernel
theorem dM_isTooHigh_37 : decode bM_isTooHigh 37 = .ok (.iconst 0, 1) := by decide +kernel
theorem dM_isTooHigh_38 : decode bM_isTooHigh 38 = .ok (.ireturn, 1) := by decide +kernel
theorem dM_times_0 : decode bM_times 0 = .ok (.aload_n 0, 1) := by decide +kernel
theorem dM_times_1 : decode bM_times 1 = .ok (.iload_n 3, 1) := by decide +kernel
theorem dM_times_2 : decode bM_times 2 = .ok (.invokevirtual 100, 3) := by decide +kernel
theorem dM_times_5 : decode bM_times 5 = .ok (.iconst 0, 1) := by decide +kernel
theorem dM_times_6 : decode bM_times 6 = .ok (.istore 4, 2) := by decide +kernel
theorem dM_times_8 : decode bM_times 8 = .ok (.iload 4, 2) := by decide +kernel
theorem dM_times_10 : decode bM_times 10 = .ok (.aload_n 0, 1) := by decide +kernel
theorem dM_times_11 : decode bM_times 11 = .ok (.getfield 67, 3) := by decide +kernel
theorem dM_times_14 : decode bM_times 14 = .ok (.if_icmp .ge 108, 3) := by decide +kernel
theorem dM_times_17 : decode bM_times 17 = .ok (.aload_n 0, 1) := by decide +kernel
theorem dM_times_18 : decode bM_times 18 = .ok (.getfield 20, 3) := by decide +kernel
theorem dM_times_21 : decode bM_times 21 = .ok (.iload 4, 2) := by decide +kernel
theorem dM_times_23 : decode bM_times 23 = .ok (.iaload, 1) := by decide +kernel
theorem dM_times_24 : decode bM_times 24 = .ok (.istore 5, 2) := by decide +kernel
theorem dM_times_26 : decode bM_times 26 = .ok (.iconst 0, 1) := by decide +kernel
theorem dM_times_27 : decode bM_times 27 = .ok (.istore 6, 2) := by decide +kernel
theorem dM_times_29 : decode bM_times 29 = .ok (.iload 6, 2) := by decide +kernel
theorem dM_times_31 : decode bM_times 31 = .ok (.aload_n 0, 1) := by decide +kernel
theorem dM_times_32 : decode bM_times 32 = .ok (.getfield 67, 3) := by decide +kernel
theorem dM_times_35 : decode bM_times 35 = .ok (.if_icmp .ge 81, 3) := by decide +kernel
theorem dM_times_38 : decode bM_times 38 = .ok (.aload_n 0, 1) := by decide +kernel
theorem dM_times_39 : decode bM_times 39 = .ok (.iload_n 1, 1) := by decide +kernel
theorem dM_times_40 : decode bM_times 40 = .ok (.iload 5, 2) := by decide +kernel
theorem dM_times_42 : decode bM_times 42 = .ok (.invokevirtual 88, 3) := by decide +kernel
theorem dM_times_45 : decode bM_times 45 = .ok (.ifCond .eq 71, 3) := by decide +kernel
theorem dM_times_48 : decode bM_times 48 = .ok (.aload_n 0, 1) := by decide +kernel
theorem dM_times_49 : decode bM_times 49 = .ok (.getfield 20, 3) := by decide +kernel
theorem dM_times_52 : decode bM_times 52 = .ok (.iload 6, 2) := by decide +kernel
theorem dM_times_54 : decode bM_times 54 = .ok (.iaload, 1) := by decide +kernel
theorem dM_times_55 : decode bM_times 55 = .ok (.istore 7, 2) := by decide +kernel
theorem dM_times_57 : decode bM_times 57 = .ok (.aload_n 0, 1) := by decide +kernel
theorem dM_times_58 : decode bM_times 58 = .ok (.iload_n 2, 1) := by decide +kernel
theorem dM_times_59 : decode bM_times 59 = .ok (.iload 7, 2) := by decide +kernel
theorem dM_times_61 : decode bM_times 61 = .ok (.invokevirtual 88, 3) := by decide +kernel
theorem dM_times_64 : decode bM_times 64 = .ok (.ifCond .eq 46, 3) := by decide +kernel
theorem dM_times_67 : decode bM_times 67 = .ok (.aload_n 0, 1) := by decide +kernel
theorem dM_times_68 : decode bM_times 68 = .ok (.iload_n 3, 1) := by decide +kernel
theorem dM_times_69 : decode bM_times 69 = .ok (.iload 5, 2) := by decide +kernel
theorem dM_times_71 : decode bM_times 71 = .ok (.iload 7, 2) := by decide +kernel
theorem dM_times_73 : decode bM_times 73 = .ok (.iadd, 1) := by decide +kernel
theorem dM_times_74 : decode bM_times 74 = .ok (.aload_n 0, 1) := by decide +kernel
theorem dM_times_75 : decode bM_times 75 = .ok (.aload_n 0, 1) := by decide +kernel
theorem dM_times_76 : decode bM_times 76 = .ok (.iload_n 3, 1) := by decide +kernel
theorem dM_times_77 : decode bM_times 77 = .ok (.iload 5, 2) := by decide +kernel
theorem dM_times_79 : decode bM_times 79 = .ok (.iload 7, 2) := by decide +kernel
theorem dM_times_81 : decode bM_times 81 = .ok (.iadd, 1) := by decide +kernel
theorem dM_times_82 : decode bM_times 82 = .ok (.invokevirtual 88, 3) := by decide +kernel
theorem dM_times_85 : decode bM_times 85 = .ok (.i2l, 1) := by decide +kernel
theorem dM_times_86 : decode bM_times 86 = .ok (.aload_n 0, 1) := by decide +kernel
theorem dM_times_87 : decode bM_times 87 = .ok (.iload_n 1, 1) := by decide +kernel
theorem dM_times_88 : decode bM_times 88 = .ok (.iload 5, 2) := by decide +kernel
theorem dM_times_90 : decode bM_times 90 = .ok (.invokevirtual 88, 3) := by decide +kernel
theorem dM_times_93 : decode bM_times 93 = .ok (.i2l, 1) := by decide +kernel
theorem dM_times_94 : decode bM_times 94 = .ok (.aload_n 0, 1) := by decide +kernel
theorem dM_times_95 : decode bM_times 95 = .ok (.iload_n 2, 1) := by decide +kernel
theorem dM_times_96 : decode bM_times 96 = .ok (.iload 7, 2) := by decide +kernel
theorem dM_times_98 : decode bM_times 98 = .ok (.invokevirtual 88, 3) := by decide +kernel
theorem dM_times_101 : decode bM_times 101 = .ok (.i2l, 1) := by decide +kernel
theorem dM_times_102 : decode bM_times 102 = .ok (.lmul, 1) := by decide +kernel
theorem dM_times_103 : decode bM_times 103 = .ok (.ladd, 1) := by decide +kernel
theorem dM_times_104 : decode bM_times 104 = .ok (.invokevirtual 92, 3) := by decide +kernel
theorem dM_times_107 : decode bM_times 107 = .ok (.invokevirtual 85, 3) := by decide +kernel
theorem dM_times_110 : decode bM_times 110 = .ok (.iinc 6 1, 3) := by decide +kernel
theorem dM_times_113 : decode bM_times 113 = .ok (.goto (-84), 3) := by decide +kernel
theorem dM_times_116 : decode bM_times 116 = .ok (.iinc 4 1, 3) := by decide +kernel
theorem dM_times_119 : decode bM_times 119 = .ok (.goto (-111), 3) := by decide +kernel
theorem dM_times_122 : decode bM_times 122 = .ok (.return_, 1) := by decide +kernel
theorem dM_put_0 : decode bM_put 0 = .ok (.aload_n 0, 1) := by decide +kernel
theorem dM_put_1 : decode bM_put 1 = .ok (.iconst 0, 1) := by decide +kernel
theorem dM_put_2 : decode bM_put 2 = .ok (.putfield 52, 3) := by decide +kernel
theorem dM_put_5 : decode bM_put 5 = .ok (.iload_n 3, 1) := by decide +kernel
theorem dM_put_6 : decode bM_put 6 = .ok (.ifCond .lt 21, 3) := by decide +kernel
theorem dM_put_9 : decode bM_put 9 = .ok (.iload_n 3, 1) := by decide +kernel
theorem dM_put_10 : decode bM_put 10 = .ok (.bipush 8, 2) := by decide +kernel
theorem dM_put_12 : decode bM_put 12 = .ok (.if_icmp .gt 15, 3) := by decide +kernel
theorem dM_put_15 : decode bM_put 15 = .ok (.aload_n 0, 1) := by decide +kernel
theorem dM_put_16 : decode bM_put 16 = .ok (.getfield 103, 3) := by decide +kernel
theorem dM_put_19 : decode bM_put 19 = .ok (.iload_n 3, 1) := by decide +kernel
theorem dM_put_20 : decode bM_put 20 = .ok (.iadd, 1) := by decide +kernel
theorem dM_put_21 : decode bM_put 21 = .ok (.sipush 200, 3) := by decide +kernel
theorem dM_put_24 : decode bM_put 24 = .ok (.if_icmp .le 5, 3) := by decide +kernel
theorem dM_put_27 : decode bM_put 27 = .ok (.iconst 0, 1) := by decide +kernel
theorem dM_put_28 : decode bM_put 28 = .ok (.ireturn, 1) := by decide +kernel
theorem dM_put_29 : decode bM_put 29 = .ok (.iload_n 3, 1) := by decide +kernel
theorem dM_put_30 : decode bM_put 30 = .ok (.iconst 1, 1) := by decide +kernel
theorem dM_put_31 : decode bM_put 31 = .ok (.isub, 1) := by decide +kernel
theorem dM_put_32 : decode bM_put 32 = .ok (.istore 4, 2) := by decide +kernel
theorem dM_put_34 : decode bM_put 34 = .ok (.iload 4, 2) := by decide +kernel
theorem dM_put_36 : decode bM_put 36 = .ok (.ifCond .lt 40, 3) := by decide +kernel
theorem dM_put_39 : decode bM_put 39 = .ok (.aload_n 0, 1) := by decide +kernel
theorem dM_put_40 : decode bM_put 40 = .ok (.getfield 30, 3) := by decide +kernel
theorem dM_put_43 : decode bM_put 43 = .ok (.aload_n 0, 1) := by decide +kernel
theorem dM_put_44 : decode bM_put 44 = .ok (.getfield 103, 3) := by decide +kernel
theorem dM_put_47 : decode bM_put 47 = .ok (.lload_n 1, 1) := by decide +kernel
theorem dM_put_48 : decode bM_put 48 = .ok (.bipush 8, 2) := by decide +kernel
theorem dM_put_50 : decode bM_put 50 = .ok (.iload 4, 2) := by decide +kernel
theorem dM_put_52 : decode bM_put 52 = .ok (.imul, 1) := by decide +kernel
theorem dM_put_53 : decode bM_put 53 = .ok (.lshr, 1) := by decide +kernel
theorem dM_put_54 : decode bM_put 54 = .ok (.l2i, 1) := by decide +kernel
theorem dM_put_55 : decode bM_put 55 = .ok (.sipush 255, 3) := by decide +kernel
theorem dM_put_58 : decode bM_put 58 = .ok (.iand, 1) := by decide +kernel
theorem dM_put_59 : decode bM_put 59 = .ok (.iastore, 1) := by decide +kernel
theorem dM_put_60 : decode bM_put 60 = .ok (.aload_n 0, 1) := by decide +kernel
theorem dM_put_61 : decode bM_put 61 = .ok (.dup, 1) := by decide +kernel
theorem dM_put_62 : decode bM_put 62 = .ok (.getfield 103, 3) := by decide +kernel
theorem dM_put_65 : decode bM_put 65 = .ok (.iconst 1, 1) := by decide +kernel
theorem dM_put_66 : decode bM_put 66 = .ok (.iadd, 1) := by decide +kernel
theorem dM_put_67 : decode bM_put 67 = .ok (.putfield 103, 3) := by decide +kernel
theorem dM_put_70 : decode bM_put 70 = .ok (.iinc 4 (-1), 3) := by decide +kernel
theorem dM_put_73 : decode bM_put 73 = .ok (.goto (-39), 3) := by decide +kernel
theorem dM_put_76 : decode bM_put 76 = .ok (.iconst 1, 1) := by decide +kernel
theorem dM_put_77 : decode bM_put 77 = .ok (.ireturn, 1) := by decide +kernel
theorem dM_sum_0 : decode bM_sum 0 = .ok (.bipush 8, 2) := by decide +kernel
theorem dM_sum_2 : decode bM_sum 2 = .ok (.iconst 3, 1) := by decide +kernel
theorem dM_sum_3 : decode bM_sum 3 = .ok (.aload_n 0, 1) := by decide +kernel
theorem dM_sum_4 : decode bM_sum 4 = .ok (.getfield 106, 3) := by decide +kernel
theorem dM_sum_7 : decode bM_sum 7 = .ok (.imul, 1) := by decide +kernel
theorem dM_sum_8 : decode bM_sum 8 = .ok (.iadd, 1) := by decide +kernel
theorem dM_sum_9 : decode bM_sum 9 = .ok (.ireturn, 1) := by decide +kernel
theorem dM_init_0 : decode bM_init 0 = .ok (.aload_n 0, 1) := by decide +kernel
theorem dM_init_1 : decode bM_init 1 = .ok (.invokespecial 1, 3) := by decide +kernel
theorem dM_init_4 : decode bM_init 4 = .ok (.aload_n 0, 1) := by decide +kernel
theorem dM_init_5 : decode bM_init 5 = .ok (.bipush 7, 2) := by decide +kernel
theorem dM_init_7 : decode bM_init 7 = .ok (.putfield 7, 3) := by decide +kernel
theorem dM_init_10 : decode bM_init 10 = .ok (.aload_n 0, 1) := by decide +kernel
theorem dM_init_11 : decode bM_init 11 = .ok (.sipush 1296, 3) := by decide +kernel
theorem dM_init_14 : decode bM_init 14 = .ok (.newarray .int, 2) := by decide +kernel
theorem dM_init_16 : decode bM_init 16 = .ok (.putfield 13, 3) := by decide +kernel
theorem dM_init_19 : decode bM_init 19 = .ok (.aload_n 0, 1) := by decide +kernel
theorem dM_init_20 : decode bM_init 20 = .ok (.sipush 5184, 3) := by decide +kernel
theorem dM_init_23 : decode bM_init 23 = .ok (.newarray .int, 2) := by decide +kernel
theorem dM_init_25 : decode bM_init 25 = .ok (.putfield 17, 3) := by decide +kernel
theorem dM_init_28 : decode bM_init 28 = .ok (.aload_n 0, 1) := by decide +kernel
theorem dM_init_29 : decode bM_init 29 = .ok (.bipush 126, 2) := by decide +kernel
theorem dM_init_31 : decode bM_init 31 = .ok (.newarray .int, 2) := by decide +kernel
theorem dM_init_33 : decode bM_init 33 = .ok (.putfield 20, 3) := by decide +kernel
theorem dM_init_36 : decode bM_init 36 = .ok (.aload_n 0, 1) := by decide +kernel
theorem dM_init_37 : decode bM_init 37 = .ok (.iconst 4, 1) := by decide +kernel
theorem dM_init_38 : decode bM_init 38 = .ok (.newarray .int, 2) := by decide +kernel
theorem dM_init_40 : decode bM_init 40 = .ok (.putfield 23, 3) := by decide +kernel
theorem dM_init_43 : decode bM_init 43 = .ok (.aload_n 0, 1) := by decide +kernel
theorem dM_init_44 : decode bM_init 44 = .ok (.ldc 26, 2) := by decide +kernel
theorem dM_init_46 : decode bM_init 46 = .ok (.newarray .int, 2) := by decide +kernel
theorem dM_init_48 : decode bM_init 48 = .ok (.putfield 27, 3) := by decide +kernel
theorem dM_init_51 : decode bM_init 51 = .ok (.aload_n 0, 1) := by decide +kernel
theorem dM_init_52 : decode bM_init 52 = .ok (.sipush 200, 3) := by decide +kernel
theorem dM_init_55 : decode bM_init 55 = .ok (.newarray .int, 2) := by decide +kernel
theorem dM_init_57 : decode bM_init 57 = .ok (.putfield 30, 3) := by decide +kernel
theorem dM_init_60 : decode bM_init 60 = .ok (.aload_n 0, 1) := by decide +kernel
theorem dM_init_61 : decode bM_init 61 = .ok (.iconst (-1), 1) := by decide +kernel
theorem dM_init_62 : decode bM_init 62 = .ok (.putfield 33, 3) := by decide +kernel
theorem dM_init_65 : decode bM_init 65 = .ok (.aload_n 0, 1) := by decide +kernel
theorem dM_init_66 : decode bM_init 66 = .ok (.sipush 200, 3) := by decide +kernel
theorem dM_init_69 : decode bM_init 69 = .ok (.newarray .int, 2) := by decide +kernel
theorem dM_init_71 : decode bM_init 71 = .ok (.putfield 36, 3) := by decide +kernel
theorem dM_init_74 : decode bM_init 74 = .ok (.aload_n 0, 1) := by decide +kernel
theorem dM_init_75 : decode bM_init 75 = .ok (.bipush 21, 2) := by decide +kernel
theorem dM_init_77 : decode bM_init 77 = .ok (.newarray .int, 2) := by decide +kernel
theorem dM_init_79 : decode bM_init 79 = .ok (.putfield 39, 3) := by decide +kernel
theorem dM_init_82 : decode bM_init 82 = .ok (.aload_n 0, 1) := by decide +kernel
theorem dM_init_83 : decode bM_init 83 = .ok (.bipush 21, 2) := by decide +kernel
theorem dM_init_85 : decode bM_init 85 = .ok (.newarray .int, 2) := by decide +kernel
theorem dM_init_87 : decode bM_init 87 = .ok (.putfield 42, 3) := by decide +kernel
theorem dM_init_90 : decode bM_init 90 = .ok (.aload_n 0, 1) := by decide +kernel
theorem dM_init_91 : decode bM_init 91 = .ok (.sipush 4000, 3) := by decide +kernel
theorem dM_init_94 : decode bM_init 94 = .ok (.newarray .int, 2) := by decide +kernel
theorem dM_init_96 : decode bM_init 96 = .ok (.putfield 45, 3) := by decide +kernel
theorem dM_init_99 : decode bM_init 99 = .ok (.aload_n 0, 1) := by decide +kernel
theorem dM_init_100 : decode bM_init 100 = .ok (.bipush 7, 2) := by decide +kernel
theorem dM_init_102 : decode bM_init 102 = .ok (.iconst 2, 1) := by decide +kernel
theorem dM_init_103 : decode bM_init 103 = .ok (.iconst 0, 1) := by decide +kernel
theorem dM_init_104 : decode bM_init 104 = .ok (.invokevirtual 48, 3) := by decide +kernel
theorem dM_init_107 : decode bM_init 107 = .ok (.return_, 1) := by decide +kernel
theorem dM_product_0 : decode bM_product 0 = .ok (.bipush 8, 2) := by decide +kernel
theorem dM_product_2 : decode bM_product 2 = .ok (.iconst 3, 1) := by decide +kernel
theorem dM_product_3 : decode bM_product 3 = .ok (.aload_n 0, 1) := by decide +kernel
theorem dM_product_4 : decode bM_product 4 = .ok (.getfield 106, 3) := by decide +kernel
theorem dM_product_7 : decode bM_product 7 = .ok (.imul, 1) := by decide +kernel
theorem dM_product_8 : decode bM_product 8 = .ok (.iadd, 1) := by decide +kernel
theorem dM_product_9 : decode bM_product 9 = .ok (.iconst 1, 1) := by decide +kernel
theorem dM_product_10 : decode bM_product 10 = .ok (.iadd, 1) := by decide +kernel
theorem dM_product_11 : decode bM_product 11 = .ok (.ireturn, 1) := by decide +kernel
theorem dM_factor_0 : decode bM_factor 0 = .ok (.bipush 8, 2) := by decide +kernel
theorem dM_factor_2 : decode bM_factor 2 = .ok (.iconst 3, 1) := by decide +kernel
theorem dM_factor_3 : decode bM_factor 3 = .ok (.aload_n 0, 1) := by decide +kernel
theorem dM_factor_4 : decode bM_factor 4 = .ok (.getfield 106, 3) := by decide +kernel
theorem dM_factor_7 : decode bM_factor 7 = .ok (.imul, 1) := by decide +kernel
theorem dM_factor_8 : decode bM_factor 8 = .ok (.iadd, 1) := by decide +kernel
theorem dM_factor_9 : decode bM_factor 9 = .ok (.iconst 2, 1) := by decide +kernel
theorem dM_factor_10 : decode bM_factor 10 = .ok (.iadd, 1) := by decide +kernel
theorem dM_factor_11 : decode bM_factor 11 = .ok (.ireturn, 1) := by decide +kernel
theorem dM_here_0 : decode bM_here 0 = .ok (.aload_n 0, 1) := by decide +kernel
theorem dM_here_1 : decode bM_here 1 = .ok (.getfield 109, 3) := by decide +kernel
theorem dM_here_4 : decode bM_here 4 = .ok (.aload_n 0, 1) := by decide +kernel
theorem dM_here_5 : decode bM_here 5 = .ok (.getfield 112, 3) := by decide +kernel
theorem dM_here_8 : decode bM_here 8 = .ok (.if_icmp .ge 30, 3) := by decide +kernel
theorem dM_here_11 : decode bM_here 11 = .ok (.aload_n 0, 1) := by decide +kernel
theorem dM_here_12 : decode bM_here 12 = .ok (.getfield 36, 3) := by decide +kernel
theorem dM_here_15 : decode bM_here 15 = .ok (.aload_n 0, 1) := by decide +kernel
theorem dM_here_16 : decode bM_here 16 = .ok (.getfield 109, 3) := by decide +kernel
theorem dM_here_19 : decode bM_here 19 = .ok (.iaload, 1) := by decide +kernel
theorem dM_here_20 : decode bM_here 20 = .ok (.bipush 32, 2) := by decide +kernel
theorem dM_here_22 : decode bM_here 22 = .ok (.if_icmp .ne 16, 3) := by decide +kernel
theorem dM_here_25 : decode bM_here 25 = .ok (.aload_n 0, 1) := by decide +kernel
theorem dM_here_26 : decode bM_here 26 = .ok (.dup, 1) := by decide +kernel
theorem dM_here_27 : decode bM_here 27 = .ok (.getfield 109, 3) := by decide +kernel
theorem dM_here_30 : decode bM_here 30 = .ok (.iconst 1, 1) := by decide +kernel
theorem dM_here_31 : decode bM_here 31 = .ok (.iadd, 1) := by decide +kernel
theorem dM_here_32 : decode bM_here 32 = .ok (.putfield 109, 3) := by decide +kernel
theorem dM_here_35 : decode bM_here 35 = .ok (.goto (-35), 3) := by decide +kernel
theorem dM_here_38 : decode bM_here 38 = .ok (.aload_n 0, 1) := by decide +kernel
theorem dM_here_39 : decode bM_here 39 = .ok (.getfield 109, 3) := by decide +kernel
theorem dM_here_42 : decode bM_here 42 = .ok (.aload_n 0, 1) := by decide +kernel
theorem dM_here_43 : decode bM_here 43 = .ok (.getfield 112, 3) := by decide +kernel
theorem dM_here_46 : decode bM_here 46 = .ok (.if_icmp .ge 15, 3) := by decide +kernel
theorem dM_here_49 : decode bM_here 49 = .ok (.aload_n 0, 1) := by decide +kernel
theorem dM_here_50 : decode bM_here 50 = .ok (.getfield 36, 3) := by decide +kernel
theorem dM_here_53 : decode bM_here 53 = .ok (.aload_n 0, 1) := by decide +kernel
theorem dM_here_54 : decode bM_here 54 = .ok (.getfield 109, 3) := by decide +kernel
theorem dM_here_57 : decode bM_here 57 = .ok (.iaload, 1) := by decide +kernel
theorem dM_here_58 : decode bM_here 58 = .ok (.goto 4, 3) := by decide +kernel
theorem dM_here_61 : decode bM_here 61 = .ok (.iconst (-1), 1) := by decide +kernel
theorem dM_here_62 : decode bM_here 62 = .ok (.ireturn, 1) := by decide +kernel
theorem dM_fail_0 : decode bM_fail 0 = .ok (.aload_n 0, 1) := by decide +kernel
theorem dM_fail_1 : decode bM_fail 1 = .ok (.iload_n 1, 1) := by decide +kernel
theorem dM_fail_2 : decode bM_fail 2 = .ok (.putfield 115, 3) := by decide +kernel
theorem dM_fail_5 : decode bM_fail 5 = .ok (.aload_n 0, 1) := by decide +kernel
theorem dM_fail_6 : decode bM_fail 6 = .ok (.iload_n 2, 1) := by decide +kernel
theorem dM_fail_7 : decode bM_fail 7 = .ok (.putfield 118, 3) := by decide +kernel
theorem dM_fail_10 : decode bM_fail 10 = .ok (.return_, 1) := by decide +kernel
theorem dM_isDigit_0 : decode bM_isDigit 0 = .ok (.iload_n 0, 1) := by decide +kernel
theorem dM_isDigit_1 : decode bM_isDigit 1 = .ok (.bipush 48, 2) := by decide +kernel
theorem dM_isDigit_3 : decode bM_isDigit 3 = .ok (.if_icmp .lt 13, 3) := by decide +kernel
theorem dM_isDigit_6 : decode bM_isDigit 6 = .ok (.iload_n 0, 1) := by decide +kernel
theorem dM_isDigit_7 : decode bM_isDigit 7 = .ok (.bipush 57, 2) := by decide +kernel
theorem dM_isDigit_9 : decode bM_isDigit 9 = .ok (.if_icmp .gt 7, 3) := by decide +kernel
theorem dM_isDigit_12 : decode bM_isDigit 12 = .ok (.iconst 1, 1) := by decide +kernel
theorem dM_isDigit_13 : decode bM_isDigit 13 = .ok (.goto 4, 3) := by decide +kernel
theorem dM_isDigit_16 : decode bM_isDigit 16 = .ok (.iconst 0, 1) := by decide +kernel
theorem dM_isDigit_17 : decode bM_isDigit 17 = .ok (.ireturn, 1) := by decide +kernel
theorem dM_number_0 : decode bM_number 0 = .ok (.aload_n 0, 1) := by decide +kernel
theorem dM_number_1 : decode bM_number 1 = .ok (.getfield 109, 3) := by decide +kernel
theorem dM_number_4 : decode bM_number 4 = .ok (.istore_n 2, 1) := by decide +kernel
theorem dM_number_5 : decode bM_number 5 = .ok (.lconst 0, 1) := by decide +kernel
theorem dM_number_6 : decode bM_number 6 = .ok (.lstore_n 3, 1) := by decide +kernel
theorem dM_number_7 : decode bM_number 7 = .ok (.aload_n 0, 1) := by decide +kernel
theorem dM_number_8 : decode bM_number 8 = .ok (.getfield 109, 3) := by decide +kernel
theorem dM_number_11 : decode bM_number 11 = .ok (.aload_n 0, 1) := by decide +kernel
theorem dM_number_12 : decode bM_number 12 = .ok (.getfield 112, 3) := by decide +kernel
theorem dM_number_15 : decode bM_number 15 = .ok (.if_icmp .ge 66, 3) := by decide +kernel
theorem dM_number_18 : decode bM_number 18 = .ok (.aload_n 0, 1) := by decide +kernel
theorem dM_number_19 : decode bM_number 19 = .ok (.getfield 36, 3) := by decide +kernel
theorem dM_number_22 : decode bM_number 22 = .ok (.aload_n 0, 1) := by decide +kernel
theorem dM_number_23 : decode bM_number 23 = .ok (.getfield 109, 3) := by decide +kernel
theorem dM_number_26 : decode bM_number 26 = .ok (.iaload, 1) := by decide +kernel
theorem dM_number_27 : decode bM_number 27 = .ok (.invokestatic 121, 3) := by decide +kernel
theorem dM_number_30 : decode bM_number 30 = .ok (.ifCond .eq 51, 3) := by decide +kernel
theorem dM_number_33 : decode bM_number 33 = .ok (.aload_n 0, 1) := by decide +kernel
theorem dM_number_34 : decode bM_number 34 = .ok (.getfield 109, 3) := by decide +kernel
theorem dM_number_37 : decode bM_number 37 = .ok (.iload_n 2, 1) := by decide +kernel
theorem dM_number_38 : decode bM_number 38 = .ok (.isub, 1) := by decide +kernel
theorem dM_number_39 : decode bM_number 39 = .ok (.iload_n 1, 1) := by decide +kernel
theorem dM_number_40 : decode bM_number 40 = .ok (.if_icmp .ge 26, 3) := by decide +kernel
theorem dM_number_43 : decode bM_number 43 = .ok (.ldc2_w 124, 3) := by decide +kernel
theorem dM_number_46 : decode bM_number 46 = .ok (.lload_n 3, 1) := by decide +kernel
theorem dM_number_47 : decode bM_number 47 = .ok (.lmul, 1) := by decide +kernel
theorem dM_number_48 : decode bM_number 48 = .ok (.aload_n 0, 1) := by decide +kernel
theorem dM_number_49 : decode bM_number 49 = .ok (.getfield 36, 3) := by decide +kernel
theorem dM_number_52 : decode bM_number 52 = .ok (.aload_n 0, 1) := by decide +kernel
theorem dM_number_53 : decode bM_number 53 = .ok (.getfield 109, 3) := by decide +kernel
theorem dM_number_56 : decode bM_number 56 = .ok (.iaload, 1) := by decide +kernel
theorem dM_number_57 : decode bM_number 57 = .ok (.i2l, 1) := by decide +kernel
theorem dM_number_58 : decode bM_number 58 = .ok (.ladd, 1) := by decide +kernel
theorem dM_number_59 : decode bM_number 59 = .ok (.ldc2_w 126, 3) := by decide +kernel
theorem dM_number_62 : decode bM_number 62 = .ok (.lsub, 1) := by decide +kernel
theorem dM_number_63 : decode bM_number 63 = .ok (.goto 4, 3) := by decide +kernel
theorem dM_number_66 : decode bM_number 66 = .ok (.lload_n 3, 1) := by decide +kernel
theorem dM_number_67 : decode bM_number 67 = .ok (.lstore_n 3, 1) := by decide +kernel
theorem dM_number_68 : decode bM_number 68 = .ok (.aload_n 0, 1) := by decide +kernel
theorem dM_number_69 : decode bM_number 69 = .ok (.dup, 1) := by decide +kernel
theorem dM_number_70 : decode bM_number 70 = .ok (.getfield 109, 3) := by decide +kernel
theorem dM_number_73 : decode bM_number 73 = .ok (.iconst 1, 1) := by decide +kernel
theorem dM_number_74 : decode bM_number 74 = .ok (.iadd, 1) := by decide +kernel
theorem dM_number_75 : decode bM_number 75 = .ok (.putfield 109, 3) := by decide +kernel
theorem dM_number_78 : decode bM_number 78 = .ok (.goto (-71), 3) := by decide +kernel
theorem dM_number_81 : decode bM_number 81 = .ok (.aload_n 0, 1) := by decide +kernel
theorem dM_number_82 : decode bM_number 82 = .ok (.getfield 109, 3) := by decide +kernel
theorem dM_number_85 : decode bM_number 85 = .ok (.iload_n 2, 1) := by decide +kernel
theorem dM_number_86 : decode bM_number 86 = .ok (.isub, 1) := by decide +kernel
theorem dM_number_87 : decode bM_number 87 = .ok (.iload_n 1, 1) := by decide +kernel
theorem dM_number_88 : decode bM_number 88 = .ok (.if_icmp .le 9, 3) := by decide +kernel
theorem dM_number_91 : decode bM_number 91 = .ok (.aload_n 0, 1) := by decide +kernel
theorem dM_number_92 : decode bM_number 92 = .ok (.iconst 4, 1) := by decide +kernel
theorem dM_number_93 : decode bM_number 93 = .ok (.iload_n 2, 1) := by decide +kernel
theorem dM_number_94 : decode bM_number 94 = .ok (.invokevirtual 128, 3) := by decide +kernel
theorem dM_number_97 : decode bM_number 97 = .ok (.lload_n 3, 1) := by decide +kernel
theorem dM_number_98 : decode bM_number 98 = .ok (.lreturn, 1) := by decide +kernel
theorem dM_variable_0 : decode bM_variable 0 = .ok (.iload_n 1, 1) := by decide +kernel
theorem dM_variable_1 : decode bM_variable 1 = .ok (.bipush 120, 2) := by decide +kernel
theorem dM_variable_3 : decode bM_variable 3 = .ok (.if_icmp .ne 7, 3) := by decide +kernel
theorem dM_variable_6 : decode bM_variable 6 = .ok (.iconst 0, 1) := by decide +kernel
theorem dM_variable_7 : decode bM_variable 7 = .ok (.goto 34, 3) := by decide +kernel
theorem dM_variable_10 : decode bM_variable 10 = .ok (.iload_n 1, 1) := by decide +kernel
theorem dM_variable_11 : decode bM_variable 11 = .ok (.bipush 121, 2) := by decide +kernel
theorem dM_variable_13 : decode bM_variable 13 = .ok (.if_icmp .ne 7, 3) := by decide +kernel
theorem dM_variable_16 : decode bM_variable 16 = .ok (.iconst 1, 1) := by decide +kernel
theorem dM_variable_17 : decode bM_variable 17 = .ok (.goto 24, 3) := by decide +kernel
theorem dM_variable_20 : decode bM_variable 20 = .ok (.iload_n 1, 1) := by decide +kernel
theorem dM_variable_21 : decode bM_variable 21 = .ok (.bipush 122, 2) := by decide +kernel
theorem dM_variable_23 : decode bM_variable 23 = .ok (.if_icmp .ne 7, 3) := by decide +kernel
theorem dM_variable_26 : decode bM_variable 26 = .ok (.iconst 2, 1) := by decide +kernel
theorem dM_variable_27 : decode bM_variable 27 = .ok (.goto 14, 3) := by decide +kernel
theorem dM_variable_30 : decode bM_variable 30 = .ok (.iload_n 1, 1) := by decide +kernel
theorem dM_variable_31 : decode bM_variable 31 = .ok (.bipush 119, 2) := by decide +kernel
theorem dM_variable_33 : decode bM_variable 33 = .ok (.if_icmp .ne 7, 3) := by decide +kernel
theorem dM_variable_36 : decode bM_variable 36 = .ok (.iconst 3, 1) := by decide +kernel
theorem dM_variable_37 : decode bM_variable 37 = .ok (.goto 4, 3) := by decide +kernel
theorem dM_variable_40 : decode bM_variable 40 = .ok (.iconst 4, 1) := by decide +kernel
theorem dM_variable_41 : decode bM_variable 41 = .ok (.istore_n 2, 1) := by decide +kernel
theorem dM_variable_42 : decode bM_variable 42 = .ok (.iload_n 2, 1) := by decide +kernel
theorem dM_variable_43 : decode bM_variable 43 = .ok (.aload_n 0, 1) := by decide +kernel
theorem dM_variable_44 : decode bM_variable 44 = .ok (.getfield 55, 3) := by decide +kernel
theorem dM_variable_47 : decode bM_variable 47 = .ok (.if_icmp .ge 7, 3) := by decide +kernel
theorem dM_variable_50 : decode bM_variable 50 = .ok (.iload_n 2, 1) := by decide +kernel
theorem dM_variable_51 : decode bM_variable 51 = .ok (.goto 4, 3) := by decide +kernel
theorem dM_variable_54 : decode bM_variable 54 = .ok (.iconst (-1), 1) := by decide +kernel
theorem dM_variable_55 : decode bM_variable 55 = .ok (.ireturn, 1) := by decide +kernel
theorem dM_begin_0 : decode bM_begin 0 = .ok (.aload_n 0, 1) := by decide +kernel
theorem dM_begin_1 : decode bM_begin 1 = .ok (.aload_n 0, 1) := by decide +kernel
theorem dM_begin_2 : decode bM_begin 2 = .ok (.invokevirtual 132, 3) := by decide +kernel
theorem dM_begin_5 : decode bM_begin 5 = .ok (.invokevirtual 100, 3) := by decide +kernel
theorem dM_begin_8 : decode bM_begin 8 = .ok (.aload_n 0, 1) := by decide +kernel
theorem dM_begin_9 : decode bM_begin 9 = .ok (.getfield 39, 3) := by decide +kernel
theorem dM_begin_12 : decode bM_begin 12 = .ok (.aload_n 0, 1) := by decide +kernel
theorem dM_begin_13 : decode bM_begin 13 = .ok (.getfield 106, 3) := by decide +kernel
theorem dM_begin_16 : decode bM_begin 16 = .ok (.iconst 1, 1) := by decide +kernel
theorem dM_begin_17 : decode bM_begin 17 = .ok (.iastore, 1) := by decide +kernel
theorem dM_begin_18 : decode bM_begin 18 = .ok (.aload_n 0, 1) := by decide +kernel
theorem dM_begin_19 : decode bM_begin 19 = .ok (.getfield 42, 3) := by decide +kernel
theorem dM_begin_22 : decode bM_begin 22 = .ok (.aload_n 0, 1) := by decide +kernel
theorem dM_begin_23 : decode bM_begin 23 = .ok (.getfield 106, 3) := by decide +kernel
theorem dM_begin_26 : decode bM_begin 26 = .ok (.iconst (-1), 1) := by decide +kernel
theorem dM_begin_27 : decode bM_begin 27 = .ok (.iastore, 1) := by decide +kernel
theorem dM_begin_28 : decode bM_begin 28 = .ok (.aload_n 0, 1) := by decide +kernel
theorem dM_begin_29 : decode bM_begin 29 = .ok (.iconst 0, 1) := by decide +kernel
theorem dM_begin_30 : decode bM_begin 30 = .ok (.putfield 136, 3) := by decide +kernel
theorem dM_begin_33 : decode bM_begin 33 = .ok (.return_, 1) := by decide +kernel
theorem dM_readFactor_0 : decode bM_readFactor 0 = .ok (.iload_n 1, 1) := by decide +kernel
theorem dM_readFactor_1 : decode bM_readFactor 1 = .ok (.bipush 40, 2) := by decide +kernel
theorem dM_readFactor_3 : decode bM_readFactor 3 = .ok (.if_icmp .ne 47, 3) := by decide +kernel
theorem dM_readFactor_6 : decode bM_readFactor 6 = .ok (.aload_n 0, 1) := by decide +kernel
theorem dM_readFactor_7 : decode bM_readFactor 7 = .ok (.getfield 106, 3) := by decide +kernel
theorem dM_readFactor_10 : decode bM_readFactor 10 = .ok (.bipush 20, 2) := by decide +kernel
theorem dM_readFactor_12 : decode bM_readFactor 12 = .ok (.if_icmp .ne 13, 3) := by decide +kernel
theorem dM_readFactor_15 : decode bM_readFactor 15 = .ok (.aload_n 0, 1) := by decide +kernel
theorem dM_readFactor_16 : decode bM_readFactor 16 = .ok (.iconst 2, 1) := by decide +kernel
theorem dM_readFactor_17 : decode bM_readFactor 17 = .ok (.aload_n 0, 1) := by decide +kernel
theorem dM_readFactor_18 : decode bM_readFactor 18 = .ok (.getfield 109, 3) := by decide +kernel
theorem dM_readFactor_21 : decode bM_readFactor 21 = .ok (.invokevirtual 128, 3) := by decide +kernel
theorem dM_readFactor_24 : decode bM_readFactor 24 = .ok (.return_, 1) := by decide +kernel
theorem dM_readFactor_25 : decode bM_readFactor 25 = .ok (.aload_n 0, 1) := by decide +kernel
theorem dM_readFactor_26 : decode bM_readFactor 26 = .ok (.dup, 1) := by decide +kernel
theorem dM_readFactor_27 : decode bM_readFactor 27 = .ok (.getfield 109, 3) := by decide +kernel
theorem dM_readFactor_30 : decode bM_readFactor 30 = .ok (.iconst 1, 1) := by decide +kernel
theorem dM_readFactor_31 : decode bM_readFactor 31 = .ok (.iadd, 1) := by decide +kernel
theorem dM_readFactor_32 : decode bM_readFactor 32 = .ok (.putfield 109, 3) := by decide +kernel
theorem dM_readFactor_35 : decode bM_readFactor 35 = .ok (.aload_n 0, 1) := by decide +kernel
theorem dM_readFactor_36 : decode bM_readFactor 36 = .ok (.dup, 1) := by decide +kernel
theorem dM_readFactor_37 : decode bM_readFactor 37 = .ok (.getfield 106, 3) := by decide +kernel
theorem dM_readFactor_40 : decode bM_readFactor 40 = .ok (.iconst 1, 1) := by decide +kernel
theorem dM_readFactor_41 : decode bM_readFactor 41 = .ok (.iadd, 1) := by decide +kernel
theorem dM_readFactor_42 : decode bM_readFactor 42 = .ok (.putfield 106, 3) := by decide +kernel
theorem dM_readFactor_45 : decode bM_readFactor 45 = .ok (.aload_n 0, 1) := by decide +kernel
theorem dM_readFactor_46 : decode bM_readFactor 46 = .ok (.invokevirtual 139, 3) := by decide +kernel
theorem dM_readFactor_49 : decode bM_readFactor 49 = .ok (.return_, 1) := by decide +kernel
theorem dM_readFactor_50 : decode bM_readFactor 50 = .ok (.aload_n 0, 1) := by decide +kernel
theorem dM_readFactor_51 : decode bM_readFactor 51 = .ok (.iload_n 1, 1) := by decide +kernel
theorem dM_readFactor_52 : decode bM_readFactor 52 = .ok (.invokevirtual 142, 3) := by decide +kernel
theorem dM_readFactor_55 : decode bM_readFactor 55 = .ok (.istore_n 2, 1) := by decide +kernel
theorem dM_readFactor_56 : decode bM_readFactor 56 = .ok (.iload_n 1, 1) := by decide +kernel
theorem dM_readFactor_57 : decode bM_readFactor 57 = .ok (.invokestatic 121, 3) := by decide +kernel
theorem dM_readFactor_60 : decode bM_readFactor 60 = .ok (.ifCond .ne 17, 3) := by decide +kernel
theorem dM_readFactor_63 : decode bM_readFactor 63 = .ok (.iload_n 2, 1) := by decide +kernel
theorem dM_readFactor_64 : decode bM_readFactor 64 = .ok (.ifCond .ge 13, 3) := by decide +kernel
theorem dM_readFactor_67 : decode bM_readFactor 67 = .ok (.aload_n 0, 1) := by decide +kernel
theorem dM_readFactor_68 : decode bM_readFactor 68 = .ok (.iconst 1, 1) := by decide +kernel
theorem dM_readFactor_69 : decode bM_readFactor 69 = .ok (.aload_n 0, 1) := by decide +kernel
theorem dM_readFactor_70 : decode bM_readFactor 70 = .ok (.getfield 109, 3) := by decide +kernel
theorem dM_readFactor_73 : decode bM_readFactor 73 = .ok (.invokevirtual 128, 3) := by decide +kernel
theorem dM_readFactor_76 : decode bM_readFactor 76 = .ok (.return_, 1) := by decide +kernel
theorem dM_readFactor_77 : decode bM_readFactor 77 = .ok (.aload_n 0, 1) := by decide +kernel
theorem dM_readFactor_78 : decode bM_readFactor 78 = .ok (.aload_n 0, 1) := by decide +kernel
theorem dM_readFactor_79 : decode bM_readFactor 79 = .ok (.invokevirtual 145, 3) := by decide +kernel
theorem dM_readFactor_82 : decode bM_readFactor 82 = .ok (.invokevirtual 100, 3) := by decide +kernel
theorem dM_readFactor_85 : decode bM_readFactor 85 = .ok (.iload_n 2, 1) := by decide +kernel
theorem dM_readFactor_86 : decode bM_readFactor 86 = .ok (.ifCond .lt 31, 3) := by decide +kernel
theorem dM_readFactor_89 : decode bM_readFactor 89 = .ok (.aload_n 0, 1) := by decide +kernel
theorem dM_readFactor_90 : decode bM_readFactor 90 = .ok (.aload_n 0, 1) := by decide +kernel
theorem dM_readFactor_91 : decode bM_readFactor 91 = .ok (.invokevirtual 145, 3) := by decide +kernel
theorem dM_readFactor_94 : decode bM_readFactor 94 = .ok (.aload_n 0, 1) := by decide +kernel
theorem dM_readFactor_95 : decode bM_readFactor 95 = .ok (.getfield 23, 3) := by decide +kernel
theorem dM_readFactor_98 : decode bM_readFactor 98 = .ok (.iload_n 2, 1) := by decide +kernel
theorem dM_readFactor_99 : decode bM_readFactor 99 = .ok (.iaload, 1) := by decide +kernel
theorem dM_readFactor_100 : decode bM_readFactor 100 = .ok (.iconst 1, 1) := by decide +kernel
theorem dM_readFactor_101 : decode bM_readFactor 101 = .ok (.invokevirtual 85, 3) := by decide +kernel
theorem dM_readFactor_104 : decode bM_readFactor 104 = .ok (.aload_n 0, 1) := by decide +kernel
theorem dM_readFactor_105 : decode bM_readFactor 105 = .ok (.dup, 1) := by decide +kernel
theorem dM_readFactor_106 : decode bM_readFactor 106 = .ok (.getfield 109, 3) := by decide +kernel
theorem dM_readFactor_109 : decode bM_readFactor 109 = .ok (.iconst 1, 1) := by decide +kernel
theorem dM_readFactor_110 : decode bM_readFactor 110 = .ok (.iadd, 1) := by decide +kernel
theorem dM_readFactor_111 : decode bM_readFactor 111 = .ok (.putfield 109, 3) := by decide +kernel
theorem dM_readFactor_114 : decode bM_readFactor 114 = .ok (.goto 22, 3) := by decide +kernel
theorem dM_readFactor_117 : decode bM_readFactor 117 = .ok (.aload_n 0, 1) := by decide +kernel
theorem dM_readFactor_118 : decode bM_readFactor 118 = .ok (.aload_n 0, 1) := by decide +kernel
theorem dM_readFactor_119 : decode bM_readFactor 119 = .ok (.invokevirtual 145, 3) := by decide +kernel
theorem dM_readFactor_122 : decode bM_readFactor 122 = .ok (.iconst 0, 1) := by decide +kernel
theorem dM_readFactor_123 : decode bM_readFactor 123 = .ok (.aload_n 0, 1) := by decide +kernel
theorem dM_readFactor_124 : decode bM_readFactor 124 = .ok (.aload_n 0, 1) := by decide +kernel
theorem dM_readFactor_125 : decode bM_readFactor 125 = .ok (.bipush 9, 2) := by decide +kernel
theorem dM_readFactor_127 : decode bM_readFactor 127 = .ok (.invokevirtual 148, 3) := by decide +kernel
theorem dM_readFactor_130 : decode bM_readFactor 130 = .ok (.invokevirtual 92, 3) := by decide +kernel
theorem dM_readFactor_133 : decode bM_readFactor 133 = .ok (.invokevirtual 85, 3) := by decide +kernel
theorem dM_readFactor_136 : decode bM_readFactor 136 = .ok (.aload_n 0, 1) := by decide +kernel
theorem dM_readFactor_137 : decode bM_readFactor 137 = .ok (.iconst 2, 1) := by decide +kernel
theorem dM_readFactor_138 : decode bM_readFactor 138 = .ok (.putfield 136, 3) := by decide +kernel
theorem dM_readFactor_141 : decode bM_readFactor 141 = .ok (.return_, 1) := by decide +kernel
theorem dM_readPower_0 : decode bM_readPower 0 = .ok (.aload_n 0, 1) := by decide +kernel
theorem dM_readPower_1 : decode bM_readPower 1 = .ok (.iconst 3, 1) := by decide +kernel
theorem dM_readPower_2 : decode bM_readPower 2 = .ok (.putfield 136, 3) := by decide +kernel
theorem dM_readPower_5 : decode bM_readPower 5 = .ok (.iload_n 1, 1) := by decide +kernel
theorem dM_readPower_6 : decode bM_readPower 6 = .ok (.bipush 94, 2) := by decide +kernel
theorem dM_readPower_8 : decode bM_readPower 8 = .ok (.if_icmp .eq 4, 3) := by decide +kernel
theorem dM_readPower_11 : decode bM_readPower 11 = .ok (.return_, 1) := by decide +kernel
theorem dM_readPower_12 : decode bM_readPower 12 = .ok (.aload_n 0, 1) := by decide +kernel
theorem dM_readPower_13 : decode bM_readPower 13 = .ok (.getfield 109, 3) := by decide +kernel
theorem dM_readPower_16 : decode bM_readPower 16 = .ok (.istore_n 2, 1) := by decide +kernel
theorem dM_readPower_17 : decode bM_readPower 17 = .ok (.aload_n 0, 1) := by decide +kernel
theorem dM_readPower_18 : decode bM_readPower 18 = .ok (.dup, 1) := by decide +kernel
theorem dM_readPower_19 : decode bM_readPower 19 = .ok (.getfield 109, 3) := by decide +kernel
theorem dM_readPower_22 : decode bM_readPower 22 = .ok (.iconst 1, 1) := by decide +kernel
theorem dM_readPower_23 : decode bM_readPower 23 = .ok (.iadd, 1) := by decide +kernel
theorem dM_readPower_24 : decode bM_readPower 24 = .ok (.putfield 109, 3) := by decide +kernel
theorem dM_readPower_27 : decode bM_readPower 27 = .ok (.aload_n 0, 1) := by decide +kernel
theorem dM_readPower_28 : decode bM_readPower 28 = .ok (.invokevirtual 152, 3) := by decide +kernel
theorem dM_readPower_31 : decode bM_readPower 31 = .ok (.invokestatic 121, 3) := by decide +kernel
theorem dM_readPower_34 : decode bM_readPower 34 = .ok (.ifCond .ne 13, 3) := by decide +kernel
theorem dM_readPower_37 : decode bM_readPower 37 = .ok (.aload_n 0, 1) := by decide +kernel
theorem dM_readPower_38 : decode bM_readPower 38 = .ok (.iconst 1, 1) := by decide +kernel
theorem dM_readPower_39 : decode bM_readPower 39 = .ok (.aload_n 0, 1) := by decide +kernel
theorem dM_readPower_40 : decode bM_readPower 40 = .ok (.getfield 109, 3) := by decide +kernel
theorem dM_readPower_43 : decode bM_readPower 43 = .ok (.invokevirtual 128, 3) := by decide +kernel
theorem dM_readPower_46 : decode bM_readPower 46 = .ok (.return_, 1) := by decide +kernel
theorem dM_readPower_47 : decode bM_readPower 47 = .ok (.aload_n 0, 1) := by decide +kernel
theorem dM_readPower_48 : decode bM_readPower 48 = .ok (.iconst 2, 1) := by decide +kernel
theorem dM_readPower_49 : decode bM_readPower 49 = .ok (.invokevirtual 148, 3) := by decide +kernel
theorem dM_readPower_52 : decode bM_readPower 52 = .ok (.l2i, 1) := by decide +kernel
theorem dM_readPower_53 : decode bM_readPower 53 = .ok (.istore_n 3, 1) := by decide +kernel
theorem dM_readPower_54 : decode bM_readPower 54 = .ok (.aload_n 0, 1) := by decide +kernel
theorem dM_readPower_55 : decode bM_readPower 55 = .ok (.getfield 115, 3) := by decide +kernel
theorem dM_readPower_58 : decode bM_readPower 58 = .ok (.ifCond .le 4, 3) := by decide +kernel
theorem dM_readPower_61 : decode bM_readPower 61 = .ok (.return_, 1) := by decide +kernel
theorem dM_readPower_62 : decode bM_readPower 62 = .ok (.aload_n 0, 1) := by decide +kernel
theorem dM_readPower_63 : decode bM_readPower 63 = .ok (.aload_n 0, 1) := by decide +kernel
theorem dM_readPower_64 : decode bM_readPower 64 = .ok (.invokevirtual 145, 3) := by decide +kernel
theorem dM_readPower_67 : decode bM_readPower 67 = .ok (.invokevirtual 96, 3) := by decide +kernel
theorem dM_readPower_70 : decode bM_readPower 70 = .ok (.istore 4, 2) := by decide +kernel
theorem dM_readPower_72 : decode bM_readPower 72 = .ok (.iload 4, 2) := by decide +kernel
theorem dM_readPower_74 : decode bM_readPower 74 = .ok (.ifCond .le 21, 3) := by decide +kernel
theorem dM_readPower_77 : decode bM_readPower 77 = .ok (.iload 4, 2) := by decide +kernel
theorem dM_readPower_79 : decode bM_readPower 79 = .ok (.iload_n 3, 1) := by decide +kernel
theorem dM_readPower_80 : decode bM_readPower 80 = .ok (.imul, 1) := by decide +kernel
theorem dM_readPower_81 : decode bM_readPower 81 = .ok (.aload_n 0, 1) := by decide +kernel
theorem dM_readPower_82 : decode bM_readPower 82 = .ok (.getfield 61, 3) := by decide +kernel
theorem dM_readPower_85 : decode bM_readPower 85 = .ok (.if_icmp .le 10, 3) := by decide +kernel
theorem dM_readPower_88 : decode bM_readPower 88 = .ok (.aload_n 0, 1) := by decide +kernel
theorem dM_readPower_89 : decode bM_readPower 89 = .ok (.iconst 3, 1) := by decide +kernel
theorem dM_readPower_90 : decode bM_readPower 90 = .ok (.iload_n 2, 1) := by decide +kernel
theorem dM_readPower_91 : decode bM_readPower 91 = .ok (.invokevirtual 128, 3) := by decide +kernel
theorem dM_readPower_94 : decode bM_readPower 94 = .ok (.return_, 1) := by decide +kernel
theorem dM_readPower_95 : decode bM_readPower 95 = .ok (.aload_n 0, 1) := by decide +kernel
theorem dM_readPower_96 : decode bM_readPower 96 = .ok (.bipush 71, 2) := by decide +kernel
theorem dM_readPower_98 : decode bM_readPower 98 = .ok (.invokevirtual 100, 3) := by decide +kernel
theorem dM_readPower_101 : decode bM_readPower 101 = .ok (.aload_n 0, 1) := by decide +kernel
theorem dM_readPower_102 : decode bM_readPower 102 = .ok (.bipush 71, 2) := by decide +kernel
theorem dM_readPower_104 : decode bM_readPower 104 = .ok (.iconst 0, 1) := by decide +kernel
theorem dM_readPower_105 : decode bM_readPower 105 = .ok (.iconst 1, 1) := by decide +kernel
theorem dM_readPower_106 : decode bM_readPower 106 = .ok (.invokevirtual 85, 3) := by decide +kernel
theorem dM_readPower_109 : decode bM_readPower 109 = .ok (.iconst 0, 1) := by decide +kernel
theorem dM_readPower_110 : decode bM_readPower 110 = .ok (.istore 5, 2) := by decide +kernel
theorem dM_readPower_112 : decode bM_readPower 112 = .ok (.iload 5, 2) := by decide +kernel
theorem dM_readPower_114 : decode bM_readPower 114 = .ok (.iload_n 3, 1) := by decide +kernel
theorem dM_readPower_115 : decode bM_readPower 115 = .ok (.if_icmp .ge 29, 3) := by decide +kernel
theorem dM_readPower_118 : decode bM_readPower 118 = .ok (.aload_n 0, 1) := by decide +kernel
theorem dM_readPower_119 : decode bM_readPower 119 = .ok (.bipush 71, 2) := by decide +kernel
theorem dM_readPower_121 : decode bM_readPower 121 = .ok (.aload_n 0, 1) := by decide +kernel
theorem dM_readPower_122 : decode bM_readPower 122 = .ok (.invokevirtual 145, 3) := by decide +kernel
theorem dM_readPower_125 : decode bM_readPower 125 = .ok (.bipush 72, 2) := by decide +kernel
theorem dM_readPower_127 : decode bM_readPower 127 = .ok (.invokevirtual 155, 3) := by decide +kernel
theorem dM_readPower_130 : decode bM_readPower 130 = .ok (.aload_n 0, 1) := by decide +kernel
theorem dM_readPower_131 : decode bM_readPower 131 = .ok (.bipush 72, 2) := by decide +kernel
theorem dM_readPower_133 : decode bM_readPower 133 = .ok (.bipush 71, 2) := by decide +kernel
theorem dM_readPower_135 : decode bM_readPower 135 = .ok (.invokevirtual 158, 3) := by decide +kernel
theorem dM_readPower_138 : decode bM_readPower 138 = .ok (.iinc 5 1, 3) := by decide +kernel
theorem dM_readPower_141 : decode bM_readPower 141 = .ok (.goto (-29), 3) := by decide +kernel
theorem dM_readPower_144 : decode bM_readPower 144 = .ok (.aload_n 0, 1) := by decide +kernel
theorem dM_readPower_145 : decode bM_readPower 145 = .ok (.bipush 71, 2) := by decide +kernel
theorem dM_readPower_147 : decode bM_readPower 147 = .ok (.aload_n 0, 1) := by decide +kernel
theorem dM_readPower_148 : decode bM_readPower 148 = .ok (.invokevirtual 145, 3) := by decide +kernel
theorem dM_readPower_151 : decode bM_readPower 151 = .ok (.invokevirtual 158, 3) := by decide +kernel
theorem dM_readPower_154 : decode bM_readPower 154 = .ok (.return_, 1) := by decide +kernel
theorem dM_thrown_0 : decode bM_thrown 0 = .ok (.aload_n 0, 1) := by decide +kernel
theorem dM_thrown_1 : decode bM_thrown 1 = .ok (.getfield 52, 3) := by decide +kernel
theorem dM_thrown_4 : decode bM_thrown 4 = .ok (.ireturn, 1) := by decide +kernel
theorem dM_goOn_0 : decode bM_goOn 0 = .ok (.aload_n 0, 1) := by decide +kernel
theorem dM_goOn_1 : decode bM_goOn 1 = .ok (.getfield 42, 3) := by decide +kernel
theorem dM_goOn_4 : decode bM_goOn 4 = .ok (.aload_n 0, 1) := by decide +kernel
theorem dM_goOn_5 : decode bM_goOn 5 = .ok (.getfield 106, 3) := by decide +kernel
theorem dM_goOn_8 : decode bM_goOn 8 = .ok (.iaload, 1) := by decide +kernel
theorem dM_goOn_9 : decode bM_goOn 9 = .ok (.ifCond .lt 60, 3) := by decide +kernel
theorem dM_goOn_12 : decode bM_goOn 12 = .ok (.aload_n 0, 1) := by decide +kernel
theorem dM_goOn_13 : decode bM_goOn 13 = .ok (.aload_n 0, 1) := by decide +kernel
theorem dM_goOn_14 : decode bM_goOn 14 = .ok (.invokevirtual 161, 3) := by decide +kernel
theorem dM_goOn_17 : decode bM_goOn 17 = .ok (.aload_n 0, 1) := by decide +kernel
theorem dM_goOn_18 : decode bM_goOn 18 = .ok (.invokevirtual 145, 3) := by decide +kernel
theorem dM_goOn_21 : decode bM_goOn 21 = .ok (.invokevirtual 164, 3) := by decide +kernel
theorem dM_goOn_24 : decode bM_goOn 24 = .ok (.ifCond .eq 18, 3) := by decide +kernel
theorem dM_goOn_27 : decode bM_goOn 27 = .ok (.aload_n 0, 1) := by decide +kernel
theorem dM_goOn_28 : decode bM_goOn 28 = .ok (.iconst 3, 1) := by decide +kernel
theorem dM_goOn_29 : decode bM_goOn 29 = .ok (.aload_n 0, 1) := by decide +kernel
theorem dM_goOn_30 : decode bM_goOn 30 = .ok (.getfield 42, 3) := by decide +kernel
theorem dM_goOn_33 : decode bM_goOn 33 = .ok (.aload_n 0, 1) := by decide +kernel
theorem dM_goOn_34 : decode bM_goOn 34 = .ok (.getfield 106, 3) := by decide +kernel
theorem dM_goOn_37 : decode bM_goOn 37 = .ok (.iaload, 1) := by decide +kernel
theorem dM_goOn_38 : decode bM_goOn 38 = .ok (.invokevirtual 128, 3) := by decide +kernel
theorem dM_goOn_41 : decode bM_goOn 41 = .ok (.return_, 1) := by decide +kernel
theorem dM_goOn_42 : decode bM_goOn 42 = .ok (.aload_n 0, 1) := by decide +kernel
theorem dM_goOn_43 : decode bM_goOn 43 = .ok (.aload_n 0, 1) := by decide +kernel
theorem dM_goOn_44 : decode bM_goOn 44 = .ok (.invokevirtual 161, 3) := by decide +kernel
theorem dM_goOn_47 : decode bM_goOn 47 = .ok (.aload_n 0, 1) := by decide +kernel
theorem dM_goOn_48 : decode bM_goOn 48 = .ok (.invokevirtual 145, 3) := by decide +kernel
theorem dM_goOn_51 : decode bM_goOn 51 = .ok (.bipush 71, 2) := by decide +kernel
theorem dM_goOn_53 : decode bM_goOn 53 = .ok (.invokevirtual 155, 3) := by decide +kernel
theorem dM_goOn_56 : decode bM_goOn 56 = .ok (.aload_n 0, 1) := by decide +kernel
theorem dM_goOn_57 : decode bM_goOn 57 = .ok (.bipush 71, 2) := by decide +kernel
theorem dM_goOn_59 : decode bM_goOn 59 = .ok (.aload_n 0, 1) := by decide +kernel
theorem dM_goOn_60 : decode bM_goOn 60 = .ok (.invokevirtual 161, 3) := by decide +kernel
theorem dM_goOn_63 : decode bM_goOn 63 = .ok (.invokevirtual 158, 3) := by decide +kernel
theorem dM_goOn_66 : decode bM_goOn 66 = .ok (.goto 15, 3) := by decide +kernel
theorem dM_goOn_69 : decode bM_goOn 69 = .ok (.aload_n 0, 1) := by decide +kernel
theorem dM_goOn_70 : decode bM_goOn 70 = .ok (.aload_n 0, 1) := by decide +kernel
theorem dM_goOn_71 : decode bM_goOn 71 = .ok (.invokevirtual 145, 3) := by decide +kernel
theorem dM_goOn_74 : decode bM_goOn 74 = .ok (.aload_n 0, 1) := by decide +kernel
theorem dM_goOn_75 : decode bM_goOn 75 = .ok (.invokevirtual 161, 3) := by decide +kernel
theorem dM_goOn_78 : decode bM_goOn 78 = .ok (.invokevirtual 158, 3) := by decide +kernel
theorem dM_goOn_81 : decode bM_goOn 81 = .ok (.iload_n 1, 1) := by decide +kernel
theorem dM_goOn_82 : decode bM_goOn 82 = .ok (.bipush 42, 2) := by decide +kernel
theorem dM_goOn_84 : decode bM_goOn 84 = .ok (.if_icmp .ne 32, 3) := by decide +kernel
theorem dM_goOn_87 : decode bM_goOn 87 = .ok (.aload_n 0, 1) := by decide +kernel
theorem dM_goOn_88 : decode bM_goOn 88 = .ok (.getfield 42, 3) := by decide +kernel
theorem dM_goOn_91 : decode bM_goOn 91 = .ok (.aload_n 0, 1) := by decide +kernel
theorem dM_goOn_92 : decode bM_goOn 92 = .ok (.getfield 106, 3) := by decide +kernel
theorem dM_goOn_95 : decode bM_goOn 95 = .ok (.aload_n 0, 1) := by decide +kernel
theorem dM_goOn_96 : decode bM_goOn 96 = .ok (.getfield 109, 3) := by decide +kernel
theorem dM_goOn_99 : decode bM_goOn 99 = .ok (.iastore, 1) := by decide +kernel
theorem dM_goOn_100 : decode bM_goOn 100 = .ok (.aload_n 0, 1) := by decide +kernel
theorem dM_goOn_101 : decode bM_goOn 101 = .ok (.dup, 1) := by decide +kernel
theorem dM_goOn_102 : decode bM_goOn 102 = .ok (.getfield 109, 3) := by decide +kernel
theorem dM_goOn_105 : decode bM_goOn 105 = .ok (.iconst 1, 1) := by decide +kernel
theorem dM_goOn_106 : decode bM_goOn 106 = .ok (.iadd, 1) := by decide +kernel
theorem dM_goOn_107 : decode bM_goOn 107 = .ok (.putfield 109, 3) := by decide +kernel
theorem dM_goOn_110 : decode bM_goOn 110 = .ok (.aload_n 0, 1) := by decide +kernel
theorem dM_goOn_111 : decode bM_goOn 111 = .ok (.iconst 1, 1) := by decide +kernel
theorem dM_goOn_112 : decode bM_goOn 112 = .ok (.putfield 136, 3) := by decide +kernel
theorem dM_goOn_115 : decode bM_goOn 115 = .ok (.return_, 1) := by decide +kernel
theorem dM_goOn_116 : decode bM_goOn 116 = .ok (.iload_n 1, 1) := by decide +kernel
theorem dM_goOn_117 : decode bM_goOn 117 = .ok (.iconst (-1), 1) := by decide +kernel
theorem dM_goOn_118 : decode bM_goOn 118 = .ok (.if_icmp .ne 10, 3) := by decide +kernel
theorem dM_goOn_121 : decode bM_goOn 121 = .ok (.aload_n 0, 1) := by decide +kernel
theorem dM_goOn_122 : decode bM_goOn 122 = .ok (.getfield 106, 3) := by decide +kernel
theorem dM_goOn_125 : decode bM_goOn 125 = .ok (.ifCond .eq 16, 3) := by decide +kernel
theorem dM_goOn_128 : decode bM_goOn 128 = .ok (.iload_n 1, 1) := by decide +kernel
theorem dM_goOn_129 : decode bM_goOn 129 = .ok (.bipush 41, 2) := by decide +kernel
theorem dM_goOn_131 : decode bM_goOn 131 = .ok (.if_icmp .ne 14, 3) := by decide +kernel
theorem dM_goOn_134 : decode bM_goOn 134 = .ok (.aload_n 0, 1) := by decide +kernel
theorem dM_goOn_135 : decode bM_goOn 135 = .ok (.getfield 106, 3) := by decide +kernel
theorem dM_goOn_138 : decode bM_goOn 138 = .ok (.ifCond .le 7, 3) := by decide +kernel
theorem dM_goOn_141 : decode bM_goOn 141 = .ok (.iconst 1, 1) := by decide +kernel
theorem dM_goOn_142 : decode bM_goOn 142 = .ok (.goto 4, 3) := by decide +kernel
theorem dM_goOn_145 : decode bM_goOn 145 = .ok (.iconst 0, 1) := by decide +kernel
theorem dM_goOn_146 : decode bM_goOn 146 = .ok (.istore_n 2, 1) := by decide +kernel
theorem dM_goOn_147 : decode bM_goOn 147 = .ok (.iload_n 2, 1) := by decide +kernel
theorem dM_goOn_148 : decode bM_goOn 148 = .ok (.ifCond .ne 25, 3) := by decide +kernel
theorem dM_goOn_151 : decode bM_goOn 151 = .ok (.iload_n 1, 1) := by decide +kernel
theorem dM_goOn_152 : decode bM_goOn 152 = .ok (.bipush 43, 2) := by decide +kernel
theorem dM_goOn_154 : decode bM_goOn 154 = .ok (.if_icmp .eq 19, 3) := by decide +kernel
theorem dM_goOn_157 : decode bM_goOn 157 = .ok (.iload_n 1, 1) := by decide +kernel
theorem dM_goOn_158 : decode bM_goOn 158 = .ok (.bipush 45, 2) := by decide +kernel
theorem dM_goOn_160 : decode bM_goOn 160 = .ok (.if_icmp .eq 13, 3) := by decide +kernel
theorem dM_goOn_163 : decode bM_goOn 163 = .ok (.aload_n 0, 1) := by decide +kernel
theorem dM_goOn_164 : decode bM_goOn 164 = .ok (.iconst 1, 1) := by decide +kernel
theorem dM_goOn_165 : decode bM_goOn 165 = .ok (.aload_n 0, 1) := by decide +kernel
theorem dM_goOn_166 : decode bM_goOn 166 = .ok (.getfield 109, 3) := by decide +kernel
theorem dM_goOn_169 : decode bM_goOn 169 = .ok (.invokevirtual 128, 3) := by decide +kernel
theorem dM_goOn_172 : decode bM_goOn 172 = .ok (.return_, 1) := by decide +kernel
theorem dM_goOn_173 : decode bM_goOn 173 = .ok (.aload_n 0, 1) := by decide +kernel
theorem dM_goOn_174 : decode bM_goOn 174 = .ok (.aload_n 0, 1) := by decide +kernel
theorem dM_goOn_175 : decode bM_goOn 175 = .ok (.invokevirtual 161, 3) := by decide +kernel
theorem dM_goOn_178 : decode bM_goOn 178 = .ok (.aload_n 0, 1) := by decide +kernel
theorem dM_goOn_179 : decode bM_goOn 179 = .ok (.getfield 39, 3) := by decide +kernel
theorem dM_goOn_182 : decode bM_goOn 182 = .ok (.aload_n 0, 1) := by decide +kernel
theorem dM_goOn_183 : decode bM_goOn 183 = .ok (.getfield 106, 3) := by decide +kernel
theorem dM_goOn_186 : decode bM_goOn 186 = .ok (.iaload, 1) := by decide +kernel
theorem dM_goOn_187 : decode bM_goOn 187 = .ok (.ifCond .le 7, 3) := by decide +kernel
theorem dM_goOn_190 : decode bM_goOn 190 = .ok (.iconst 1, 1) := by decide +kernel
theorem dM_goOn_191 : decode bM_goOn 191 = .ok (.goto 9, 3) := by decide +kernel
theorem dM_goOn_194 : decode bM_goOn 194 = .ok (.aload_n 0, 1) := by decide +kernel
theorem dM_goOn_195 : decode bM_goOn 195 = .ok (.getfield 7, 3) := by decide +kernel
theorem dM_goOn_198 : decode bM_goOn 198 = .ok (.iconst 1, 1) := by decide +kernel
theorem dM_goOn_199 : decode bM_goOn 199 = .ok (.isub, 1) := by decide +kernel
theorem dM_goOn_200 : decode bM_goOn 200 = .ok (.aload_n 0, 1) := by decide +kernel
theorem dM_goOn_201 : decode bM_goOn 201 = .ok (.invokevirtual 132, 3) := by decide +kernel
theorem dM_goOn_204 : decode bM_goOn 204 = .ok (.invokevirtual 167, 3) := by decide +kernel
theorem dM_goOn_207 : decode bM_goOn 207 = .ok (.aload_n 0, 1) := by decide +kernel
theorem dM_goOn_208 : decode bM_goOn 208 = .ok (.getfield 42, 3) := by decide +kernel
theorem dM_goOn_211 : decode bM_goOn 211 = .ok (.aload_n 0, 1) := by decide +kernel
theorem dM_goOn_212 : decode bM_goOn 212 = .ok (.getfield 106, 3) := by decide +kernel
theorem dM_goOn_215 : decode bM_goOn 215 = .ok (.iconst (-1), 1) := by decide +kernel
theorem dM_goOn_216 : decode bM_goOn 216 = .ok (.iastore, 1) := by decide +kernel
theorem dM_goOn_217 : decode bM_goOn 217 = .ok (.aload_n 0, 1) := by decide +kernel
theorem dM_goOn_218 : decode bM_goOn 218 = .ok (.getfield 39, 3) := by decide +kernel
theorem dM_goOn_221 : decode bM_goOn 221 = .ok (.aload_n 0, 1) := by decide +kernel
theorem dM_goOn_222 : decode bM_goOn 222 = .ok (.getfield 106, 3) := by decide +kernel
theorem dM_goOn_225 : decode bM_goOn 225 = .ok (.iload_n 1, 1) := by decide +kernel
theorem dM_goOn_226 : decode bM_goOn 226 = .ok (.bipush 45, 2) := by decide +kernel
theorem dM_goOn_228 : decode bM_goOn 228 = .ok (.if_icmp .ne 7, 3) := by decide +kernel
theorem dM_goOn_231 : decode bM_goOn 231 = .ok (.iconst (-1), 1) := by decide +kernel
theorem dM_goOn_232 : decode bM_goOn 232 = .ok (.goto 4, 3) := by decide +kernel
theorem dM_goOn_235 : decode bM_goOn 235 = .ok (.iconst 1, 1) := by decide +kernel
theorem dM_goOn_236 : decode bM_goOn 236 = .ok (.iastore, 1) := by decide +kernel
theorem dM_goOn_237 : decode bM_goOn 237 = .ok (.aload_n 0, 1) := by decide +kernel
theorem dM_goOn_238 : decode bM_goOn 238 = .ok (.iconst 1, 1) := by decide +kernel
theorem dM_goOn_239 : decode bM_goOn 239 = .ok (.putfield 136, 3) := by decide +kernel
theorem dM_goOn_242 : decode bM_goOn 242 = .ok (.iload_n 1, 1) := by decide +kernel
theorem dM_goOn_243 : decode bM_goOn 243 = .ok (.iconst (-1), 1) := by decide +kernel
theorem dM_goOn_244 : decode bM_goOn 244 = .ok (.if_icmp .eq 13, 3) := by decide +kernel
theorem dM_goOn_247 : decode bM_goOn 247 = .ok (.aload_n 0, 1) := by decide +kernel
theorem dM_goOn_248 : decode bM_goOn 248 = .ok (.dup, 1) := by decide +kernel
theorem dM_goOn_249 : decode bM_goOn 249 = .ok (.getfield 109, 3) := by decide +kernel
theorem dM_goOn_252 : decode bM_goOn 252 = .ok (.iconst 1, 1) := by decide +kernel
theorem dM_goOn_253 : decode bM_goOn 253 = .ok (.iadd, 1) := by decide +kernel
theorem dM_goOn_254 : decode bM_goOn 254 = .ok (.putfield 109, 3) := by decide +kernel
theorem dM_goOn_257 : decode bM_goOn 257 = .ok (.iload_n 1, 1) := by decide +kernel
theorem dM_goOn_258 : decode bM_goOn 258 = .ok (.bipush 41, 2) := by decide +kernel
theorem dM_goOn_260 : decode bM_goOn 260 = .ok (.if_icmp .eq 4, 3) := by decide +kernel
theorem dM_goOn_263 : decode bM_goOn 263 = .ok (.return_, 1) := by decide +kernel
theorem dM_goOn_264 : decode bM_goOn 264 = .ok (.aload_n 0, 1) := by decide +kernel
theorem dM_goOn_265 : decode bM_goOn 265 = .ok (.invokevirtual 132, 3) := by decide +kernel
theorem dM_goOn_268 : decode bM_goOn 268 = .ok (.istore_n 3, 1) := by decide +kernel
theorem dM_goOn_269 : decode bM_goOn 269 = .ok (.aload_n 0, 1) := by decide +kernel
theorem dM_goOn_270 : decode bM_goOn 270 = .ok (.dup, 1) := by decide +kernel
theorem dM_goOn_271 : decode bM_goOn 271 = .ok (.getfield 106, 3) := by decide +kernel
theorem dM_goOn_274 : decode bM_goOn 274 = .ok (.iconst 1, 1) := by decide +kernel
theorem dM_goOn_275 : decode bM_goOn 275 = .ok (.isub, 1) := by decide +kernel
theorem dM_goOn_276 : decode bM_goOn 276 = .ok (.putfield 106, 3) := by decide +kernel
theorem dM_goOn_279 : decode bM_goOn 279 = .ok (.aload_n 0, 1) := by decide +kernel
theorem dM_goOn_280 : decode bM_goOn 280 = .ok (.iload_n 3, 1) := by decide +kernel
theorem dM_goOn_281 : decode bM_goOn 281 = .ok (.aload_n 0, 1) := by decide +kernel
theorem dM_goOn_282 : decode bM_goOn 282 = .ok (.invokevirtual 145, 3) := by decide +kernel
theorem dM_goOn_285 : decode bM_goOn 285 = .ok (.invokevirtual 158, 3) := by decide +kernel
theorem dM_goOn_288 : decode bM_goOn 288 = .ok (.aload_n 0, 1) := by decide +kernel
theorem dM_goOn_289 : decode bM_goOn 289 = .ok (.iconst 2, 1) := by decide +kernel
theorem dM_goOn_290 : decode bM_goOn 290 = .ok (.putfield 136, 3) := by decide +kernel
theorem dM_goOn_293 : decode bM_goOn 293 = .ok (.return_, 1) := by decide +kernel
theorem dM_read_0 : decode bM_read 0 = .ok (.aload_n 0, 1) := by decide +kernel
theorem dM_read_1 : decode bM_read 1 = .ok (.iload_n 1, 1) := by decide +kernel
theorem dM_read_2 : decode bM_read 2 = .ok (.invokestatic 170, 3) := by decide +kernel
theorem dM_read_5 : decode bM_read 5 = .ok (.ifCond .eq 7, 3) := by decide +kernel
theorem dM_read_8 : decode bM_read 8 = .ok (.iconst 0, 1) := by decide +kernel
theorem dM_read_9 : decode bM_read 9 = .ok (.goto 4, 3) := by decide +kernel
theorem dM_read_12 : decode bM_read 12 = .ok (.iconst 1, 1) := by decide +kernel
theorem dM_read_13 : decode bM_read 13 = .ok (.putfield 52, 3) := by decide +kernel
theorem dM_read_16 : decode bM_read 16 = .ok (.aload_n 0, 1) := by decide +kernel
theorem dM_read_17 : decode bM_read 17 = .ok (.getfield 52, 3) := by decide +kernel
theorem dM_read_20 : decode bM_read 20 = .ok (.ifCond .le 5, 3) := by decide +kernel
theorem dM_read_23 : decode bM_read 23 = .ok (.iconst 0, 1) := by decide +kernel
theorem dM_read_24 : decode bM_read 24 = .ok (.ireturn, 1) := by decide +kernel
theorem dM_read_25 : decode bM_read 25 = .ok (.aload_n 0, 1) := by decide +kernel
theorem dM_read_26 : decode bM_read 26 = .ok (.aload_n 0, 1) := by decide +kernel
theorem dM_read_27 : decode bM_read 27 = .ok (.getfield 103, 3) := by decide +kernel
theorem dM_read_30 : decode bM_read 30 = .ok (.putfield 112, 3) := by decide +kernel
theorem dM_read_33 : decode bM_read 33 = .ok (.iconst 0, 1) := by decide +kernel
theorem dM_read_34 : decode bM_read 34 = .ok (.istore_n 2, 1) := by decide +kernel
theorem dM_read_35 : decode bM_read 35 = .ok (.iload_n 2, 1) := by decide +kernel
theorem dM_read_36 : decode bM_read 36 = .ok (.aload_n 0, 1) := by decide +kernel
theorem dM_read_37 : decode bM_read 37 = .ok (.getfield 112, 3) := by decide +kernel
theorem dM_read_40 : decode bM_read 40 = .ok (.if_icmp .ge 21, 3) := by decide +kernel
theorem dM_read_43 : decode bM_read 43 = .ok (.aload_n 0, 1) := by decide +kernel
theorem dM_read_44 : decode bM_read 44 = .ok (.getfield 36, 3) := by decide +kernel
theorem dM_read_47 : decode bM_read 47 = .ok (.iload_n 2, 1) := by decide +kernel
theorem dM_read_48 : decode bM_read 48 = .ok (.aload_n 0, 1) := by decide +kernel
theorem dM_read_49 : decode bM_read 49 = .ok (.getfield 30, 3) := by decide +kernel
theorem dM_read_52 : decode bM_read 52 = .ok (.iload_n 2, 1) := by decide +kernel
theorem dM_read_53 : decode bM_read 53 = .ok (.iaload, 1) := by decide +kernel
theorem dM_read_54 : decode bM_read 54 = .ok (.iastore, 1) := by decide +kernel
theorem dM_read_55 : decode bM_read 55 = .ok (.iinc 2 1, 3) := by decide +kernel
theorem dM_read_58 : decode bM_read 58 = .ok (.goto (-23), 3) := by decide +kernel
theorem dM_read_61 : decode bM_read 61 = .ok (.aload_n 0, 1) := by decide +kernel
theorem dM_read_62 : decode bM_read 62 = .ok (.iconst 0, 1) := by decide +kernel
theorem dM_read_63 : decode bM_read 63 = .ok (.putfield 103, 3) := by decide +kernel
theorem dM_read_66 : decode bM_read 66 = .ok (.aload_n 0, 1) := by decide +kernel
theorem dM_read_67 : decode bM_read 67 = .ok (.iconst 0, 1) := by decide +kernel
theorem dM_read_68 : decode bM_read 68 = .ok (.putfield 109, 3) := by decide +kernel
theorem dM_read_71 : decode bM_read 71 = .ok (.aload_n 0, 1) := by decide +kernel
theorem dM_read_72 : decode bM_read 72 = .ok (.iconst 0, 1) := by decide +kernel
theorem dM_read_73 : decode bM_read 73 = .ok (.putfield 106, 3) := by decide +kernel
theorem dM_read_76 : decode bM_read 76 = .ok (.aload_n 0, 1) := by decide +kernel
theorem dM_read_77 : decode bM_read 77 = .ok (.iconst 0, 1) := by decide +kernel
theorem dM_read_78 : decode bM_read 78 = .ok (.putfield 115, 3) := by decide +kernel
theorem dM_read_81 : decode bM_read 81 = .ok (.aload_n 0, 1) := by decide +kernel
theorem dM_read_82 : decode bM_read 82 = .ok (.iconst (-1), 1) := by decide +kernel
theorem dM_read_83 : decode bM_read 83 = .ok (.putfield 118, 3) := by decide +kernel
theorem dM_read_86 : decode bM_read 86 = .ok (.aload_n 0, 1) := by decide +kernel
theorem dM_read_87 : decode bM_read 87 = .ok (.invokevirtual 139, 3) := by decide +kernel
theorem dM_read_90 : decode bM_read 90 = .ok (.iconst 1, 1) := by decide +kernel
theorem dM_read_91 : decode bM_read 91 = .ok (.istore_n 2, 1) := by decide +kernel
theorem dM_read_92 : decode bM_read 92 = .ok (.iload_n 2, 1) := by decide +kernel
theorem dM_read_93 : decode bM_read 93 = .ok (.ifCond .eq 117, 3) := by decide +kernel
theorem dM_read_96 : decode bM_read 96 = .ok (.aload_n 0, 1) := by decide +kernel
theorem dM_read_97 : decode bM_read 97 = .ok (.invokevirtual 152, 3) := by decide +kernel
theorem dM_read_100 : decode bM_read 100 = .ok (.istore_n 3, 1) := by decide +kernel
theorem dM_read_101 : decode bM_read 101 = .ok (.aload_n 0, 1) := by decide +kernel
theorem dM_read_102 : decode bM_read 102 = .ok (.getfield 136, 3) := by decide +kernel
theorem dM_read_105 : decode bM_read 105 = .ok (.ifCond .ne 37, 3) := by decide +kernel
theorem dM_read_108 : decode bM_read 108 = .ok (.iload_n 3, 1) := by decide +kernel
theorem dM_read_109 : decode bM_read 109 = .ok (.bipush 45, 2) := by decide +kernel
theorem dM_read_111 : decode bM_read 111 = .ok (.if_icmp .ne 23, 3) := by decide +kernel
theorem dM_read_114 : decode bM_read 114 = .ok (.aload_n 0, 1) := by decide +kernel
theorem dM_read_115 : decode bM_read 115 = .ok (.getfield 39, 3) := by decide +kernel
theorem dM_read_118 : decode bM_read 118 = .ok (.aload_n 0, 1) := by decide +kernel
theorem dM_read_119 : decode bM_read 119 = .ok (.getfield 106, 3) := by decide +kernel
theorem dM_read_122 : decode bM_read 122 = .ok (.iconst (-1), 1) := by decide +kernel
theorem dM_read_123 : decode bM_read 123 = .ok (.iastore, 1) := by decide +kernel
theorem dM_read_124 : decode bM_read 124 = .ok (.aload_n 0, 1) := by decide +kernel
theorem dM_read_125 : decode bM_read 125 = .ok (.dup, 1) := by decide +kernel
theorem dM_read_126 : decode bM_read 126 = .ok (.getfield 109, 3) := by decide +kernel
theorem dM_read_129 : decode bM_read 129 = .ok (.iconst 1, 1) := by decide +kernel
theorem dM_read_130 : decode bM_read 130 = .ok (.iadd, 1) := by decide +kernel
theorem dM_read_131 : decode bM_read 131 = .ok (.putfield 109, 3) := by decide +kernel
theorem dM_read_134 : decode bM_read 134 = .ok (.aload_n 0, 1) := by decide +kernel
theorem dM_read_135 : decode bM_read 135 = .ok (.iconst 1, 1) := by decide +kernel
theorem dM_read_136 : decode bM_read 136 = .ok (.putfield 136, 3) := by decide +kernel
theorem dM_read_139 : decode bM_read 139 = .ok (.goto 51, 3) := by decide +kernel
theorem dM_read_142 : decode bM_read 142 = .ok (.aload_n 0, 1) := by decide +kernel
theorem dM_read_143 : decode bM_read 143 = .ok (.getfield 136, 3) := by decide +kernel
theorem dM_read_146 : decode bM_read 146 = .ok (.iconst 1, 1) := by decide +kernel
theorem dM_read_147 : decode bM_read 147 = .ok (.if_icmp .ne 11, 3) := by decide +kernel
theorem dM_read_150 : decode bM_read 150 = .ok (.aload_n 0, 1) := by decide +kernel
theorem dM_read_151 : decode bM_read 151 = .ok (.iload_n 3, 1) := by decide +kernel
theorem dM_read_152 : decode bM_read 152 = .ok (.invokevirtual 173, 3) := by decide +kernel
theorem dM_read_155 : decode bM_read 155 = .ok (.goto 35, 3) := by decide +kernel
theorem dM_read_158 : decode bM_read 158 = .ok (.aload_n 0, 1) := by decide +kernel
theorem dM_read_159 : decode bM_read 159 = .ok (.getfield 136, 3) := by decide +kernel
theorem dM_read_162 : decode bM_read 162 = .ok (.iconst 2, 1) := by decide +kernel
theorem dM_read_163 : decode bM_read 163 = .ok (.if_icmp .ne 11, 3) := by decide +kernel
theorem dM_read_166 : decode bM_read 166 = .ok (.aload_n 0, 1) := by decide +kernel
theorem dM_read_167 : decode bM_read 167 = .ok (.iload_n 3, 1) := by decide +kernel
theorem dM_read_168 : decode bM_read 168 = .ok (.invokevirtual 176, 3) := by decide +kernel
theorem dM_read_171 : decode bM_read 171 = .ok (.goto 19, 3) := by decide +kernel
theorem dM_read_174 : decode bM_read 174 = .ok (.aload_n 0, 1) := by decide +kernel
theorem dM_read_175 : decode bM_read 175 = .ok (.iload_n 3, 1) := by decide +kernel
theorem dM_read_176 : decode bM_read 176 = .ok (.invokevirtual 179, 3) := by decide +kernel
theorem dM_read_179 : decode bM_read 179 = .ok (.iload_n 3, 1) := by decide +kernel
theorem dM_read_180 : decode bM_read 180 = .ok (.iconst (-1), 1) := by decide +kernel
theorem dM_read_181 : decode bM_read 181 = .ok (.if_icmp .eq 7, 3) := by decide +kernel
theorem dM_read_184 : decode bM_read 184 = .ok (.iconst 1, 1) := by decide +kernel
theorem dM_read_185 : decode bM_read 185 = .ok (.goto 4, 3) := by decide +kernel
theorem dM_read_188 : decode bM_read 188 = .ok (.iconst 0, 1) := by decide +kernel
theorem dM_read_189 : decode bM_read 189 = .ok (.istore_n 2, 1) := by decide +kernel
theorem dM_read_190 : decode bM_read 190 = .ok (.iload_n 2, 1) := by decide +kernel
theorem dM_read_191 : decode bM_read 191 = .ok (.ifCond .eq 14, 3) := by decide +kernel
theorem dM_read_194 : decode bM_read 194 = .ok (.aload_n 0, 1) := by decide +kernel
theorem dM_read_195 : decode bM_read 195 = .ok (.getfield 115, 3) := by decide +kernel
theorem dM_read_198 : decode bM_read 198 = .ok (.ifCond .ne 7, 3) := by decide +kernel
theorem dM_read_201 : decode bM_read 201 = .ok (.iconst 1, 1) := by decide +kernel
theorem dM_read_202 : decode bM_read 202 = .ok (.goto 4, 3) := by decide +kernel
theorem dM_read_205 : decode bM_read 205 = .ok (.iconst 0, 1) := by decide +kernel
theorem dM_read_206 : decode bM_read 206 = .ok (.istore_n 2, 1) := by decide +kernel
theorem dM_read_207 : decode bM_read 207 = .ok (.goto (-115), 3) := by decide +kernel
theorem dM_read_210 : decode bM_read 210 = .ok (.aload_n 0, 1) := by decide +kernel
theorem dM_read_211 : decode bM_read 211 = .ok (.aload_n 0, 1) := by decide +kernel
theorem dM_read_212 : decode bM_read 212 = .ok (.getfield 115, 3) := by decide +kernel
theorem dM_read_215 : decode bM_read 215 = .ok (.putfield 182, 3) := by decide +kernel
theorem dM_read_218 : decode bM_read 218 = .ok (.aload_n 0, 1) := by decide +kernel
theorem dM_read_219 : decode bM_read 219 = .ok (.aload_n 0, 1) := by decide +kernel
theorem dM_read_220 : decode bM_read 220 = .ok (.getfield 118, 3) := by decide +kernel
theorem dM_read_223 : decode bM_read 223 = .ok (.putfield 33, 3) := by decide +kernel
theorem dM_read_226 : decode bM_read 226 = .ok (.aload_n 0, 1) := by decide +kernel
theorem dM_read_227 : decode bM_read 227 = .ok (.aload_n 0, 1) := by decide +kernel
theorem dM_read_228 : decode bM_read 228 = .ok (.getfield 115, 3) := by decide +kernel
theorem dM_read_231 : decode bM_read 231 = .ok (.ifCond .le 7, 3) := by decide +kernel
theorem dM_read_234 : decode bM_read 234 = .ok (.iconst 2, 1) := by decide +kernel
theorem dM_read_235 : decode bM_read 235 = .ok (.goto 4, 3) := by decide +kernel
theorem dM_read_238 : decode bM_read 238 = .ok (.iconst 0, 1) := by decide +kernel
theorem dM_read_239 : decode bM_read 239 = .ok (.putfield 52, 3) := by decide +kernel
theorem dM_read_242 : decode bM_read 242 = .ok (.aload_n 0, 1) := by decide +kernel
theorem dM_read_243 : decode bM_read 243 = .ok (.getfield 52, 3) := by decide +kernel
theorem dM_read_246 : decode bM_read 246 = .ok (.ifCond .le 5, 3) := by decide +kernel
theorem dM_read_249 : decode bM_read 249 = .ok (.iconst 0, 1) := by decide +kernel
theorem dM_read_250 : decode bM_read 250 = .ok (.ireturn, 1) := by decide +kernel
theorem dM_read_251 : decode bM_read 251 = .ok (.aload_n 0, 1) := by decide +kernel
theorem dM_read_252 : decode bM_read 252 = .ok (.aload_n 0, 1) := by decide +kernel
theorem dM_read_253 : decode bM_read 253 = .ok (.invokevirtual 132, 3) := by decide +kernel
theorem dM_read_256 : decode bM_read 256 = .ok (.iload_n 1, 1) := by decide +kernel
theorem dM_read_257 : decode bM_read 257 = .ok (.invokevirtual 158, 3) := by decide +kernel
theorem dM_read_260 : decode bM_read 260 = .ok (.aload_n 0, 1) := by decide +kernel
theorem dM_read_261 : decode bM_read 261 = .ok (.iload_n 1, 1) := by decide +kernel
theorem dM_read_262 : decode bM_read 262 = .ok (.invokevirtual 185, 3) := by decide +kernel
theorem dM_read_265 : decode bM_read 265 = .ok (.ireturn, 1) := by decide +kernel
theorem dM_fault_0 : decode bM_fault 0 = .ok (.aload_n 0, 1) := by decide +kernel
theorem dM_fault_1 : decode bM_fault 1 = .ok (.iconst 0, 1) := by decide +kernel
theorem dM_fault_2 : decode bM_fault 2 = .ok (.putfield 52, 3) := by decide +kernel
theorem dM_fault_5 : decode bM_fault 5 = .ok (.iload_n 1, 1) := by decide +kernel
theorem dM_fault_6 : decode bM_fault 6 = .ok (.ifCond .ne 10, 3) := by decide +kernel
theorem dM_fault_9 : decode bM_fault 9 = .ok (.aload_n 0, 1) := by decide +kernel
theorem dM_fault_10 : decode bM_fault 10 = .ok (.getfield 182, 3) := by decide +kernel
theorem dM_fault_13 : decode bM_fault 13 = .ok (.goto 16, 3) := by decide +kernel
theorem dM_fault_16 : decode bM_fault 16 = .ok (.iload_n 1, 1) := by decide +kernel
theorem dM_fault_17 : decode bM_fault 17 = .ok (.iconst 1, 1) := by decide +kernel
theorem dM_fault_18 : decode bM_fault 18 = .ok (.if_icmp .ne 10, 3) := by decide +kernel
theorem dM_fault_21 : decode bM_fault 21 = .ok (.aload_n 0, 1) := by decide +kernel
theorem dM_fault_22 : decode bM_fault 22 = .ok (.getfield 33, 3) := by decide +kernel
theorem dM_fault_25 : decode bM_fault 25 = .ok (.goto 4, 3) := by decide +kernel
theorem dM_fault_28 : decode bM_fault 28 = .ok (.iconst (-1), 1) := by decide +kernel
theorem dM_fault_29 : decode bM_fault 29 = .ok (.ireturn, 1) := by decide +kernel
theorem dM_isPolynomial_0 : decode bM_isPolynomial 0 = .ok (.iload_n 0, 1) := by decide +kernel
theorem dM_isPolynomial_1 : decode bM_isPolynomial 1 = .ok (.ifCond .lt 13, 3) := by decide +kernel
theorem dM_isPolynomial_4 : decode bM_isPolynomial 4 = .ok (.iload_n 0, 1) := by decide +kernel
theorem dM_isPolynomial_5 : decode bM_isPolynomial 5 = .ok (.bipush 8, 2) := by decide +kernel
theorem dM_isPolynomial_7 : decode bM_isPolynomial 7 = .ok (.if_icmp .ge 7, 3) := by decide +kernel
theorem dM_isPolynomial_10 : decode bM_isPolynomial 10 = .ok (.iconst 1, 1) := by decide +kernel
theorem dM_isPolynomial_11 : decode bM_isPolynomial 11 = .ok (.goto 4, 3) := by decide +kernel
theorem dM_isPolynomial_14 : decode bM_isPolynomial 14 = .ok (.iconst 0, 1) := by decide +kernel
theorem dM_isPolynomial_15 : decode bM_isPolynomial 15 = .ok (.ireturn, 1) := by decide +kernel
theorem dM_lacks_0 : decode bM_lacks 0 = .ok (.aload_n 0, 1) := by decide +kernel
theorem dM_lacks_1 : decode bM_lacks 1 = .ok (.iload_n 1, 1) := by decide +kernel
theorem dM_lacks_2 : decode bM_lacks 2 = .ok (.invokestatic 170, 3) := by decide +kernel
theorem dM_lacks_5 : decode bM_lacks 5 = .ok (.ifCond .eq 18, 3) := by decide +kernel
theorem dM_lacks_8 : decode bM_lacks 8 = .ok (.iload_n 2, 1) := by decide +kernel
theorem dM_lacks_9 : decode bM_lacks 9 = .ok (.invokestatic 170, 3) := by decide +kernel
theorem dM_lacks_12 : decode bM_lacks 12 = .ok (.ifCond .eq 11, 3) := by decide +kernel
theorem dM_lacks_15 : decode bM_lacks 15 = .ok (.iload_n 3, 1) := by decide +kernel
theorem dM_lacks_16 : decode bM_lacks 16 = .ok (.ifCond .ne 7, 3) := by decide +kernel
theorem dM_lacks_19 : decode bM_lacks 19 = .ok (.iconst 0, 1) := by decide +kernel
theorem dM_lacks_20 : decode bM_lacks 20 = .ok (.goto 4, 3) := by decide +kernel
theorem dM_lacks_23 : decode bM_lacks 23 = .ok (.iconst 1, 1) := by decide +kernel
theorem dM_lacks_24 : decode bM_lacks 24 = .ok (.putfield 52, 3) := by decide +kernel
theorem dM_lacks_27 : decode bM_lacks 27 = .ok (.aload_n 0, 1) := by decide +kernel
theorem dM_lacks_28 : decode bM_lacks 28 = .ok (.getfield 52, 3) := by decide +kernel
theorem dM_lacks_31 : decode bM_lacks 31 = .ok (.ifCond .le 7, 3) := by decide +kernel
theorem dM_lacks_34 : decode bM_lacks 34 = .ok (.iconst 1, 1) := by decide +kernel
theorem dM_lacks_35 : decode bM_lacks 35 = .ok (.goto 4, 3) := by decide +kernel
theorem dM_lacks_38 : decode bM_lacks 38 = .ok (.iconst 0, 1) := by decide +kernel
theorem dM_lacks_39 : decode bM_lacks 39 = .ok (.ireturn, 1) := by decide +kernel
theorem dM_add_0 : decode bM_add 0 = .ok (.aload_n 0, 1) := by decide +kernel
theorem dM_add_1 : decode bM_add 1 = .ok (.iload_n 1, 1) := by decide +kernel
theorem dM_add_2 : decode bM_add 2 = .ok (.iload_n 3, 1) := by decide +kernel
theorem dM_add_3 : decode bM_add 3 = .ok (.iload 4, 2) := by decide +kernel
theorem dM_add_5 : decode bM_add 5 = .ok (.invokestatic 170, 3) := by decide +kernel
theorem dM_add_8 : decode bM_add 8 = .ok (.ifCond .ne 7, 3) := by decide +kernel
theorem dM_add_11 : decode bM_add 11 = .ok (.iconst 1, 1) := by decide +kernel
theorem dM_add_12 : decode bM_add 12 = .ok (.goto 4, 3) := by decide +kernel
theorem dM_add_15 : decode bM_add 15 = .ok (.iconst 0, 1) := by decide +kernel
theorem dM_add_16 : decode bM_add 16 = .ok (.invokevirtual 188, 3) := by decide +kernel
theorem dM_add_19 : decode bM_add 19 = .ok (.ifCond .eq 4, 3) := by decide +kernel
theorem dM_add_22 : decode bM_add 22 = .ok (.return_, 1) := by decide +kernel
theorem dM_add_23 : decode bM_add 23 = .ok (.aload_n 0, 1) := by decide +kernel
theorem dM_add_24 : decode bM_add 24 = .ok (.iload_n 1, 1) := by decide +kernel
theorem dM_add_25 : decode bM_add 25 = .ok (.bipush 71, 2) := by decide +kernel
theorem dM_add_27 : decode bM_add 27 = .ok (.invokevirtual 158, 3) := by decide +kernel
theorem dM_add_30 : decode bM_add 30 = .ok (.aload_n 0, 1) := by decide +kernel
theorem dM_add_31 : decode bM_add 31 = .ok (.iload_n 3, 1) := by decide +kernel
theorem dM_add_32 : decode bM_add 32 = .ok (.aload_n 0, 1) := by decide +kernel
theorem dM_add_33 : decode bM_add 33 = .ok (.iload_n 2, 1) := by decide +kernel
theorem dM_add_34 : decode bM_add 34 = .ok (.i2l, 1) := by decide +kernel
theorem dM_add_35 : decode bM_add 35 = .ok (.invokevirtual 92, 3) := by decide +kernel
theorem dM_add_38 : decode bM_add 38 = .ok (.bipush 71, 2) := by decide +kernel
theorem dM_add_40 : decode bM_add 40 = .ok (.invokevirtual 167, 3) := by decide +kernel
theorem dM_add_43 : decode bM_add 43 = .ok (.aload_n 0, 1) := by decide +kernel
theorem dM_add_44 : decode bM_add 44 = .ok (.bipush 71, 2) := by decide +kernel
theorem dM_add_46 : decode bM_add 46 = .ok (.iload 4, 2) := by decide +kernel
theorem dM_add_48 : decode bM_add 48 = .ok (.invokevirtual 158, 3) := by decide +kernel
theorem dM_add_51 : decode bM_add 51 = .ok (.return_, 1) := by decide +kernel
theorem dM_multiply_0 : decode bM_multiply 0 = .ok (.aload_n 0, 1) := by decide +kernel
theorem dM_multiply_1 : decode bM_multiply 1 = .ok (.iload_n 1, 1) := by decide +kernel
theorem dM_multiply_2 : decode bM_multiply 2 = .ok (.iload_n 2, 1) := by decide +kernel
theorem dM_multiply_3 : decode bM_multiply 3 = .ok (.iload_n 3, 1) := by decide +kernel
theorem dM_multiply_4 : decode bM_multiply 4 = .ok (.invokestatic 170, 3) := by decide +kernel
theorem dM_multiply_7 : decode bM_multiply 7 = .ok (.ifCond .ne 7, 3) := by decide +kernel
theorem dM_multiply_10 : decode bM_multiply 10 = .ok (.iconst 1, 1) := by decide +kernel
theorem dM_multiply_11 : decode bM_multiply 11 = .ok (.goto 4, 3) := by decide +kernel
theorem dM_multiply_14 : decode bM_multiply 14 = .ok (.iconst 0, 1) := by decide +kernel
theorem dM_multiply_15 : decode bM_multiply 15 = .ok (.invokevirtual 188, 3) := by decide +kernel
theorem dM_multiply_18 : decode bM_multiply 18 = .ok (.ifCond .eq 4, 3) := by decide +kernel
theorem dM_multiply_21 : decode bM_multiply 21 = .ok (.return_, 1) := by decide +kernel
theorem dM_multiply_22 : decode bM_multiply 22 = .ok (.aload_n 0, 1) := by decide +kernel
theorem dM_multiply_23 : decode bM_multiply 23 = .ok (.iload_n 1, 1) := by decide +kernel
theorem dM_multiply_24 : decode bM_multiply 24 = .ok (.iload_n 2, 1) := by decide +kernel
theorem dM_multiply_25 : decode bM_multiply 25 = .ok (.invokevirtual 164, 3) := by decide +kernel
theorem dM_multiply_28 : decode bM_multiply 28 = .ok (.ifCond .eq 9, 3) := by decide +kernel
theorem dM_multiply_31 : decode bM_multiply 31 = .ok (.aload_n 0, 1) := by decide +kernel
theorem dM_multiply_32 : decode bM_multiply 32 = .ok (.iconst 2, 1) := by decide +kernel
theorem dM_multiply_33 : decode bM_multiply 33 = .ok (.putfield 52, 3) := by decide +kernel
theorem dM_multiply_36 : decode bM_multiply 36 = .ok (.return_, 1) := by decide +kernel
theorem dM_multiply_37 : decode bM_multiply 37 = .ok (.aload_n 0, 1) := by decide +kernel
theorem dM_multiply_38 : decode bM_multiply 38 = .ok (.iload_n 1, 1) := by decide +kernel
theorem dM_multiply_39 : decode bM_multiply 39 = .ok (.iload_n 2, 1) := by decide +kernel
theorem dM_multiply_40 : decode bM_multiply 40 = .ok (.bipush 71, 2) := by decide +kernel
theorem dM_multiply_42 : decode bM_multiply 42 = .ok (.invokevirtual 155, 3) := by decide +kernel
theorem dM_multiply_45 : decode bM_multiply 45 = .ok (.aload_n 0, 1) := by decide +kernel
theorem dM_multiply_46 : decode bM_multiply 46 = .ok (.bipush 71, 2) := by decide +kernel
theorem dM_multiply_48 : decode bM_multiply 48 = .ok (.iload_n 3, 1) := by decide +kernel
theorem dM_multiply_49 : decode bM_multiply 49 = .ok (.invokevirtual 158, 3) := by decide +kernel
theorem dM_multiply_52 : decode bM_multiply 52 = .ok (.return_, 1) := by decide +kernel
theorem dM_derive_0 : decode bM_derive 0 = .ok (.aload_n 0, 1) := by decide +kernel
theorem dM_derive_1 : decode bM_derive 1 = .ok (.iload_n 1, 1) := by decide +kernel
theorem dM_derive_2 : decode bM_derive 2 = .ok (.iload_n 3, 1) := by decide +kernel
theorem dM_derive_3 : decode bM_derive 3 = .ok (.iload_n 2, 1) := by decide +kernel
theorem dM_derive_4 : decode bM_derive 4 = .ok (.ifCond .lt 11, 3) := by decide +kernel
theorem dM_derive_7 : decode bM_derive 7 = .ok (.iload_n 2, 1) := by decide +kernel
theorem dM_derive_8 : decode bM_derive 8 = .ok (.aload_n 0, 1) := by decide +kernel
theorem dM_derive_9 : decode bM_derive 9 = .ok (.getfield 55, 3) := by decide +kernel
theorem dM_derive_12 : decode bM_derive 12 = .ok (.if_icmp .lt 7, 3) := by decide +kernel
theorem dM_derive_15 : decode bM_derive 15 = .ok (.iconst 1, 1) := by decide +kernel
theorem dM_derive_16 : decode bM_derive 16 = .ok (.goto 4, 3) := by decide +kernel
theorem dM_derive_19 : decode bM_derive 19 = .ok (.iconst 0, 1) := by decide +kernel
theorem dM_derive_20 : decode bM_derive 20 = .ok (.invokevirtual 188, 3) := by decide +kernel
theorem dM_derive_23 : decode bM_derive 23 = .ok (.ifCond .eq 4, 3) := by decide +kernel
theorem dM_derive_26 : decode bM_derive 26 = .ok (.return_, 1) := by decide +kernel
theorem dM_derive_27 : decode bM_derive 27 = .ok (.aload_n 0, 1) := by decide +kernel
theorem dM_derive_28 : decode bM_derive 28 = .ok (.bipush 71, 2) := by decide +kernel
theorem dM_derive_30 : decode bM_derive 30 = .ok (.invokevirtual 100, 3) := by decide +kernel
theorem dM_derive_33 : decode bM_derive 33 = .ok (.iconst 0, 1) := by decide +kernel
theorem dM_derive_34 : decode bM_derive 34 = .ok (.istore 4, 2) := by decide +kernel
theorem dM_derive_36 : decode bM_derive 36 = .ok (.iload 4, 2) := by decide +kernel
theorem dM_derive_38 : decode bM_derive 38 = .ok (.aload_n 0, 1) := by decide +kernel
theorem dM_derive_39 : decode bM_derive 39 = .ok (.getfield 67, 3) := by decide +kernel
theorem dM_derive_42 : decode bM_derive 42 = .ok (.if_icmp .ge 67, 3) := by decide +kernel
theorem dM_derive_45 : decode bM_derive 45 = .ok (.aload_n 0, 1) := by decide +kernel
theorem dM_derive_46 : decode bM_derive 46 = .ok (.getfield 20, 3) := by decide +kernel
theorem dM_derive_49 : decode bM_derive 49 = .ok (.iload 4, 2) := by decide +kernel
theorem dM_derive_51 : decode bM_derive 51 = .ok (.iaload, 1) := by decide +kernel
theorem dM_derive_52 : decode bM_derive 52 = .ok (.istore 5, 2) := by decide +kernel
theorem dM_derive_54 : decode bM_derive 54 = .ok (.aload_n 0, 1) := by decide +kernel
theorem dM_derive_55 : decode bM_derive 55 = .ok (.getfield 17, 3) := by decide +kernel
theorem dM_derive_58 : decode bM_derive 58 = .ok (.iconst 4, 1) := by decide +kernel
theorem dM_derive_59 : decode bM_derive 59 = .ok (.iload 5, 2) := by decide +kernel
theorem dM_derive_61 : decode bM_derive 61 = .ok (.imul, 1) := by decide +kernel
theorem dM_derive_62 : decode bM_derive 62 = .ok (.iload_n 2, 1) := by decide +kernel
theorem dM_derive_63 : decode bM_derive 63 = .ok (.iadd, 1) := by decide +kernel
theorem dM_derive_64 : decode bM_derive 64 = .ok (.iaload, 1) := by decide +kernel
theorem dM_derive_65 : decode bM_derive 65 = .ok (.istore 6, 2) := by decide +kernel
theorem dM_derive_67 : decode bM_derive 67 = .ok (.iload 6, 2) := by decide +kernel
theorem dM_derive_69 : decode bM_derive 69 = .ok (.ifCond .le 34, 3) := by decide +kernel
theorem dM_derive_72 : decode bM_derive 72 = .ok (.aload_n 0, 1) := by decide +kernel
theorem dM_derive_73 : decode bM_derive 73 = .ok (.bipush 71, 2) := by decide +kernel
theorem dM_derive_75 : decode bM_derive 75 = .ok (.iload 5, 2) := by decide +kernel
theorem dM_derive_77 : decode bM_derive 77 = .ok (.aload_n 0, 1) := by decide +kernel
theorem dM_derive_78 : decode bM_derive 78 = .ok (.getfield 23, 3) := by decide +kernel
theorem dM_derive_81 : decode bM_derive 81 = .ok (.iload_n 2, 1) := by decide +kernel
theorem dM_derive_82 : decode bM_derive 82 = .ok (.iaload, 1) := by decide +kernel
theorem dM_derive_83 : decode bM_derive 83 = .ok (.isub, 1) := by decide +kernel
theorem dM_derive_84 : decode bM_derive 84 = .ok (.aload_n 0, 1) := by decide +kernel
theorem dM_derive_85 : decode bM_derive 85 = .ok (.iload 6, 2) := by decide +kernel
theorem dM_derive_87 : decode bM_derive 87 = .ok (.i2l, 1) := by decide +kernel
theorem dM_derive_88 : decode bM_derive 88 = .ok (.aload_n 0, 1) := by decide +kernel
theorem dM_derive_89 : decode bM_derive 89 = .ok (.iload_n 1, 1) := by decide +kernel
theorem dM_derive_90 : decode bM_derive 90 = .ok (.iload 5, 2) := by decide +kernel
theorem dM_derive_92 : decode bM_derive 92 = .ok (.invokevirtual 88, 3) := by decide +kernel
theorem dM_derive_95 : decode bM_derive 95 = .ok (.i2l, 1) := by decide +kernel
theorem dM_derive_96 : decode bM_derive 96 = .ok (.lmul, 1) := by decide +kernel
theorem dM_derive_97 : decode bM_derive 97 = .ok (.invokevirtual 92, 3) := by decide +kernel
theorem dM_derive_100 : decode bM_derive 100 = .ok (.invokevirtual 85, 3) := by decide +kernel
theorem dM_derive_103 : decode bM_derive 103 = .ok (.iinc 4 1, 3) := by decide +kernel
theorem dM_derive_106 : decode bM_derive 106 = .ok (.goto (-70), 3) := by decide +kernel
theorem dM_derive_109 : decode bM_derive 109 = .ok (.aload_n 0, 1) := by decide +kernel
theorem dM_derive_110 : decode bM_derive 110 = .ok (.bipush 71, 2) := by decide +kernel
theorem dM_derive_112 : decode bM_derive 112 = .ok (.iload_n 3, 1) := by decide +kernel
theorem dM_derive_113 : decode bM_derive 113 = .ok (.invokevirtual 158, 3) := by decide +kernel
theorem dM_derive_116 : decode bM_derive 116 = .ok (.return_, 1) := by decide +kernel
theorem dM_power_0 : decode bM_power 0 = .ok (.aload_n 0, 1) := by decide +kernel
theorem dM_power_1 : decode bM_power 1 = .ok (.lconst 1, 1) := by decide +kernel
theorem dM_power_2 : decode bM_power 2 = .ok (.invokevirtual 92, 3) := by decide +kernel
theorem dM_power_5 : decode bM_power 5 = .ok (.istore_n 3, 1) := by decide +kernel
theorem dM_power_6 : decode bM_power 6 = .ok (.iconst 0, 1) := by decide +kernel
theorem dM_power_7 : decode bM_power 7 = .ok (.istore 4, 2) := by decide +kernel
theorem dM_power_9 : decode bM_power 9 = .ok (.iload 4, 2) := by decide +kernel
theorem dM_power_11 : decode bM_power 11 = .ok (.iload_n 2, 1) := by decide +kernel
theorem dM_power_12 : decode bM_power 12 = .ok (.if_icmp .ge 24, 3) := by decide +kernel
theorem dM_power_15 : decode bM_power 15 = .ok (.aload_n 0, 1) := by decide +kernel
theorem dM_power_16 : decode bM_power 16 = .ok (.iload_n 3, 1) := by decide +kernel
theorem dM_power_17 : decode bM_power 17 = .ok (.i2l, 1) := by decide +kernel
theorem dM_power_18 : decode bM_power 18 = .ok (.aload_n 0, 1) := by decide +kernel
theorem dM_power_19 : decode bM_power 19 = .ok (.iload_n 1, 1) := by decide +kernel
theorem dM_power_20 : decode bM_power 20 = .ok (.i2l, 1) := by decide +kernel
theorem dM_power_21 : decode bM_power 21 = .ok (.invokevirtual 92, 3) := by decide +kernel
theorem dM_power_24 : decode bM_power 24 = .ok (.i2l, 1) := by decide +kernel
theorem dM_power_25 : decode bM_power 25 = .ok (.lmul, 1) := by decide +kernel
theorem dM_power_26 : decode bM_power 26 = .ok (.invokevirtual 92, 3) := by decide +kernel
theorem dM_power_29 : decode bM_power 29 = .ok (.istore_n 3, 1) := by decide +kernel
theorem dM_power_30 : decode bM_power 30 = .ok (.iinc 4 1, 3) := by decide +kernel
theorem dM_power_33 : decode bM_power 33 = .ok (.goto (-24), 3) := by decide +kernel
theorem dM_power_36 : decode bM_power 36 = .ok (.iload_n 3, 1) := by decide +kernel
theorem dM_power_37 : decode bM_power 37 = .ok (.ireturn, 1) := by decide +kernel
theorem dM_set_0 : decode bM_set 0 = .ok (.aload_n 0, 1) := by decide +kernel
theorem dM_set_1 : decode bM_set 1 = .ok (.iload_n 1, 1) := by decide +kernel
theorem dM_set_2 : decode bM_set 2 = .ok (.iload 4, 2) := by decide +kernel
theorem dM_set_4 : decode bM_set 4 = .ok (.iload_n 2, 1) := by decide +kernel
theorem dM_set_5 : decode bM_set 5 = .ok (.ifCond .lt 11, 3) := by decide +kernel
theorem dM_set_8 : decode bM_set 8 = .ok (.iload_n 2, 1) := by decide +kernel
theorem dM_set_9 : decode bM_set 9 = .ok (.aload_n 0, 1) := by decide +kernel
theorem dM_set_10 : decode bM_set 10 = .ok (.getfield 55, 3) := by decide +kernel
theorem dM_set_13 : decode bM_set 13 = .ok (.if_icmp .lt 7, 3) := by decide +kernel
theorem dM_set_16 : decode bM_set 16 = .ok (.iconst 1, 1) := by decide +kernel
theorem dM_set_17 : decode bM_set 17 = .ok (.goto 4, 3) := by decide +kernel
theorem dM_set_20 : decode bM_set 20 = .ok (.iconst 0, 1) := by decide +kernel
theorem dM_set_21 : decode bM_set 21 = .ok (.invokevirtual 188, 3) := by decide +kernel
theorem dM_set_24 : decode bM_set 24 = .ok (.ifCond .eq 4, 3) := by decide +kernel
theorem dM_set_27 : decode bM_set 27 = .ok (.return_, 1) := by decide +kernel
theorem dM_set_28 : decode bM_set 28 = .ok (.aload_n 0, 1) := by decide +kernel
theorem dM_set_29 : decode bM_set 29 = .ok (.bipush 71, 2) := by decide +kernel
theorem dM_set_31 : decode bM_set 31 = .ok (.invokevirtual 100, 3) := by decide +kernel
theorem dM_set_34 : decode bM_set 34 = .ok (.iconst 0, 1) := by decide +kernel
theorem dM_set_35 : decode bM_set 35 = .ok (.istore 5, 2) := by decide +kernel
theorem dM_set_37 : decode bM_set 37 = .ok (.iload 5, 2) := by decide +kernel
theorem dM_set_39 : decode bM_set 39 = .ok (.aload_n 0, 1) := by decide +kernel
theorem dM_set_40 : decode bM_set 40 = .ok (.getfield 67, 3) := by decide +kernel
theorem dM_set_43 : decode bM_set 43 = .ok (.if_icmp .ge 84, 3) := by decide +kernel
theorem dM_set_46 : decode bM_set 46 = .ok (.aload_n 0, 1) := by decide +kernel
theorem dM_set_47 : decode bM_set 47 = .ok (.getfield 20, 3) := by decide +kernel
theorem dM_set_50 : decode bM_set 50 = .ok (.iload 5, 2) := by decide +kernel
theorem dM_set_52 : decode bM_set 52 = .ok (.iaload, 1) := by decide +kernel
theorem dM_set_53 : decode bM_set 53 = .ok (.istore 6, 2) := by decide +kernel
theorem dM_set_55 : decode bM_set 55 = .ok (.aload_n 0, 1) := by decide +kernel
theorem dM_set_56 : decode bM_set 56 = .ok (.getfield 17, 3) := by decide +kernel
theorem dM_set_59 : decode bM_set 59 = .ok (.iconst 4, 1) := by decide +kernel
theorem dM_set_60 : decode bM_set 60 = .ok (.iload 6, 2) := by decide +kernel
theorem dM_set_62 : decode bM_set 62 = .ok (.imul, 1) := by decide +kernel
theorem dM_set_63 : decode bM_set 63 = .ok (.iload_n 2, 1) := by decide +kernel
theorem dM_set_64 : decode bM_set 64 = .ok (.iadd, 1) := by decide +kernel
theorem dM_set_65 : decode bM_set 65 = .ok (.iaload, 1) := by decide +kernel
theorem dM_set_66 : decode bM_set 66 = .ok (.istore 7, 2) := by decide +kernel
theorem dM_set_68 : decode bM_set 68 = .ok (.iload 6, 2) := by decide +kernel
theorem dM_set_70 : decode bM_set 70 = .ok (.iload 7, 2) := by decide +kernel
theorem dM_set_72 : decode bM_set 72 = .ok (.aload_n 0, 1) := by decide +kernel
theorem dM_set_73 : decode bM_set 73 = .ok (.getfield 23, 3) := by decide +kernel
theorem dM_set_76 : decode bM_set 76 = .ok (.iload_n 2, 1) := by decide +kernel
theorem dM_set_77 : decode bM_set 77 = .ok (.iaload, 1) := by decide +kernel
theorem dM_set_78 : decode bM_set 78 = .ok (.imul, 1) := by decide +kernel
theorem dM_set_79 : decode bM_set 79 = .ok (.isub, 1) := by decide +kernel
theorem dM_set_80 : decode bM_set 80 = .ok (.istore 8, 2) := by decide +kernel
theorem dM_set_82 : decode bM_set 82 = .ok (.aload_n 0, 1) := by decide +kernel
theorem dM_set_83 : decode bM_set 83 = .ok (.bipush 71, 2) := by decide +kernel
theorem dM_set_85 : decode bM_set 85 = .ok (.iload 8, 2) := by decide +kernel
theorem dM_set_87 : decode bM_set 87 = .ok (.aload_n 0, 1) := by decide +kernel
theorem dM_set_88 : decode bM_set 88 = .ok (.aload_n 0, 1) := by decide +kernel
theorem dM_set_89 : decode bM_set 89 = .ok (.bipush 71, 2) := by decide +kernel
theorem dM_set_91 : decode bM_set 91 = .ok (.iload 8, 2) := by decide +kernel
theorem dM_set_93 : decode bM_set 93 = .ok (.invokevirtual 88, 3) := by decide +kernel
theorem dM_set_96 : decode bM_set 96 = .ok (.i2l, 1) := by decide +kernel
theorem dM_set_97 : decode bM_set 97 = .ok (.aload_n 0, 1) := by decide +kernel
theorem dM_set_98 : decode bM_set 98 = .ok (.iload_n 1, 1) := by decide +kernel
theorem dM_set_99 : decode bM_set 99 = .ok (.iload 6, 2) := by decide +kernel
theorem dM_set_101 : decode bM_set 101 = .ok (.invokevirtual 88, 3) := by decide +kernel
theorem dM_set_104 : decode bM_set 104 = .ok (.i2l, 1) := by decide +kernel
theorem dM_set_105 : decode bM_set 105 = .ok (.aload_n 0, 1) := by decide +kernel
theorem dM_set_106 : decode bM_set 106 = .ok (.iload_n 3, 1) := by decide +kernel
theorem dM_set_107 : decode bM_set 107 = .ok (.iload 7, 2) := by decide +kernel
theorem dM_set_109 : decode bM_set 109 = .ok (.invokevirtual 192, 3) := by decide +kernel
theorem dM_set_112 : decode bM_set 112 = .ok (.i2l, 1) := by decide +kernel
theorem dM_set_113 : decode bM_set 113 = .ok (.lmul, 1) := by decide +kernel
theorem dM_set_114 : decode bM_set 114 = .ok (.ladd, 1) := by decide +kernel
theorem dM_set_115 : decode bM_set 115 = .ok (.invokevirtual 92, 3) := by decide +kernel
theorem dM_set_118 : decode bM_set 118 = .ok (.invokevirtual 85, 3) := by decide +kernel
theorem dM_set_121 : decode bM_set 121 = .ok (.iinc 5 1, 3) := by decide +kernel
theorem dM_set_124 : decode bM_set 124 = .ok (.goto (-87), 3) := by decide +kernel
theorem dM_set_127 : decode bM_set 127 = .ok (.aload_n 0, 1) := by decide +kernel
theorem dM_set_128 : decode bM_set 128 = .ok (.bipush 71, 2) := by decide +kernel
theorem dM_set_130 : decode bM_set 130 = .ok (.iload 4, 2) := by decide +kernel
theorem dM_set_132 : decode bM_set 132 = .ok (.invokevirtual 158, 3) := by decide +kernel
theorem dM_set_135 : decode bM_set 135 = .ok (.return_, 1) := by decide +kernel
theorem dM_isPrime_0 : decode bM_isPrime 0 = .ok (.iload_n 0, 1) := by decide +kernel
theorem dM_isPrime_1 : decode bM_isPrime 1 = .ok (.iconst 2, 1) := by decide +kernel
theorem dM_isPrime_2 : decode bM_isPrime 2 = .ok (.if_icmp .lt 10, 3) := by decide +kernel
theorem dM_isPrime_5 : decode bM_isPrime 5 = .ok (.iload_n 0, 1) := by decide +kernel
theorem dM_isPrime_6 : decode bM_isPrime 6 = .ok (.sipush 32003, 3) := by decide +kernel
theorem dM_isPrime_9 : decode bM_isPrime 9 = .ok (.if_icmp .le 5, 3) := by decide +kernel
theorem dM_isPrime_12 : decode bM_isPrime 12 = .ok (.iconst 0, 1) := by decide +kernel
theorem dM_isPrime_13 : decode bM_isPrime 13 = .ok (.ireturn, 1) := by decide +kernel
theorem dM_isPrime_14 : decode bM_isPrime 14 = .ok (.iconst 2, 1) := by decide +kernel
theorem dM_isPrime_15 : decode bM_isPrime 15 = .ok (.istore_n 1, 1) := by decide +kernel
theorem dM_isPrime_16 : decode bM_isPrime 16 = .ok (.iload_n 1, 1) := by decide +kernel
theorem dM_isPrime_17 : decode bM_isPrime 17 = .ok (.iload_n 1, 1) := by decide +kernel
theorem dM_isPrime_18 : decode bM_isPrime 18 = .ok (.imul, 1) := by decide +kernel
theorem dM_isPrime_19 : decode bM_isPrime 19 = .ok (.iload_n 0, 1) := by decide +kernel
theorem dM_isPrime_20 : decode bM_isPrime 20 = .ok (.if_icmp .gt 17, 3) := by decide +kernel
theorem dM_isPrime_23 : decode bM_isPrime 23 = .ok (.iload_n 0, 1) := by decide +kernel
theorem dM_isPrime_24 : decode bM_isPrime 24 = .ok (.iload_n 1, 1) := by decide +kernel
theorem dM_isPrime_25 : decode bM_isPrime 25 = .ok (.irem, 1) := by decide +kernel
theorem dM_isPrime_26 : decode bM_isPrime 26 = .ok (.ifCond .ne 5, 3) := by decide +kernel
theorem dM_isPrime_29 : decode bM_isPrime 29 = .ok (.iconst 0, 1) := by decide +kernel
theorem dM_isPrime_30 : decode bM_isPrime 30 = .ok (.ireturn, 1) := by decide +kernel
theorem dM_isPrime_31 : decode bM_isPrime 31 = .ok (.iinc 1 1, 3) := by decide +kernel
theorem dM_isPrime_34 : decode bM_isPrime 34 = .ok (.goto (-18), 3) := by decide +kernel
theorem dM_isPrime_37 : decode bM_isPrime 37 = .ok (.iconst 1, 1) := by decide +kernel
theorem dM_isPrime_38 : decode bM_isPrime 38 = .ok (.ireturn, 1) := by decide +kernel
theorem dM_value_0 : decode bM_value 0 = .ok (.aload_n 0, 1) := by decide +kernel
theorem dM_value_1 : decode bM_value 1 = .ok (.iload_n 1, 1) := by decide +kernel
theorem dM_value_2 : decode bM_value 2 = .ok (.iload_n 1, 1) := by decide +kernel
theorem dM_value_3 : decode bM_value 3 = .ok (.iconst 0, 1) := by decide +kernel
theorem dM_value_4 : decode bM_value 4 = .ok (.invokevirtual 188, 3) := by decide +kernel
theorem dM_value_7 : decode bM_value 7 = .ok (.ifCond .eq 5, 3) := by decide +kernel
theorem dM_value_10 : decode bM_value 10 = .ok (.iconst 0, 1) := by decide +kernel
theorem dM_value_11 : decode bM_value 11 = .ok (.ireturn, 1) := by decide +kernel
theorem dM_value_12 : decode bM_value 12 = .ok (.iconst 0, 1) := by decide +kernel
theorem dM_value_13 : decode bM_value 13 = .ok (.istore 6, 2) := by decide +kernel
theorem dM_value_15 : decode bM_value 15 = .ok (.iconst 0, 1) := by decide +kernel
theorem dM_value_16 : decode bM_value 16 = .ok (.istore 7, 2) := by decide +kernel
theorem dM_value_18 : decode bM_value 18 = .ok (.iload 7, 2) := by decide +kernel
theorem dM_value_20 : decode bM_value 20 = .ok (.aload_n 0, 1) := by decide +kernel
theorem dM_value_21 : decode bM_value 21 = .ok (.getfield 67, 3) := by decide +kernel
theorem dM_value_24 : decode bM_value 24 = .ok (.if_icmp .ge 148, 3) := by decide +kernel
theorem dM_value_27 : decode bM_value 27 = .ok (.aload_n 0, 1) := by decide +kernel
theorem dM_value_28 : decode bM_value 28 = .ok (.getfield 20, 3) := by decide +kernel
theorem dM_value_31 : decode bM_value 31 = .ok (.iload 7, 2) := by decide +kernel
theorem dM_value_33 : decode bM_value 33 = .ok (.iaload, 1) := by decide +kernel
theorem dM_value_34 : decode bM_value 34 = .ok (.istore 8, 2) := by decide +kernel
theorem dM_value_36 : decode bM_value 36 = .ok (.aload_n 0, 1) := by decide +kernel
theorem dM_value_37 : decode bM_value 37 = .ok (.iload_n 1, 1) := by decide +kernel
theorem dM_value_38 : decode bM_value 38 = .ok (.iload 8, 2) := by decide +kernel
theorem dM_value_40 : decode bM_value 40 = .ok (.invokevirtual 88, 3) := by decide +kernel
theorem dM_value_43 : decode bM_value 43 = .ok (.ifCond .ne 6, 3) := by decide +kernel
theorem dM_value_46 : decode bM_value 46 = .ok (.goto 120, 3) := by decide +kernel
theorem dM_value_49 : decode bM_value 49 = .ok (.aload_n 0, 1) := by decide +kernel
theorem dM_value_50 : decode bM_value 50 = .ok (.aload_n 0, 1) := by decide +kernel
theorem dM_value_51 : decode bM_value 51 = .ok (.iload_n 1, 1) := by decide +kernel
theorem dM_value_52 : decode bM_value 52 = .ok (.iload 8, 2) := by decide +kernel
theorem dM_value_54 : decode bM_value 54 = .ok (.invokevirtual 88, 3) := by decide +kernel
theorem dM_value_57 : decode bM_value 57 = .ok (.i2l, 1) := by decide +kernel
theorem dM_value_58 : decode bM_value 58 = .ok (.aload_n 0, 1) := by decide +kernel
theorem dM_value_59 : decode bM_value 59 = .ok (.iload_n 2, 1) := by decide +kernel
theorem dM_value_60 : decode bM_value 60 = .ok (.aload_n 0, 1) := by decide +kernel
theorem dM_value_61 : decode bM_value 61 = .ok (.getfield 17, 3) := by decide +kernel
theorem dM_value_64 : decode bM_value 64 = .ok (.iconst 4, 1) := by decide +kernel
theorem dM_value_65 : decode bM_value 65 = .ok (.iload 8, 2) := by decide +kernel
theorem dM_value_67 : decode bM_value 67 = .ok (.imul, 1) := by decide +kernel
theorem dM_value_68 : decode bM_value 68 = .ok (.iaload, 1) := by decide +kernel
theorem dM_value_69 : decode bM_value 69 = .ok (.invokevirtual 192, 3) := by decide +kernel
theorem dM_value_72 : decode bM_value 72 = .ok (.i2l, 1) := by decide +kernel
theorem dM_value_73 : decode bM_value 73 = .ok (.lmul, 1) := by decide +kernel
theorem dM_value_74 : decode bM_value 74 = .ok (.invokevirtual 92, 3) := by decide +kernel
theorem dM_value_77 : decode bM_value 77 = .ok (.istore 9, 2) := by decide +kernel
theorem dM_value_79 : decode bM_value 79 = .ok (.aload_n 0, 1) := by decide +kernel
theorem dM_value_80 : decode bM_value 80 = .ok (.iload 9, 2) := by decide +kernel
theorem dM_value_82 : decode bM_value 82 = .ok (.i2l, 1) := by decide +kernel
theorem dM_value_83 : decode bM_value 83 = .ok (.aload_n 0, 1) := by decide +kernel
theorem dM_value_84 : decode bM_value 84 = .ok (.iload_n 3, 1) := by decide +kernel
theorem dM_value_85 : decode bM_value 85 = .ok (.aload_n 0, 1) := by decide +kernel
theorem dM_value_86 : decode bM_value 86 = .ok (.getfield 17, 3) := by decide +kernel
theorem dM_value_89 : decode bM_value 89 = .ok (.iconst 4, 1) := by decide +kernel
theorem dM_value_90 : decode bM_value 90 = .ok (.iload 8, 2) := by decide +kernel
theorem dM_value_92 : decode bM_value 92 = .ok (.imul, 1) := by decide +kernel
theorem dM_value_93 : decode bM_value 93 = .ok (.iconst 1, 1) := by decide +kernel
theorem dM_value_94 : decode bM_value 94 = .ok (.iadd, 1) := by decide +kernel
theorem dM_value_95 : decode bM_value 95 = .ok (.iaload, 1) := by decide +kernel
theorem dM_value_96 : decode bM_value 96 = .ok (.invokevirtual 192, 3) := by decide +kernel
theorem dM_value_99 : decode bM_value 99 = .ok (.i2l, 1) := by decide +kernel
theorem dM_value_100 : decode bM_value 100 = .ok (.lmul, 1) := by decide +kernel
theorem dM_value_101 : decode bM_value 101 = .ok (.invokevirtual 92, 3) := by decide +kernel
theorem dM_value_104 : decode bM_value 104 = .ok (.istore 9, 2) := by decide +kernel
theorem dM_value_106 : decode bM_value 106 = .ok (.aload_n 0, 1) := by decide +kernel
theorem dM_value_107 : decode bM_value 107 = .ok (.iload 9, 2) := by decide +kernel
theorem dM_value_109 : decode bM_value 109 = .ok (.i2l, 1) := by decide +kernel
theorem dM_value_110 : decode bM_value 110 = .ok (.aload_n 0, 1) := by decide +kernel
theorem dM_value_111 : decode bM_value 111 = .ok (.iload 4, 2) := by decide +kernel
theorem dM_value_113 : decode bM_value 113 = .ok (.aload_n 0, 1) := by decide +kernel
theorem dM_value_114 : decode bM_value 114 = .ok (.getfield 17, 3) := by decide +kernel
theorem dM_value_117 : decode bM_value 117 = .ok (.iconst 4, 1) := by decide +kernel
theorem dM_value_118 : decode bM_value 118 = .ok (.iload 8, 2) := by decide +kernel
theorem dM_value_120 : decode bM_value 120 = .ok (.imul, 1) := by decide +kernel
theorem dM_value_121 : decode bM_value 121 = .ok (.iconst 2, 1) := by decide +kernel
theorem dM_value_122 : decode bM_value 122 = .ok (.iadd, 1) := by decide +kernel
theorem dM_value_123 : decode bM_value 123 = .ok (.iaload, 1) := by decide +kernel
theorem dM_value_124 : decode bM_value 124 = .ok (.invokevirtual 192, 3) := by decide +kernel
theorem dM_value_127 : decode bM_value 127 = .ok (.i2l, 1) := by decide +kernel
theorem dM_value_128 : decode bM_value 128 = .ok (.lmul, 1) := by decide +kernel
theorem dM_value_129 : decode bM_value 129 = .ok (.invokevirtual 92, 3) := by decide +kernel
theorem dM_value_132 : decode bM_value 132 = .ok (.istore 9, 2) := by decide +kernel
theorem dM_value_134 : decode bM_value 134 = .ok (.aload_n 0, 1) := by decide +kernel
theorem dM_value_135 : decode bM_value 135 = .ok (.iload 6, 2) := by decide +kernel
theorem dM_value_137 : decode bM_value 137 = .ok (.i2l, 1) := by decide +kernel
theorem dM_value_138 : decode bM_value 138 = .ok (.iload 9, 2) := by decide +kernel
theorem dM_value_140 : decode bM_value 140 = .ok (.i2l, 1) := by decide +kernel
theorem dM_value_141 : decode bM_value 141 = .ok (.aload_n 0, 1) := by decide +kernel
theorem dM_value_142 : decode bM_value 142 = .ok (.iload 5, 2) := by decide +kernel
theorem dM_value_144 : decode bM_value 144 = .ok (.aload_n 0, 1) := by decide +kernel
theorem dM_value_145 : decode bM_value 145 = .ok (.getfield 17, 3) := by decide +kernel
theorem dM_value_148 : decode bM_value 148 = .ok (.iconst 4, 1) := by decide +kernel
theorem dM_value_149 : decode bM_value 149 = .ok (.iload 8, 2) := by decide +kernel
theorem dM_value_151 : decode bM_value 151 = .ok (.imul, 1) := by decide +kernel
theorem dM_value_152 : decode bM_value 152 = .ok (.iconst 3, 1) := by decide +kernel
theorem dM_value_153 : decode bM_value 153 = .ok (.iadd, 1) := by decide +kernel
theorem dM_value_154 : decode bM_value 154 = .ok (.iaload, 1) := by decide +kernel
theorem dM_value_155 : decode bM_value 155 = .ok (.invokevirtual 192, 3) := by decide +kernel
theorem dM_value_158 : decode bM_value 158 = .ok (.i2l, 1) := by decide +kernel
theorem dM_value_159 : decode bM_value 159 = .ok (.lmul, 1) := by decide +kernel
theorem dM_value_160 : decode bM_value 160 = .ok (.ladd, 1) := by decide +kernel
theorem dM_value_161 : decode bM_value 161 = .ok (.invokevirtual 92, 3) := by decide +kernel
theorem dM_value_164 : decode bM_value 164 = .ok (.istore 6, 2) := by decide +kernel
theorem dM_value_166 : decode bM_value 166 = .ok (.iinc 7 1, 3) := by decide +kernel
theorem dM_value_169 : decode bM_value 169 = .ok (.goto (-151), 3) := by decide +kernel
theorem dM_value_172 : decode bM_value 172 = .ok (.iload 6, 2) := by decide +kernel
theorem dM_value_174 : decode bM_value 174 = .ok (.ireturn, 1) := by decide +kernel
theorem dM_about_0 : decode bM_about 0 = .ok (.aload_n 0, 1) := by decide +kernel
theorem dM_about_1 : decode bM_about 1 = .ok (.iconst 0, 1) := by decide +kernel
theorem dM_about_2 : decode bM_about 2 = .ok (.putfield 52, 3) := by decide +kernel
theorem dM_about_5 : decode bM_about 5 = .ok (.iload_n 1, 1) := by decide +kernel
theorem dM_about_6 : decode bM_about 6 = .ok (.invokestatic 170, 3) := by decide +kernel
theorem dM_about_9 : decode bM_about 9 = .ok (.ifCond .ne 5, 3) := by decide +kernel
theorem dM_about_12 : decode bM_about 12 = .ok (.iconst (-1), 1) := by decide +kernel
theorem dM_about_13 : decode bM_about 13 = .ok (.ireturn, 1) := by decide +kernel
theorem dM_about_14 : decode bM_about 14 = .ok (.iload_n 2, 1) := by decide +kernel
theorem dM_about_15 : decode bM_about 15 = .ok (.ifCond .ne 11, 3) := by decide +kernel
theorem dM_about_18 : decode bM_about 18 = .ok (.aload_n 0, 1) := by decide +kernel
theorem dM_about_19 : decode bM_about 19 = .ok (.iload_n 1, 1) := by decide +kernel
theorem dM_about_20 : decode bM_about 20 = .ok (.invokevirtual 185, 3) := by decide +kernel
theorem dM_about_23 : decode bM_about 23 = .ok (.goto 17, 3) := by decide +kernel
theorem dM_about_26 : decode bM_about 26 = .ok (.iload_n 2, 1) := by decide +kernel
theorem dM_about_27 : decode bM_about 27 = .ok (.iconst 1, 1) := by decide +kernel
theorem dM_about_28 : decode bM_about 28 = .ok (.if_icmp .ne 11, 3) := by decide +kernel
theorem dM_about_31 : decode bM_about 31 = .ok (.aload_n 0, 1) := by decide +kernel
theorem dM_about_32 : decode bM_about 32 = .ok (.iload_n 1, 1) := by decide +kernel
theorem dM_about_33 : decode bM_about 33 = .ok (.invokevirtual 96, 3) := by decide +kernel
theorem dM_about_36 : decode bM_about 36 = .ok (.goto 4, 3) := by decide +kernel
theorem dM_about_39 : decode bM_about 39 = .ok (.iconst (-1), 1) := by decide +kernel
theorem dM_about_40 : decode bM_about 40 = .ok (.ireturn, 1) := by decide +kernel
theorem dM_placeOf_0 : decode bM_placeOf 0 = .ok (.iload_n 2, 1) := by decide +kernel
theorem dM_placeOf_1 : decode bM_placeOf 1 = .ok (.istore_n 3, 1) := by decide +kernel
theorem dM_placeOf_2 : decode bM_placeOf 2 = .ok (.iconst 0, 1) := by decide +kernel
theorem dM_placeOf_3 : decode bM_placeOf 3 = .ok (.istore 4, 2) := by decide +kernel
theorem dM_placeOf_5 : decode bM_placeOf 5 = .ok (.iload 4, 2) := by decide +kernel
theorem dM_placeOf_7 : decode bM_placeOf 7 = .ok (.aload_n 0, 1) := by decide +kernel
theorem dM_placeOf_8 : decode bM_placeOf 8 = .ok (.getfield 67, 3) := by decide +kernel
theorem dM_placeOf_11 : decode bM_placeOf 11 = .ok (.if_icmp .ge 42, 3) := by decide +kernel
theorem dM_placeOf_14 : decode bM_placeOf 14 = .ok (.aload_n 0, 1) := by decide +kernel
theorem dM_placeOf_15 : decode bM_placeOf 15 = .ok (.iload_n 1, 1) := by decide +kernel
theorem dM_placeOf_16 : decode bM_placeOf 16 = .ok (.aload_n 0, 1) := by decide +kernel
theorem dM_placeOf_17 : decode bM_placeOf 17 = .ok (.getfield 20, 3) := by decide +kernel
theorem dM_placeOf_20 : decode bM_placeOf 20 = .ok (.iload 4, 2) := by decide +kernel
theorem dM_placeOf_22 : decode bM_placeOf 22 = .ok (.iaload, 1) := by decide +kernel
theorem dM_placeOf_23 : decode bM_placeOf 23 = .ok (.invokevirtual 88, 3) := by decide +kernel
theorem dM_placeOf_26 : decode bM_placeOf 26 = .ok (.ifCond .ne 6, 3) := by decide +kernel
theorem dM_placeOf_29 : decode bM_placeOf 29 = .ok (.goto 18, 3) := by decide +kernel
theorem dM_placeOf_32 : decode bM_placeOf 32 = .ok (.iload_n 3, 1) := by decide +kernel
theorem dM_placeOf_33 : decode bM_placeOf 33 = .ok (.ifCond .ne 11, 3) := by decide +kernel
theorem dM_placeOf_36 : decode bM_placeOf 36 = .ok (.aload_n 0, 1) := by decide +kernel
theorem dM_placeOf_37 : decode bM_placeOf 37 = .ok (.getfield 20, 3) := by decide +kernel
theorem dM_placeOf_40 : decode bM_placeOf 40 = .ok (.iload 4, 2) := by decide +kernel
theorem dM_placeOf_42 : decode bM_placeOf 42 = .ok (.iaload, 1) := by decide +kernel
theorem dM_placeOf_43 : decode bM_placeOf 43 = .ok (.ireturn, 1) := by decide +kernel
theorem dM_placeOf_44 : decode bM_placeOf 44 = .ok (.iinc 3 (-1), 3) := by decide +kernel
theorem dM_placeOf_47 : decode bM_placeOf 47 = .ok (.iinc 4 1, 3) := by decide +kernel
theorem dM_placeOf_50 : decode bM_placeOf 50 = .ok (.goto (-45), 3) := by decide +kernel
theorem dM_placeOf_53 : decode bM_placeOf 53 = .ok (.iconst (-1), 1) := by decide +kernel
theorem dM_placeOf_54 : decode bM_placeOf 54 = .ok (.ireturn, 1) := by decide +kernel
theorem dM_term_0 : decode bM_term 0 = .ok (.aload_n 0, 1) := by decide +kernel
theorem dM_term_1 : decode bM_term 1 = .ok (.iconst 0, 1) := by decide +kernel
theorem dM_term_2 : decode bM_term 2 = .ok (.putfield 52, 3) := by decide +kernel
theorem dM_term_5 : decode bM_term 5 = .ok (.iload_n 1, 1) := by decide +kernel
theorem dM_term_6 : decode bM_term 6 = .ok (.invokestatic 170, 3) := by decide +kernel
theorem dM_term_9 : decode bM_term 9 = .ok (.ifCond .eq 16, 3) := by decide +kernel
theorem dM_term_12 : decode bM_term 12 = .ok (.iload_n 2, 1) := by decide +kernel
theorem dM_term_13 : decode bM_term 13 = .ok (.ifCond .lt 12, 3) := by decide +kernel
theorem dM_term_16 : decode bM_term 16 = .ok (.aload_n 0, 1) := by decide +kernel
theorem dM_term_17 : decode bM_term 17 = .ok (.iload_n 1, 1) := by decide +kernel
theorem dM_term_18 : decode bM_term 18 = .ok (.iload_n 2, 1) := by decide +kernel
theorem dM_term_19 : decode bM_term 19 = .ok (.invokevirtual 195, 3) := by decide +kernel
theorem dM_term_22 : decode bM_term 22 = .ok (.goto 4, 3) := by decide +kernel
theorem dM_term_25 : decode bM_term 25 = .ok (.iconst (-1), 1) := by decide +kernel
theorem dM_term_26 : decode bM_term 26 = .ok (.istore 4, 2) := by decide +kernel
theorem dM_term_28 : decode bM_term 28 = .ok (.iload 4, 2) := by decide +kernel
theorem dM_term_30 : decode bM_term 30 = .ok (.ifCond .lt 12, 3) := by decide +kernel
theorem dM_term_33 : decode bM_term 33 = .ok (.iload_n 3, 1) := by decide +kernel
theorem dM_term_34 : decode bM_term 34 = .ok (.ifCond .lt 8, 3) := by decide +kernel
theorem dM_term_37 : decode bM_term 37 = .ok (.iload_n 3, 1) := by decide +kernel
theorem dM_term_38 : decode bM_term 38 = .ok (.iconst 4, 1) := by decide +kernel
theorem dM_term_39 : decode bM_term 39 = .ok (.if_icmp .le 5, 3) := by decide +kernel
theorem dM_term_42 : decode bM_term 42 = .ok (.iconst (-1), 1) := by decide +kernel
theorem dM_term_43 : decode bM_term 43 = .ok (.ireturn, 1) := by decide +kernel
theorem dM_term_44 : decode bM_term 44 = .ok (.iload_n 3, 1) := by decide +kernel
theorem dM_term_45 : decode bM_term 45 = .ok (.iconst 4, 1) := by decide +kernel
theorem dM_term_46 : decode bM_term 46 = .ok (.if_icmp .ne 13, 3) := by decide +kernel
theorem dM_term_49 : decode bM_term 49 = .ok (.aload_n 0, 1) := by decide +kernel
theorem dM_term_50 : decode bM_term 50 = .ok (.iload_n 1, 1) := by decide +kernel
theorem dM_term_51 : decode bM_term 51 = .ok (.iload 4, 2) := by decide +kernel
theorem dM_term_53 : decode bM_term 53 = .ok (.invokevirtual 88, 3) := by decide +kernel
theorem dM_term_56 : decode bM_term 56 = .ok (.goto 14, 3) := by decide +kernel
theorem dM_term_59 : decode bM_term 59 = .ok (.aload_n 0, 1) := by decide +kernel
theorem dM_term_60 : decode bM_term 60 = .ok (.getfield 17, 3) := by decide +kernel
theorem dM_term_63 : decode bM_term 63 = .ok (.iconst 4, 1) := by decide +kernel
theorem dM_term_64 : decode bM_term 64 = .ok (.iload 4, 2) := by decide +kernel
theorem dM_term_66 : decode bM_term 66 = .ok (.imul, 1) := by decide +kernel
theorem dM_term_67 : decode bM_term 67 = .ok (.iload_n 3, 1) := by decide +kernel
theorem dM_term_68 : decode bM_term 68 = .ok (.iadd, 1) := by decide +kernel
theorem dM_term_69 : decode bM_term 69 = .ok (.iaload, 1) := by decide +kernel
theorem dM_term_70 : decode bM_term 70 = .ok (.ireturn, 1) := by decide +kernel
theorem dM_say_0 : decode bM_say 0 = .ok (.aload_n 0, 1) := by decide +kernel
theorem dM_say_1 : decode bM_say 1 = .ok (.getfield 45, 3) := by decide +kernel
theorem dM_say_4 : decode bM_say 4 = .ok (.aload_n 0, 1) := by decide +kernel
theorem dM_say_5 : decode bM_say 5 = .ok (.getfield 74, 3) := by decide +kernel
theorem dM_say_8 : decode bM_say 8 = .ok (.iload_n 1, 1) := by decide +kernel
theorem dM_say_9 : decode bM_say 9 = .ok (.iastore, 1) := by decide +kernel
theorem dM_say_10 : decode bM_say 10 = .ok (.aload_n 0, 1) := by decide +kernel
theorem dM_say_11 : decode bM_say 11 = .ok (.dup, 1) := by decide +kernel
theorem dM_say_12 : decode bM_say 12 = .ok (.getfield 74, 3) := by decide +kernel
theorem dM_say_15 : decode bM_say 15 = .ok (.iconst 1, 1) := by decide +kernel
theorem dM_say_16 : decode bM_say 16 = .ok (.iadd, 1) := by decide +kernel
theorem dM_say_17 : decode bM_say 17 = .ok (.putfield 74, 3) := by decide +kernel
theorem dM_say_20 : decode bM_say 20 = .ok (.return_, 1) := by decide +kernel
theorem dM_sayNumber_0 : decode bM_sayNumber 0 = .ok (.sipush 10000, 3) := by decide +kernel
theorem dM_sayNumber_3 : decode bM_sayNumber 3 = .ok (.istore_n 2, 1) := by decide +kernel
theorem dM_sayNumber_4 : decode bM_sayNumber 4 = .ok (.iload_n 2, 1) := by decide +kernel
theorem dM_sayNumber_5 : decode bM_sayNumber 5 = .ok (.ifCond .le 34, 3) := by decide +kernel
theorem dM_sayNumber_8 : decode bM_sayNumber 8 = .ok (.iload_n 1, 1) := by decide +kernel
theorem dM_sayNumber_9 : decode bM_sayNumber 9 = .ok (.iload_n 2, 1) := by decide +kernel
theorem dM_sayNumber_10 : decode bM_sayNumber 10 = .ok (.if_icmp .ge 8, 3) := by decide +kernel
theorem dM_sayNumber_13 : decode bM_sayNumber 13 = .ok (.iload_n 2, 1) := by decide +kernel
theorem dM_sayNumber_14 : decode bM_sayNumber 14 = .ok (.iconst 1, 1) := by decide +kernel
theorem dM_sayNumber_15 : decode bM_sayNumber 15 = .ok (.if_icmp .ne 16, 3) := by decide +kernel
theorem dM_sayNumber_18 : decode bM_sayNumber 18 = .ok (.aload_n 0, 1) := by decide +kernel
theorem dM_sayNumber_19 : decode bM_sayNumber 19 = .ok (.bipush 48, 2) := by decide +kernel
theorem dM_sayNumber_21 : decode bM_sayNumber 21 = .ok (.iload_n 1, 1) := by decide +kernel
theorem dM_sayNumber_22 : decode bM_sayNumber 22 = .ok (.iload_n 2, 1) := by decide +kernel
theorem dM_sayNumber_23 : decode bM_sayNumber 23 = .ok (.idiv, 1) := by decide +kernel
theorem dM_sayNumber_24 : decode bM_sayNumber 24 = .ok (.bipush 10, 2) := by decide +kernel
theorem dM_sayNumber_26 : decode bM_sayNumber 26 = .ok (.irem, 1) := by decide +kernel
theorem dM_sayNumber_27 : decode bM_sayNumber 27 = .ok (.iadd, 1) := by decide +kernel
theorem dM_sayNumber_28 : decode bM_sayNumber 28 = .ok (.invokevirtual 198, 3) := by decide +kernel
theorem dM_sayNumber_31 : decode bM_sayNumber 31 = .ok (.iload_n 2, 1) := by decide +kernel
theorem dM_sayNumber_32 : decode bM_sayNumber 32 = .ok (.bipush 10, 2) := by decide +kernel
theorem dM_sayNumber_34 : decode bM_sayNumber 34 = .ok (.idiv, 1) := by decide +kernel
theorem dM_sayNumber_35 : decode bM_sayNumber 35 = .ok (.istore_n 2, 1) := by decide +kernel
theorem dM_sayNumber_36 : decode bM_sayNumber 36 = .ok (.goto (-32), 3) := by decide +kernel
theorem dM_sayNumber_39 : decode bM_sayNumber 39 = .ok (.return_, 1) := by decide +kernel
theorem dM_sayTerm_0 : decode bM_sayTerm 0 = .ok (.aload_n 0, 1) := by decide +kernel
theorem dM_sayTerm_1 : decode bM_sayTerm 1 = .ok (.iload_n 1, 1) := by decide +kernel
theorem dM_sayTerm_2 : decode bM_sayTerm 2 = .ok (.iload_n 2, 1) := by decide +kernel
theorem dM_sayTerm_3 : decode bM_sayTerm 3 = .ok (.invokevirtual 88, 3) := by decide +kernel
theorem dM_sayTerm_6 : decode bM_sayTerm 6 = .ok (.istore_n 3, 1) := by decide +kernel
theorem dM_sayTerm_7 : decode bM_sayTerm 7 = .ok (.iload_n 3, 1) := by decide +kernel
theorem dM_sayTerm_8 : decode bM_sayTerm 8 = .ok (.iconst 1, 1) := by decide +kernel
theorem dM_sayTerm_9 : decode bM_sayTerm 9 = .ok (.if_icmp .ne 16, 3) := by decide +kernel
theorem dM_sayTerm_12 : decode bM_sayTerm 12 = .ok (.aload_n 0, 1) := by decide +kernel
theorem dM_sayTerm_13 : decode bM_sayTerm 13 = .ok (.getfield 13, 3) := by decide +kernel
theorem dM_sayTerm_16 : decode bM_sayTerm 16 = .ok (.iload_n 2, 1) := by decide +kernel
theorem dM_sayTerm_17 : decode bM_sayTerm 17 = .ok (.iaload, 1) := by decide +kernel
theorem dM_sayTerm_18 : decode bM_sayTerm 18 = .ok (.ifCond .le 7, 3) := by decide +kernel
theorem dM_sayTerm_21 : decode bM_sayTerm 21 = .ok (.iconst 1, 1) := by decide +kernel
theorem dM_sayTerm_22 : decode bM_sayTerm 22 = .ok (.goto 4, 3) := by decide +kernel
theorem dM_sayTerm_25 : decode bM_sayTerm 25 = .ok (.iconst 0, 1) := by decide +kernel
theorem dM_sayTerm_26 : decode bM_sayTerm 26 = .ok (.istore 4, 2) := by decide +kernel
theorem dM_sayTerm_28 : decode bM_sayTerm 28 = .ok (.iload 4, 2) := by decide +kernel
theorem dM_sayTerm_30 : decode bM_sayTerm 30 = .ok (.ifCond .ne 8, 3) := by decide +kernel
theorem dM_sayTerm_33 : decode bM_sayTerm 33 = .ok (.aload_n 0, 1) := by decide +kernel
theorem dM_sayTerm_34 : decode bM_sayTerm 34 = .ok (.iload_n 3, 1) := by decide +kernel
theorem dM_sayTerm_35 : decode bM_sayTerm 35 = .ok (.invokevirtual 201, 3) := by decide +kernel
theorem dM_sayTerm_38 : decode bM_sayTerm 38 = .ok (.iconst 0, 1) := by decide +kernel
theorem dM_sayTerm_39 : decode bM_sayTerm 39 = .ok (.istore 5, 2) := by decide +kernel
theorem dM_sayTerm_41 : decode bM_sayTerm 41 = .ok (.iload 5, 2) := by decide +kernel
theorem dM_sayTerm_43 : decode bM_sayTerm 43 = .ok (.aload_n 0, 1) := by decide +kernel
theorem dM_sayTerm_44 : decode bM_sayTerm 44 = .ok (.getfield 55, 3) := by decide +kernel
theorem dM_sayTerm_47 : decode bM_sayTerm 47 = .ok (.if_icmp .ge 103, 3) := by decide +kernel
theorem dM_sayTerm_50 : decode bM_sayTerm 50 = .ok (.aload_n 0, 1) := by decide +kernel
theorem dM_sayTerm_51 : decode bM_sayTerm 51 = .ok (.getfield 17, 3) := by decide +kernel
theorem dM_sayTerm_54 : decode bM_sayTerm 54 = .ok (.iconst 4, 1) := by decide +kernel
theorem dM_sayTerm_55 : decode bM_sayTerm 55 = .ok (.iload_n 2, 1) := by decide +kernel
theorem dM_sayTerm_56 : decode bM_sayTerm 56 = .ok (.imul, 1) := by decide +kernel
theorem dM_sayTerm_57 : decode bM_sayTerm 57 = .ok (.iload 5, 2) := by decide +kernel
theorem dM_sayTerm_59 : decode bM_sayTerm 59 = .ok (.iadd, 1) := by decide +kernel
theorem dM_sayTerm_60 : decode bM_sayTerm 60 = .ok (.iaload, 1) := by decide +kernel
theorem dM_sayTerm_61 : decode bM_sayTerm 61 = .ok (.istore 6, 2) := by decide +kernel
theorem dM_sayTerm_63 : decode bM_sayTerm 63 = .ok (.iload 6, 2) := by decide +kernel
theorem dM_sayTerm_65 : decode bM_sayTerm 65 = .ok (.ifCond .ne 6, 3) := by decide +kernel
theorem dM_sayTerm_68 : decode bM_sayTerm 68 = .ok (.goto 76, 3) := by decide +kernel
theorem dM_sayTerm_71 : decode bM_sayTerm 71 = .ok (.iload 4, 2) := by decide +kernel
theorem dM_sayTerm_73 : decode bM_sayTerm 73 = .ok (.ifCond .ne 9, 3) := by decide +kernel
theorem dM_sayTerm_76 : decode bM_sayTerm 76 = .ok (.aload_n 0, 1) := by decide +kernel
theorem dM_sayTerm_77 : decode bM_sayTerm 77 = .ok (.bipush 42, 2) := by decide +kernel
theorem dM_sayTerm_79 : decode bM_sayTerm 79 = .ok (.invokevirtual 198, 3) := by decide +kernel
theorem dM_sayTerm_82 : decode bM_sayTerm 82 = .ok (.iconst 0, 1) := by decide +kernel
theorem dM_sayTerm_83 : decode bM_sayTerm 83 = .ok (.istore 4, 2) := by decide +kernel
theorem dM_sayTerm_85 : decode bM_sayTerm 85 = .ok (.aload_n 0, 1) := by decide +kernel
theorem dM_sayTerm_86 : decode bM_sayTerm 86 = .ok (.iload 5, 2) := by decide +kernel
theorem dM_sayTerm_88 : decode bM_sayTerm 88 = .ok (.ifCond .ne 8, 3) := by decide +kernel
theorem dM_sayTerm_91 : decode bM_sayTerm 91 = .ok (.bipush 120, 2) := by decide +kernel
theorem dM_sayTerm_93 : decode bM_sayTerm 93 = .ok (.goto 27, 3) := by decide +kernel
theorem dM_sayTerm_96 : decode bM_sayTerm 96 = .ok (.iload 5, 2) := by decide +kernel
theorem dM_sayTerm_98 : decode bM_sayTerm 98 = .ok (.iconst 1, 1) := by decide +kernel
theorem dM_sayTerm_99 : decode bM_sayTerm 99 = .ok (.if_icmp .ne 8, 3) := by decide +kernel
theorem dM_sayTerm_102 : decode bM_sayTerm 102 = .ok (.bipush 121, 2) := by decide +kernel
theorem dM_sayTerm_104 : decode bM_sayTerm 104 = .ok (.goto 16, 3) := by decide +kernel
theorem dM_sayTerm_107 : decode bM_sayTerm 107 = .ok (.iload 5, 2) := by decide +kernel
theorem dM_sayTerm_109 : decode bM_sayTerm 109 = .ok (.iconst 2, 1) := by decide +kernel
theorem dM_sayTerm_110 : decode bM_sayTerm 110 = .ok (.if_icmp .ne 8, 3) := by decide +kernel
theorem dM_sayTerm_113 : decode bM_sayTerm 113 = .ok (.bipush 122, 2) := by decide +kernel
theorem dM_sayTerm_115 : decode bM_sayTerm 115 = .ok (.goto 5, 3) := by decide +kernel
theorem dM_sayTerm_118 : decode bM_sayTerm 118 = .ok (.bipush 119, 2) := by decide +kernel
theorem dM_sayTerm_120 : decode bM_sayTerm 120 = .ok (.invokevirtual 198, 3) := by decide +kernel
theorem dM_sayTerm_123 : decode bM_sayTerm 123 = .ok (.iload 6, 2) := by decide +kernel
theorem dM_sayTerm_125 : decode bM_sayTerm 125 = .ok (.iconst 2, 1) := by decide +kernel
theorem dM_sayTerm_126 : decode bM_sayTerm 126 = .ok (.if_icmp .ge 6, 3) := by decide +kernel
theorem dM_sayTerm_129 : decode bM_sayTerm 129 = .ok (.goto 15, 3) := by decide +kernel
theorem dM_sayTerm_132 : decode bM_sayTerm 132 = .ok (.aload_n 0, 1) := by decide +kernel
theorem dM_sayTerm_133 : decode bM_sayTerm 133 = .ok (.bipush 94, 2) := by decide +kernel
theorem dM_sayTerm_135 : decode bM_sayTerm 135 = .ok (.invokevirtual 198, 3) := by decide +kernel
theorem dM_sayTerm_138 : decode bM_sayTerm 138 = .ok (.aload_n 0, 1) := by decide +kernel
theorem dM_sayTerm_139 : decode bM_sayTerm 139 = .ok (.iload 6, 2) := by decide +kernel
theorem dM_sayTerm_141 : decode bM_sayTerm 141 = .ok (.invokevirtual 201, 3) := by decide +kernel
theorem dM_sayTerm_144 : decode bM_sayTerm 144 = .ok (.iinc 5 1, 3) := by decide +kernel
theorem dM_sayTerm_147 : decode bM_sayTerm 147 = .ok (.goto (-106), 3) := by decide +kernel
theorem dM_sayTerm_150 : decode bM_sayTerm 150 = .ok (.return_, 1) := by decide +kernel
theorem dM_print_0 : decode bM_print 0 = .ok (.aload_n 0, 1) := by decide +kernel
theorem dM_print_1 : decode bM_print 1 = .ok (.iload_n 1, 1) := by decide +kernel
theorem dM_print_2 : decode bM_print 2 = .ok (.iload_n 1, 1) := by decide +kernel
theorem dM_print_3 : decode bM_print 3 = .ok (.iconst 0, 1) := by decide +kernel
theorem dM_print_4 : decode bM_print 4 = .ok (.invokevirtual 188, 3) := by decide +kernel
theorem dM_print_7 : decode bM_print 7 = .ok (.ifCond .eq 5, 3) := by decide +kernel
theorem dM_print_10 : decode bM_print 10 = .ok (.iconst 0, 1) := by decide +kernel
theorem dM_print_11 : decode bM_print 11 = .ok (.ireturn, 1) := by decide +kernel
theorem dM_print_12 : decode bM_print 12 = .ok (.aload_n 0, 1) := by decide +kernel
theorem dM_print_13 : decode bM_print 13 = .ok (.iconst 0, 1) := by decide +kernel
theorem dM_print_14 : decode bM_print 14 = .ok (.putfield 74, 3) := by decide +kernel
theorem dM_print_17 : decode bM_print 17 = .ok (.iconst 0, 1) := by decide +kernel
theorem dM_print_18 : decode bM_print 18 = .ok (.istore_n 2, 1) := by decide +kernel
theorem dM_print_19 : decode bM_print 19 = .ok (.iload_n 2, 1) := by decide +kernel
theorem dM_print_20 : decode bM_print 20 = .ok (.aload_n 0, 1) := by decide +kernel
theorem dM_print_21 : decode bM_print 21 = .ok (.getfield 67, 3) := by decide +kernel
theorem dM_print_24 : decode bM_print 24 = .ok (.if_icmp .ge 50, 3) := by decide +kernel
theorem dM_print_27 : decode bM_print 27 = .ok (.aload_n 0, 1) := by decide +kernel
theorem dM_print_28 : decode bM_print 28 = .ok (.iload_n 1, 1) := by decide +kernel
theorem dM_print_29 : decode bM_print 29 = .ok (.aload_n 0, 1) := by decide +kernel
theorem dM_print_30 : decode bM_print 30 = .ok (.getfield 20, 3) := by decide +kernel
theorem dM_print_33 : decode bM_print 33 = .ok (.iload_n 2, 1) := by decide +kernel
theorem dM_print_34 : decode bM_print 34 = .ok (.iaload, 1) := by decide +kernel
theorem dM_print_35 : decode bM_print 35 = .ok (.invokevirtual 88, 3) := by decide +kernel
theorem dM_print_38 : decode bM_print 38 = .ok (.ifCond .ne 6, 3) := by decide +kernel
theorem dM_print_41 : decode bM_print 41 = .ok (.goto 27, 3) := by decide +kernel
theorem dM_print_44 : decode bM_print 44 = .ok (.aload_n 0, 1) := by decide +kernel
theorem dM_print_45 : decode bM_print 45 = .ok (.getfield 74, 3) := by decide +kernel
theorem dM_print_48 : decode bM_print 48 = .ok (.ifCond .le 9, 3) := by decide +kernel
theorem dM_print_51 : decode bM_print 51 = .ok (.aload_n 0, 1) := by decide +kernel
theorem dM_print_52 : decode bM_print 52 = .ok (.bipush 43, 2) := by decide +kernel
theorem dM_print_54 : decode bM_print 54 = .ok (.invokevirtual 198, 3) := by decide +kernel
theorem dM_print_57 : decode bM_print 57 = .ok (.aload_n 0, 1) := by decide +kernel
theorem dM_print_58 : decode bM_print 58 = .ok (.iload_n 1, 1) := by decide +kernel
theorem dM_print_59 : decode bM_print 59 = .ok (.aload_n 0, 1) := by decide +kernel
theorem dM_print_60 : decode bM_print 60 = .ok (.getfield 20, 3) := by decide +kernel
theorem dM_print_63 : decode bM_print 63 = .ok (.iload_n 2, 1) := by decide +kernel
theorem dM_print_64 : decode bM_print 64 = .ok (.iaload, 1) := by decide +kernel
theorem dM_print_65 : decode bM_print 65 = .ok (.invokevirtual 204, 3) := by decide +kernel
theorem dM_print_68 : decode bM_print 68 = .ok (.iinc 2 1, 3) := by decide +kernel
theorem dM_print_71 : decode bM_print 71 = .ok (.goto (-52), 3) := by decide +kernel
theorem dM_print_74 : decode bM_print 74 = .ok (.aload_n 0, 1) := by decide +kernel
theorem dM_print_75 : decode bM_print 75 = .ok (.getfield 74, 3) := by decide +kernel
theorem dM_print_78 : decode bM_print 78 = .ok (.ifCond .ne 9, 3) := by decide +kernel
theorem dM_print_81 : decode bM_print 81 = .ok (.aload_n 0, 1) := by decide +kernel
theorem dM_print_82 : decode bM_print 82 = .ok (.bipush 48, 2) := by decide +kernel
theorem dM_print_84 : decode bM_print 84 = .ok (.invokevirtual 198, 3) := by decide +kernel
theorem dM_print_87 : decode bM_print 87 = .ok (.aload_n 0, 1) := by decide +kernel
theorem dM_print_88 : decode bM_print 88 = .ok (.getfield 74, 3) := by decide +kernel
theorem dM_print_91 : decode bM_print 91 = .ok (.ireturn, 1) := by decide +kernel
theorem dM_output_0 : decode bM_output 0 = .ok (.aload_n 0, 1) := by decide +kernel
theorem dM_output_1 : decode bM_output 1 = .ok (.iconst 0, 1) := by decide +kernel
theorem dM_output_2 : decode bM_output 2 = .ok (.putfield 52, 3) := by decide +kernel
theorem dM_output_5 : decode bM_output 5 = .ok (.iload_n 1, 1) := by decide +kernel
theorem dM_output_6 : decode bM_output 6 = .ok (.ifCond .lt 11, 3) := by decide +kernel
theorem dM_output_9 : decode bM_output 9 = .ok (.iload_n 1, 1) := by decide +kernel
theorem dM_output_10 : decode bM_output 10 = .ok (.aload_n 0, 1) := by decide +kernel
theorem dM_output_11 : decode bM_output 11 = .ok (.getfield 74, 3) := by decide +kernel
theorem dM_output_14 : decode bM_output 14 = .ok (.if_icmp .lt 7, 3) := by decide +kernel
theorem dM_output_17 : decode bM_output 17 = .ok (.iconst (-1), 1) := by decide +kernel
theorem dM_output_18 : decode bM_output 18 = .ok (.goto 9, 3) := by decide +kernel
theorem dM_output_21 : decode bM_output 21 = .ok (.aload_n 0, 1) := by decide +kernel
theorem dM_output_22 : decode bM_output 22 = .ok (.getfield 45, 3) := by decide +kernel
theorem dM_output_25 : decode bM_output 25 = .ok (.iload_n 1, 1) := by decide +kernel
theorem dM_output_26 : decode bM_output 26 = .ok (.iaload, 1) := by decide +kernel
theorem dM_output_27 : decode bM_output 27 = .ok (.ireturn, 1) := by decide +kernel
theorem dM_prepare_0 : decode bM_prepare 0 = .ok (.aload_n 0, 1) := by decide +kernel
theorem dM_prepare_1 : decode bM_prepare 1 = .ok (.iload_n 1, 1) := by decide +kernel
theorem dM_prepare_2 : decode bM_prepare 2 = .ok (.putfield 7, 3) := by decide +kernel
theorem dM_prepare_5 : decode bM_prepare 5 = .ok (.aload_n 0, 1) := by decide +kernel
theorem dM_prepare_6 : decode bM_prepare 6 = .ok (.iload_n 2, 1) := by decide +kernel
theorem dM_prepare_7 : decode bM_prepare 7 = .ok (.putfield 55, 3) := by decide +kernel
theorem dM_prepare_10 : decode bM_prepare 10 = .ok (.aload_n 0, 1) := by decide +kernel
theorem dM_prepare_11 : decode bM_prepare 11 = .ok (.iload_n 3, 1) := by decide +kernel
theorem dM_prepare_12 : decode bM_prepare 12 = .ok (.putfield 58, 3) := by decide +kernel
theorem dM_prepare_15 : decode bM_prepare 15 = .ok (.aload_n 0, 1) := by decide +kernel
theorem dM_prepare_16 : decode bM_prepare 16 = .ok (.iload_n 2, 1) := by decide +kernel
theorem dM_prepare_17 : decode bM_prepare 17 = .ok (.iconst 1, 1) := by decide +kernel
theorem dM_prepare_18 : decode bM_prepare 18 = .ok (.if_icmp .ne 8, 3) := by decide +kernel
theorem dM_prepare_21 : decode bM_prepare 21 = .ok (.bipush 30, 2) := by decide +kernel
theorem dM_prepare_23 : decode bM_prepare 23 = .ok (.goto 24, 3) := by decide +kernel
theorem dM_prepare_26 : decode bM_prepare 26 = .ok (.iload_n 2, 1) := by decide +kernel
theorem dM_prepare_27 : decode bM_prepare 27 = .ok (.iconst 2, 1) := by decide +kernel
theorem dM_prepare_28 : decode bM_prepare 28 = .ok (.if_icmp .ne 8, 3) := by decide +kernel
theorem dM_prepare_31 : decode bM_prepare 31 = .ok (.bipush 12, 2) := by decide +kernel
theorem dM_prepare_33 : decode bM_prepare 33 = .ok (.goto 14, 3) := by decide +kernel
theorem dM_prepare_36 : decode bM_prepare 36 = .ok (.iload_n 2, 1) := by decide +kernel
theorem dM_prepare_37 : decode bM_prepare 37 = .ok (.iconst 3, 1) := by decide +kernel
theorem dM_prepare_38 : decode bM_prepare 38 = .ok (.if_icmp .ne 8, 3) := by decide +kernel
theorem dM_prepare_41 : decode bM_prepare 41 = .ok (.bipush 7, 2) := by decide +kernel
theorem dM_prepare_43 : decode bM_prepare 43 = .ok (.goto 4, 3) := by decide +kernel
theorem dM_prepare_46 : decode bM_prepare 46 = .ok (.iconst 5, 1) := by decide +kernel
theorem dM_prepare_47 : decode bM_prepare 47 = .ok (.putfield 61, 3) := by decide +kernel
theorem dM_prepare_50 : decode bM_prepare 50 = .ok (.aload_n 0, 1) := by decide +kernel
theorem dM_prepare_51 : decode bM_prepare 51 = .ok (.aload_n 0, 1) := by decide +kernel
theorem dM_prepare_52 : decode bM_prepare 52 = .ok (.getfield 61, 3) := by decide +kernel
theorem dM_prepare_55 : decode bM_prepare 55 = .ok (.iconst 1, 1) := by decide +kernel
theorem dM_prepare_56 : decode bM_prepare 56 = .ok (.iadd, 1) := by decide +kernel
theorem dM_prepare_57 : decode bM_prepare 57 = .ok (.putfield 64, 3) := by decide +kernel
theorem dM_prepare_60 : decode bM_prepare 60 = .ok (.iconst 1, 1) := by decide +kernel
theorem dM_prepare_61 : decode bM_prepare 61 = .ok (.istore 4, 2) := by decide +kernel
theorem dM_prepare_63 : decode bM_prepare 63 = .ok (.iconst 0, 1) := by decide +kernel
theorem dM_prepare_64 : decode bM_prepare 64 = .ok (.istore 5, 2) := by decide +kernel
theorem dM_prepare_66 : decode bM_prepare 66 = .ok (.iload 5, 2) := by decide +kernel
theorem dM_prepare_68 : decode bM_prepare 68 = .ok (.iconst 4, 1) := by decide +kernel
theorem dM_prepare_69 : decode bM_prepare 69 = .ok (.if_icmp .ge 37, 3) := by decide +kernel
theorem dM_prepare_72 : decode bM_prepare 72 = .ok (.aload_n 0, 1) := by decide +kernel
theorem dM_prepare_73 : decode bM_prepare 73 = .ok (.getfield 23, 3) := by decide +kernel
theorem dM_prepare_76 : decode bM_prepare 76 = .ok (.iload 5, 2) := by decide +kernel
theorem dM_prepare_78 : decode bM_prepare 78 = .ok (.iload 4, 2) := by decide +kernel
theorem dM_prepare_80 : decode bM_prepare 80 = .ok (.iastore, 1) := by decide +kernel
theorem dM_prepare_81 : decode bM_prepare 81 = .ok (.iload 4, 2) := by decide +kernel
theorem dM_prepare_83 : decode bM_prepare 83 = .ok (.iload 5, 2) := by decide +kernel
theorem dM_prepare_85 : decode bM_prepare 85 = .ok (.iload_n 2, 1) := by decide +kernel
theorem dM_prepare_86 : decode bM_prepare 86 = .ok (.if_icmp .ge 10, 3) := by decide +kernel
theorem dM_prepare_89 : decode bM_prepare 89 = .ok (.aload_n 0, 1) := by decide +kernel
theorem dM_prepare_90 : decode bM_prepare 90 = .ok (.getfield 64, 3) := by decide +kernel
theorem dM_prepare_93 : decode bM_prepare 93 = .ok (.goto 4, 3) := by decide +kernel
theorem dM_prepare_96 : decode bM_prepare 96 = .ok (.iconst 1, 1) := by decide +kernel
theorem dM_prepare_97 : decode bM_prepare 97 = .ok (.imul, 1) := by decide +kernel
theorem dM_prepare_98 : decode bM_prepare 98 = .ok (.istore 4, 2) := by decide +kernel
theorem dM_prepare_100 : decode bM_prepare 100 = .ok (.iinc 5 1, 3) := by decide +kernel
theorem dM_prepare_103 : decode bM_prepare 103 = .ok (.goto (-37), 3) := by decide +kernel
theorem dM_prepare_106 : decode bM_prepare 106 = .ok (.aload_n 0, 1) := by decide +kernel
theorem dM_prepare_107 : decode bM_prepare 107 = .ok (.iconst 0, 1) := by decide +kernel
theorem dM_prepare_108 : decode bM_prepare 108 = .ok (.putfield 67, 3) := by decide +kernel
theorem dM_prepare_111 : decode bM_prepare 111 = .ok (.iconst 0, 1) := by decide +kernel
theorem dM_prepare_112 : decode bM_prepare 112 = .ok (.istore 5, 2) := by decide +kernel
theorem dM_prepare_114 : decode bM_prepare 114 = .ok (.iload 5, 2) := by decide +kernel
theorem dM_prepare_116 : decode bM_prepare 116 = .ok (.iload 4, 2) := by decide +kernel
theorem dM_prepare_118 : decode bM_prepare 118 = .ok (.if_icmp .ge 111, 3) := by decide +kernel
theorem dM_prepare_121 : decode bM_prepare 121 = .ok (.aload_n 0, 1) := by decide +kernel
theorem dM_prepare_122 : decode bM_prepare 122 = .ok (.getfield 13, 3) := by decide +kernel
theorem dM_prepare_125 : decode bM_prepare 125 = .ok (.iload 5, 2) := by decide +kernel
theorem dM_prepare_127 : decode bM_prepare 127 = .ok (.iconst 0, 1) := by decide +kernel
theorem dM_prepare_128 : decode bM_prepare 128 = .ok (.iastore, 1) := by decide +kernel
theorem dM_prepare_129 : decode bM_prepare 129 = .ok (.iconst 0, 1) := by decide +kernel
theorem dM_prepare_130 : decode bM_prepare 130 = .ok (.istore 6, 2) := by decide +kernel
theorem dM_prepare_132 : decode bM_prepare 132 = .ok (.iload 6, 2) := by decide +kernel
theorem dM_prepare_134 : decode bM_prepare 134 = .ok (.iconst 4, 1) := by decide +kernel
theorem dM_prepare_135 : decode bM_prepare 135 = .ok (.if_icmp .ge 68, 3) := by decide +kernel
theorem dM_prepare_138 : decode bM_prepare 138 = .ok (.aload_n 0, 1) := by decide +kernel
theorem dM_prepare_139 : decode bM_prepare 139 = .ok (.getfield 17, 3) := by decide +kernel
theorem dM_prepare_142 : decode bM_prepare 142 = .ok (.iconst 4, 1) := by decide +kernel
theorem dM_prepare_143 : decode bM_prepare 143 = .ok (.iload 5, 2) := by decide +kernel
theorem dM_prepare_145 : decode bM_prepare 145 = .ok (.imul, 1) := by decide +kernel
theorem dM_prepare_146 : decode bM_prepare 146 = .ok (.iload 6, 2) := by decide +kernel
theorem dM_prepare_148 : decode bM_prepare 148 = .ok (.iadd, 1) := by decide +kernel
theorem dM_prepare_149 : decode bM_prepare 149 = .ok (.iload 6, 2) := by decide +kernel
theorem dM_prepare_151 : decode bM_prepare 151 = .ok (.iload_n 2, 1) := by decide +kernel
theorem dM_prepare_152 : decode bM_prepare 152 = .ok (.if_icmp .ge 21, 3) := by decide +kernel
theorem dM_prepare_155 : decode bM_prepare 155 = .ok (.iload 5, 2) := by decide +kernel
theorem dM_prepare_157 : decode bM_prepare 157 = .ok (.aload_n 0, 1) := by decide +kernel
theorem dM_prepare_158 : decode bM_prepare 158 = .ok (.getfield 23, 3) := by decide +kernel
theorem dM_prepare_161 : decode bM_prepare 161 = .ok (.iload 6, 2) := by decide +kernel
theorem dM_prepare_163 : decode bM_prepare 163 = .ok (.iaload, 1) := by decide +kernel
theorem dM_prepare_164 : decode bM_prepare 164 = .ok (.idiv, 1) := by decide +kernel
theorem dM_prepare_165 : decode bM_prepare 165 = .ok (.aload_n 0, 1) := by decide +kernel
theorem dM_prepare_166 : decode bM_prepare 166 = .ok (.getfield 64, 3) := by decide +kernel
theorem dM_prepare_169 : decode bM_prepare 169 = .ok (.irem, 1) := by decide +kernel
theorem dM_prepare_170 : decode bM_prepare 170 = .ok (.goto 4, 3) := by decide +kernel
theorem dM_prepare_173 : decode bM_prepare 173 = .ok (.iconst 0, 1) := by decide +kernel
theorem dM_prepare_174 : decode bM_prepare 174 = .ok (.iastore, 1) := by decide +kernel
theorem dM_prepare_175 : decode bM_prepare 175 = .ok (.aload_n 0, 1) := by decide +kernel
theorem dM_prepare_176 : decode bM_prepare 176 = .ok (.getfield 13, 3) := by decide +kernel
theorem dM_prepare_179 : decode bM_prepare 179 = .ok (.iload 5, 2) := by decide +kernel
theorem dM_prepare_181 : decode bM_prepare 181 = .ok (.dup2, 1) := by decide +kernel
theorem dM_prepare_182 : decode bM_prepare 182 = .ok (.iaload, 1) := by decide +kernel
theorem dM_prepare_183 : decode bM_prepare 183 = .ok (.aload_n 0, 1) := by decide +kernel
theorem dM_prepare_184 : decode bM_prepare 184 = .ok (.getfield 17, 3) := by decide +kernel
theorem dM_prepare_187 : decode bM_prepare 187 = .ok (.iconst 4, 1) := by decide +kernel
theorem dM_prepare_188 : decode bM_prepare 188 = .ok (.iload 5, 2) := by decide +kernel
theorem dM_prepare_190 : decode bM_prepare 190 = .ok (.imul, 1) := by decide +kernel
theorem dM_prepare_191 : decode bM_prepare 191 = .ok (.iload 6, 2) := by decide +kernel
theorem dM_prepare_193 : decode bM_prepare 193 = .ok (.iadd, 1) := by decide +kernel
theorem dM_prepare_194 : decode bM_prepare 194 = .ok (.iaload, 1) := by decide +kernel
theorem dM_prepare_195 : decode bM_prepare 195 = .ok (.iadd, 1) := by decide +kernel
theorem dM_prepare_196 : decode bM_prepare 196 = .ok (.iastore, 1) := by decide +kernel
theorem dM_prepare_197 : decode bM_prepare 197 = .ok (.iinc 6 1, 3) := by decide +kernel
theorem dM_prepare_200 : decode bM_prepare 200 = .ok (.goto (-68), 3) := by decide +kernel
theorem dM_prepare_203 : decode bM_prepare 203 = .ok (.aload_n 0, 1) := by decide +kernel
theorem dM_prepare_204 : decode bM_prepare 204 = .ok (.getfield 13, 3) := by decide +kernel
theorem dM_prepare_207 : decode bM_prepare 207 = .ok (.iload 5, 2) := by decide +kernel
theorem dM_prepare_209 : decode bM_prepare 209 = .ok (.iaload, 1) := by decide +kernel
theorem dM_prepare_210 : decode bM_prepare 210 = .ok (.aload_n 0, 1) := by decide +kernel
theorem dM_prepare_211 : decode bM_prepare 211 = .ok (.getfield 61, 3) := by decide +kernel
theorem dM_prepare_214 : decode bM_prepare 214 = .ok (.if_icmp .gt 9, 3) := by decide +kernel
theorem dM_prepare_217 : decode bM_prepare 217 = .ok (.aload_n 0, 1) := by decide +kernel
theorem dM_prepare_218 : decode bM_prepare 218 = .ok (.iload 5, 2) := by decide +kernel
theorem dM_prepare_220 : decode bM_prepare 220 = .ok (.invokevirtual 70, 3) := by decide +kernel
theorem dM_prepare_223 : decode bM_prepare 223 = .ok (.iinc 5 1, 3) := by decide +kernel
theorem dM_prepare_226 : decode bM_prepare 226 = .ok (.goto (-112), 3) := by decide +kernel
theorem dM_prepare_229 : decode bM_prepare 229 = .ok (.iconst 0, 1) := by decide +kernel
theorem dM_prepare_230 : decode bM_prepare 230 = .ok (.istore 5, 2) := by decide +kernel
theorem dM_prepare_232 : decode bM_prepare 232 = .ok (.iload 5, 2) := by decide +kernel
theorem dM_prepare_234 : decode bM_prepare 234 = .ok (.aload_n 0, 1) := by decide +kernel
theorem dM_prepare_235 : decode bM_prepare 235 = .ok (.getfield 27, 3) := by decide +kernel
theorem dM_prepare_238 : decode bM_prepare 238 = .ok (.arraylength, 1) := by decide +kernel
theorem dM_prepare_239 : decode bM_prepare 239 = .ok (.if_icmp .ge 17, 3) := by decide +kernel
theorem dM_prepare_242 : decode bM_prepare 242 = .ok (.aload_n 0, 1) := by decide +kernel
theorem dM_prepare_243 : decode bM_prepare 243 = .ok (.getfield 27, 3) := by decide +kernel
theorem dM_prepare_246 : decode bM_prepare 246 = .ok (.iload 5, 2) := by decide +kernel
theorem dM_prepare_248 : decode bM_prepare 248 = .ok (.iconst 0, 1) := by decide +kernel
theorem dM_prepare_249 : decode bM_prepare 249 = .ok (.iastore, 1) := by decide +kernel
theorem dM_prepare_250 : decode bM_prepare 250 = .ok (.iinc 5 1, 3) := by decide +kernel
theorem dM_prepare_253 : decode bM_prepare 253 = .ok (.goto (-21), 3) := by decide +kernel
theorem dM_prepare_256 : decode bM_prepare 256 = .ok (.aload_n 0, 1) := by decide +kernel
theorem dM_prepare_257 : decode bM_prepare 257 = .ok (.iconst 0, 1) := by decide +kernel
theorem dM_prepare_258 : decode bM_prepare 258 = .ok (.putfield 74, 3) := by decide +kernel
theorem dM_prepare_261 : decode bM_prepare 261 = .ok (.return_, 1) := by decide +kernel
theorem dM_list_0 : decode bM_list 0 = .ok (.aload_n 0, 1) := by decide +kernel
theorem dM_list_1 : decode bM_list 1 = .ok (.getfield 67, 3) := by decide +kernel
theorem dM_list_4 : decode bM_list 4 = .ok (.istore_n 2, 1) := by decide +kernel
theorem dM_list_5 : decode bM_list 5 = .ok (.iload_n 2, 1) := by decide +kernel
theorem dM_list_6 : decode bM_list 6 = .ok (.ifCond .le 39, 3) := by decide +kernel
theorem dM_list_9 : decode bM_list 9 = .ok (.aload_n 0, 1) := by decide +kernel
theorem dM_list_10 : decode bM_list 10 = .ok (.iload_n 1, 1) := by decide +kernel
theorem dM_list_11 : decode bM_list 11 = .ok (.aload_n 0, 1) := by decide +kernel
theorem dM_list_12 : decode bM_list 12 = .ok (.getfield 20, 3) := by decide +kernel
theorem dM_list_15 : decode bM_list 15 = .ok (.iload_n 2, 1) := by decide +kernel
theorem dM_list_16 : decode bM_list 16 = .ok (.iconst 1, 1) := by decide +kernel
theorem dM_list_17 : decode bM_list 17 = .ok (.isub, 1) := by decide +kernel
theorem dM_list_18 : decode bM_list 18 = .ok (.iaload, 1) := by decide +kernel
theorem dM_list_19 : decode bM_list 19 = .ok (.invokevirtual 77, 3) := by decide +kernel
theorem dM_list_22 : decode bM_list 22 = .ok (.ifCond .eq 23, 3) := by decide +kernel
theorem dM_list_25 : decode bM_list 25 = .ok (.aload_n 0, 1) := by decide +kernel
theorem dM_list_26 : decode bM_list 26 = .ok (.getfield 20, 3) := by decide +kernel
theorem dM_list_29 : decode bM_list 29 = .ok (.iload_n 2, 1) := by decide +kernel
theorem dM_list_30 : decode bM_list 30 = .ok (.aload_n 0, 1) := by decide +kernel
theorem dM_list_31 : decode bM_list 31 = .ok (.getfield 20, 3) := by decide +kernel
theorem dM_list_34 : decode bM_list 34 = .ok (.iload_n 2, 1) := by decide +kernel
theorem dM_list_35 : decode bM_list 35 = .ok (.iconst 1, 1) := by decide +kernel
theorem dM_list_36 : decode bM_list 36 = .ok (.isub, 1) := by decide +kernel
theorem dM_list_37 : decode bM_list 37 = .ok (.iaload, 1) := by decide +kernel
theorem dM_list_38 : decode bM_list 38 = .ok (.iastore, 1) := by decide +kernel
theorem dM_list_39 : decode bM_list 39 = .ok (.iinc 2 (-1), 3) := by decide +kernel
theorem dM_list_42 : decode bM_list 42 = .ok (.goto (-37), 3) := by decide +kernel
theorem dM_list_45 : decode bM_list 45 = .ok (.aload_n 0, 1) := by decide +kernel
theorem dM_list_46 : decode bM_list 46 = .ok (.getfield 20, 3) := by decide +kernel
theorem dM_list_49 : decode bM_list 49 = .ok (.iload_n 2, 1) := by decide +kernel
theorem dM_list_50 : decode bM_list 50 = .ok (.iload_n 1, 1) := by decide +kernel
theorem dM_list_51 : decode bM_list 51 = .ok (.iastore, 1) := by decide +kernel
theorem dM_list_52 : decode bM_list 52 = .ok (.aload_n 0, 1) := by decide +kernel
theorem dM_list_53 : decode bM_list 53 = .ok (.dup, 1) := by decide +kernel
theorem dM_list_54 : decode bM_list 54 = .ok (.getfield 67, 3) := by decide +kernel
theorem dM_list_57 : decode bM_list 57 = .ok (.iconst 1, 1) := by decide +kernel
theorem dM_list_58 : decode bM_list 58 = .ok (.iadd, 1) := by decide +kernel
theorem dM_list_59 : decode bM_list 59 = .ok (.putfield 67, 3) := by decide +kernel
theorem dM_list_62 : decode bM_list 62 = .ok (.return_, 1) := by decide +kernel
theorem dM_isGreater_0 : decode bM_isGreater 0 = .ok (.aload_n 0, 1) := by decide +kernel
theorem dM_isGreater_1 : decode bM_isGreater 1 = .ok (.getfield 13, 3) := by decide +kernel
theorem dM_isGreater_4 : decode bM_isGreater 4 = .ok (.iload_n 1, 1) := by decide +kernel
theorem dM_isGreater_5 : decode bM_isGreater 5 = .ok (.iaload, 1) := by decide +kernel
theorem dM_isGreater_6 : decode bM_isGreater 6 = .ok (.aload_n 0, 1) := by decide +kernel
theorem dM_isGreater_7 : decode bM_isGreater 7 = .ok (.getfield 13, 3) := by decide +kernel
theorem dM_isGreater_10 : decode bM_isGreater 10 = .ok (.iload_n 2, 1) := by decide +kernel
theorem dM_isGreater_11 : decode bM_isGreater 11 = .ok (.iaload, 1) := by decide +kernel
theorem dM_isGreater_12 : decode bM_isGreater 12 = .ok (.if_icmp .eq 24, 3) := by decide +kernel
theorem dM_isGreater_15 : decode bM_isGreater 15 = .ok (.aload_n 0, 1) := by decide +kernel
theorem dM_isGreater_16 : decode bM_isGreater 16 = .ok (.getfield 13, 3) := by decide +kernel
theorem dM_isGreater_19 : decode bM_isGreater 19 = .ok (.iload_n 1, 1) := by decide +kernel
theorem dM_isGreater_20 : decode bM_isGreater 20 = .ok (.iaload, 1) := by decide +kernel
theorem dM_isGreater_21 : decode bM_isGreater 21 = .ok (.aload_n 0, 1) := by decide +kernel
theorem dM_isGreater_22 : decode bM_isGreater 22 = .ok (.getfield 13, 3) := by decide +kernel
theorem dM_isGreater_25 : decode bM_isGreater 25 = .ok (.iload_n 2, 1) := by decide +kernel
theorem dM_isGreater_26 : decode bM_isGreater 26 = .ok (.iaload, 1) := by decide +kernel
theorem dM_isGreater_27 : decode bM_isGreater 27 = .ok (.if_icmp .le 7, 3) := by decide +kernel
theorem dM_isGreater_30 : decode bM_isGreater 30 = .ok (.iconst 1, 1) := by decide +kernel
theorem dM_isGreater_31 : decode bM_isGreater 31 = .ok (.goto 4, 3) := by decide +kernel
theorem dM_isGreater_34 : decode bM_isGreater 34 = .ok (.iconst 0, 1) := by decide +kernel
theorem dM_isGreater_35 : decode bM_isGreater 35 = .ok (.ireturn, 1) := by decide +kernel
theorem dM_isGreater_36 : decode bM_isGreater 36 = .ok (.iconst 0, 1) := by decide +kernel
theorem dM_isGreater_37 : decode bM_isGreater 37 = .ok (.istore_n 3, 1) := by decide +kernel
theorem dM_isGreater_38 : decode bM_isGreater 38 = .ok (.iload_n 3, 1) := by decide +kernel
theorem dM_isGreater_39 : decode bM_isGreater 39 = .ok (.aload_n 0, 1) := by decide +kernel
theorem dM_isGreater_40 : decode bM_isGreater 40 = .ok (.getfield 55, 3) := by decide +kernel
theorem dM_isGreater_43 : decode bM_isGreater 43 = .ok (.if_icmp .ge 91, 3) := by decide +kernel
theorem dM_isGreater_46 : decode bM_isGreater 46 = .ok (.aload_n 0, 1) := by decide +kernel
theorem dM_isGreater_47 : decode bM_isGreater 47 = .ok (.getfield 58, 3) := by decide +kernel
theorem dM_isGreater_50 : decode bM_isGreater 50 = .ok (.ifCond .ne 14, 3) := by decide +kernel
theorem dM_isGreater_53 : decode bM_isGreater 53 = .ok (.aload_n 0, 1) := by decide +kernel
theorem dM_isGreater_54 : decode bM_isGreater 54 = .ok (.getfield 55, 3) := by decide +kernel
theorem dM_isGreater_57 : decode bM_isGreater 57 = .ok (.iconst 1, 1) := by decide +kernel
theorem dM_isGreater_58 : decode bM_isGreater 58 = .ok (.isub, 1) := by decide +kernel
theorem dM_isGreater_59 : decode bM_isGreater 59 = .ok (.iload_n 3, 1) := by decide +kernel
theorem dM_isGreater_60 : decode bM_isGreater 60 = .ok (.isub, 1) := by decide +kernel
theorem dM_isGreater_61 : decode bM_isGreater 61 = .ok (.goto 4, 3) := by decide +kernel
theorem dM_isGreater_64 : decode bM_isGreater 64 = .ok (.iload_n 3, 1) := by decide +kernel
theorem dM_isGreater_65 : decode bM_isGreater 65 = .ok (.istore 4, 2) := by decide +kernel
theorem dM_isGreater_67 : decode bM_isGreater 67 = .ok (.aload_n 0, 1) := by decide +kernel
theorem dM_isGreater_68 : decode bM_isGreater 68 = .ok (.getfield 17, 3) := by decide +kernel
theorem dM_isGreater_71 : decode bM_isGreater 71 = .ok (.iconst 4, 1) := by decide +kernel
theorem dM_isGreater_72 : decode bM_isGreater 72 = .ok (.iload_n 1, 1) := by decide +kernel
theorem dM_isGreater_73 : decode bM_isGreater 73 = .ok (.imul, 1) := by decide +kernel
theorem dM_isGreater_74 : decode bM_isGreater 74 = .ok (.iload 4, 2) := by decide +kernel
theorem dM_isGreater_76 : decode bM_isGreater 76 = .ok (.iadd, 1) := by decide +kernel
theorem dM_isGreater_77 : decode bM_isGreater 77 = .ok (.iaload, 1) := by decide +kernel
theorem dM_isGreater_78 : decode bM_isGreater 78 = .ok (.aload_n 0, 1) := by decide +kernel
theorem dM_isGreater_79 : decode bM_isGreater 79 = .ok (.getfield 17, 3) := by decide +kernel
theorem dM_isGreater_82 : decode bM_isGreater 82 = .ok (.iconst 4, 1) := by decide +kernel
theorem dM_isGreater_83 : decode bM_isGreater 83 = .ok (.iload_n 2, 1) := by decide +kernel
theorem dM_isGreater_84 : decode bM_isGreater 84 = .ok (.imul, 1) := by decide +kernel
theorem dM_isGreater_85 : decode bM_isGreater 85 = .ok (.iload 4, 2) := by decide +kernel
theorem dM_isGreater_87 : decode bM_isGreater 87 = .ok (.iadd, 1) := by decide +kernel
theorem dM_isGreater_88 : decode bM_isGreater 88 = .ok (.iaload, 1) := by decide +kernel
theorem dM_isGreater_89 : decode bM_isGreater 89 = .ok (.isub, 1) := by decide +kernel
theorem dM_isGreater_90 : decode bM_isGreater 90 = .ok (.istore 5, 2) := by decide +kernel
theorem dM_isGreater_92 : decode bM_isGreater 92 = .ok (.iload 5, 2) := by decide +kernel
theorem dM_isGreater_94 : decode bM_isGreater 94 = .ok (.ifCond .eq 34, 3) := by decide +kernel
theorem dM_isGreater_97 : decode bM_isGreater 97 = .ok (.aload_n 0, 1) := by decide +kernel
theorem dM_isGreater_98 : decode bM_isGreater 98 = .ok (.getfield 58, 3) := by decide +kernel
theorem dM_isGreater_101 : decode bM_isGreater 101 = .ok (.ifCond .ne 16, 3) := by decide +kernel
theorem dM_isGreater_104 : decode bM_isGreater 104 = .ok (.iload 5, 2) := by decide +kernel
theorem dM_isGreater_106 : decode bM_isGreater 106 = .ok (.ifCond .ge 7, 3) := by decide +kernel
theorem dM_isGreater_109 : decode bM_isGreater 109 = .ok (.iconst 1, 1) := by decide +kernel
theorem dM_isGreater_110 : decode bM_isGreater 110 = .ok (.goto 17, 3) := by decide +kernel
theorem dM_isGreater_113 : decode bM_isGreater 113 = .ok (.iconst 0, 1) := by decide +kernel
theorem dM_isGreater_114 : decode bM_isGreater 114 = .ok (.goto 13, 3) := by decide +kernel
theorem dM_isGreater_117 : decode bM_isGreater 117 = .ok (.iload 5, 2) := by decide +kernel
theorem dM_isGreater_119 : decode bM_isGreater 119 = .ok (.ifCond .le 7, 3) := by decide +kernel
theorem dM_isGreater_122 : decode bM_isGreater 122 = .ok (.iconst 1, 1) := by decide +kernel
theorem dM_isGreater_123 : decode bM_isGreater 123 = .ok (.goto 4, 3) := by decide +kernel
theorem dM_isGreater_126 : decode bM_isGreater 126 = .ok (.iconst 0, 1) := by decide +kernel
theorem dM_isGreater_127 : decode bM_isGreater 127 = .ok (.ireturn, 1) := by decide +kernel
theorem dM_isGreater_128 : decode bM_isGreater 128 = .ok (.iinc 3 1, 3) := by decide +kernel
theorem dM_isGreater_131 : decode bM_isGreater 131 = .ok (.goto (-93), 3) := by decide +kernel
theorem dM_isGreater_134 : decode bM_isGreater 134 = .ok (.iconst 0, 1) := by decide +kernel
theorem dM_isGreater_135 : decode bM_isGreater 135 = .ok (.ireturn, 1) := by decide +kernel
theorem dM_field_0 : decode bM_field 0 = .ok (.aload_n 0, 1) := by decide +kernel
theorem dM_field_1 : decode bM_field 1 = .ok (.iload_n 1, 1) := by decide +kernel
theorem dM_field_2 : decode bM_field 2 = .ok (.invokestatic 81, 3) := by decide +kernel
theorem dM_field_5 : decode bM_field 5 = .ok (.ifCond .eq 22, 3) := by decide +kernel
theorem dM_field_8 : decode bM_field 8 = .ok (.iload_n 2, 1) := by decide +kernel
theorem dM_field_9 : decode bM_field 9 = .ok (.iconst 1, 1) := by decide +kernel
theorem dM_field_10 : decode bM_field 10 = .ok (.if_icmp .lt 17, 3) := by decide +kernel
theorem dM_field_13 : decode bM_field 13 = .ok (.iload_n 2, 1) := by decide +kernel
theorem dM_field_14 : decode bM_field 14 = .ok (.iconst 4, 1) := by decide +kernel
theorem dM_field_15 : decode bM_field 15 = .ok (.if_icmp .gt 12, 3) := by decide +kernel
theorem dM_field_18 : decode bM_field 18 = .ok (.iload_n 3, 1) := by decide +kernel
theorem dM_field_19 : decode bM_field 19 = .ok (.ifCond .lt 8, 3) := by decide +kernel
theorem dM_field_22 : decode bM_field 22 = .ok (.iload_n 3, 1) := by decide +kernel
theorem dM_field_23 : decode bM_field 23 = .ok (.iconst 1, 1) := by decide +kernel
theorem dM_field_24 : decode bM_field 24 = .ok (.if_icmp .le 7, 3) := by decide +kernel
theorem dM_field_27 : decode bM_field 27 = .ok (.iconst 1, 1) := by decide +kernel
theorem dM_field_28 : decode bM_field 28 = .ok (.goto 4, 3) := by decide +kernel
theorem dM_field_31 : decode bM_field 31 = .ok (.iconst 0, 1) := by decide +kernel
theorem dM_field_32 : decode bM_field 32 = .ok (.putfield 52, 3) := by decide +kernel
theorem dM_field_35 : decode bM_field 35 = .ok (.aload_n 0, 1) := by decide +kernel
theorem dM_field_36 : decode bM_field 36 = .ok (.getfield 52, 3) := by decide +kernel
theorem dM_field_39 : decode bM_field 39 = .ok (.ifCond .ne 10, 3) := by decide +kernel
theorem dM_field_42 : decode bM_field 42 = .ok (.aload_n 0, 1) := by decide +kernel
theorem dM_field_43 : decode bM_field 43 = .ok (.iload_n 1, 1) := by decide +kernel
theorem dM_field_44 : decode bM_field 44 = .ok (.iload_n 2, 1) := by decide +kernel
theorem dM_field_45 : decode bM_field 45 = .ok (.iload_n 3, 1) := by decide +kernel
theorem dM_field_46 : decode bM_field 46 = .ok (.invokevirtual 48, 3) := by decide +kernel
theorem dM_field_49 : decode bM_field 49 = .ok (.return_, 1) := by decide +kernel
theorem dM_modulo_0 : decode bM_modulo 0 = .ok (.lload_n 1, 1) := by decide +kernel
theorem dM_modulo_1 : decode bM_modulo 1 = .ok (.aload_n 0, 1) := by decide +kernel
theorem dM_modulo_2 : decode bM_modulo 2 = .ok (.getfield 7, 3) := by decide +kernel
theorem dM_modulo_5 : decode bM_modulo 5 = .ok (.i2l, 1) := by decide +kernel
theorem dM_modulo_6 : decode bM_modulo 6 = .ok (.lrem, 1) := by decide +kernel
theorem dM_modulo_7 : decode bM_modulo 7 = .ok (.l2i, 1) := by decide +kernel
theorem dM_modulo_8 : decode bM_modulo 8 = .ok (.istore_n 3, 1) := by decide +kernel
theorem dM_modulo_9 : decode bM_modulo 9 = .ok (.iload_n 3, 1) := by decide +kernel
theorem dM_modulo_10 : decode bM_modulo 10 = .ok (.ifCond .ge 12, 3) := by decide +kernel
theorem dM_modulo_13 : decode bM_modulo 13 = .ok (.iload_n 3, 1) := by decide +kernel
theorem dM_modulo_14 : decode bM_modulo 14 = .ok (.aload_n 0, 1) := by decide +kernel
theorem dM_modulo_15 : decode bM_modulo 15 = .ok (.getfield 7, 3) := by decide +kernel
theorem dM_modulo_18 : decode bM_modulo 18 = .ok (.iadd, 1) := by decide +kernel
theorem dM_modulo_19 : decode bM_modulo 19 = .ok (.goto 4, 3) := by decide +kernel
theorem dM_modulo_22 : decode bM_modulo 22 = .ok (.iload_n 3, 1) := by decide +kernel
theorem dM_modulo_23 : decode bM_modulo 23 = .ok (.ireturn, 1) := by decide +kernel
theorem dM_cell_0 : decode bM_cell 0 = .ok (.aload_n 0, 1) := by decide +kernel
theorem dM_cell_1 : decode bM_cell 1 = .ok (.getfield 27, 3) := by decide +kernel
theorem dM_cell_4 : decode bM_cell 4 = .ok (.sipush 1296, 3) := by decide +kernel
theorem dM_cell_7 : decode bM_cell 7 = .ok (.iload_n 1, 1) := by decide +kernel
theorem dM_cell_8 : decode bM_cell 8 = .ok (.imul, 1) := by decide +kernel
theorem dM_cell_9 : decode bM_cell 9 = .ok (.iload_n 2, 1) := by decide +kernel
theorem dM_cell_10 : decode bM_cell 10 = .ok (.iadd, 1) := by decide +kernel
theorem dM_cell_11 : decode bM_cell 11 = .ok (.iaload, 1) := by decide +kernel
theorem dM_cell_12 : decode bM_cell 12 = .ok (.ireturn, 1) := by decide +kernel
end
section
/-! decode rows, by program -/
theorem dL_law_0 : decode bL_law 0 = .ok (.new 8, 3) := by decide +kernel
theorem dL_law_3 : decode bL_law 3 = .ok (.dup, 1) := by decide +kernel
theorem dL_law_4 : decode bL_law 4 = .ok (.invokespecial 43, 3) := by decide +kernel
theorem dL_law_7 : decode bL_law 7 = .ok (.astore_n 1, 1) := by decide +kernel
theorem dL_law_8 : decode bL_law 8 = .ok (.new 44, 3) := by decide +kernel
theorem dL_law_11 : decode bL_law 11 = .ok (.dup, 1) := by decide +kernel
theorem dL_law_12 : decode bL_law 12 = .ok (.invokespecial 46, 3) := by decide +kernel
theorem dL_law_15 : decode bL_law 15 = .ok (.astore_n 2, 1) := by decide +kernel
theorem dL_law_16 : decode bL_law 16 = .ok (.iconst 1, 1) := by decide +kernel
theorem dL_law_17 : decode bL_law 17 = .ok (.newarray .long, 2) := by decide +kernel
theorem dL_law_19 : decode bL_law 19 = .ok (.astore_n 3, 1) := by decide +kernel
theorem dL_law_20 : decode bL_law 20 = .ok (.iconst 0, 1) := by decide +kernel
theorem dL_law_21 : decode bL_law 21 = .ok (.istore 4, 2) := by decide +kernel
theorem dL_law_23 : decode bL_law 23 = .ok (.iload 4, 2) := by decide +kernel
theorem dL_law_25 : decode bL_law 25 = .ok (.aload_n 0, 1) := by decide +kernel
theorem dL_law_26 : decode bL_law 26 = .ok (.arraylength, 1) := by decide +kernel
theorem dL_law_27 : decode bL_law 27 = .ok (.bipush 6, 2) := by decide +kernel
theorem dL_law_29 : decode bL_law 29 = .ok (.isub, 1) := by decide +kernel
theorem dL_law_30 : decode bL_law 30 = .ok (.if_icmp .gt 829, 3) := by decide +kernel
theorem dL_law_33 : decode bL_law 33 = .ok (.aload_n 0, 1) := by decide +kernel
theorem dL_law_34 : decode bL_law 34 = .ok (.iload 4, 2) := by decide +kernel
theorem dL_law_36 : decode bL_law 36 = .ok (.iaload, 1) := by decide +kernel
theorem dL_law_37 : decode bL_law 37 = .ok (.bipush 15, 2) := by decide +kernel
theorem dL_law_39 : decode bL_law 39 = .ok (.iand, 1) := by decide +kernel
theorem dL_law_40 : decode bL_law 40 = .ok (.tableswitch 813 0 12 #[68, 128, 197, 253, 278, 350, 410, 470, 542, 646, 683, 732, 788], 68) := by decide +kernel
theorem dL_law_108 : decode bL_law 108 = .ok (.aload_n 1, 1) := by decide +kernel
theorem dL_law_109 : decode bL_law 109 = .ok (.aload_n 0, 1) := by decide +kernel
theorem dL_law_110 : decode bL_law 110 = .ok (.iload 4, 2) := by decide +kernel
theorem dL_law_112 : decode bL_law 112 = .ok (.iconst 1, 1) := by decide +kernel
theorem dL_law_113 : decode bL_law 113 = .ok (.iadd, 1) := by decide +kernel
theorem dL_law_114 : decode bL_law 114 = .ok (.iaload, 1) := by decide +kernel
theorem dL_law_115 : decode bL_law 115 = .ok (.aload_n 0, 1) := by decide +kernel
theorem dL_law_116 : decode bL_law 116 = .ok (.iload 4, 2) := by decide +kernel
theorem dL_law_118 : decode bL_law 118 = .ok (.iconst 2, 1) := by decide +kernel
theorem dL_law_119 : decode bL_law 119 = .ok (.iadd, 1) := by decide +kernel
theorem dL_law_120 : decode bL_law 120 = .ok (.iaload, 1) := by decide +kernel
theorem dL_law_121 : decode bL_law 121 = .ok (.aload_n 0, 1) := by decide +kernel
theorem dL_law_122 : decode bL_law 122 = .ok (.iload 4, 2) := by decide +kernel
theorem dL_law_124 : decode bL_law 124 = .ok (.iconst 3, 1) := by decide +kernel
theorem dL_law_125 : decode bL_law 125 = .ok (.iadd, 1) := by decide +kernel
theorem dL_law_126 : decode bL_law 126 = .ok (.iaload, 1) := by decide +kernel
theorem dL_law_127 : decode bL_law 127 = .ok (.invokestatic 47, 3) := by decide +kernel
theorem dL_law_130 : decode bL_law 130 = .ok (.istore 5, 2) := by decide +kernel
theorem dL_law_132 : decode bL_law 132 = .ok (.aload_n 2, 1) := by decide +kernel
theorem dL_law_133 : decode bL_law 133 = .ok (.aload_n 0, 1) := by decide +kernel
theorem dL_law_134 : decode bL_law 134 = .ok (.iload 4, 2) := by decide +kernel
theorem dL_law_136 : decode bL_law 136 = .ok (.iconst 1, 1) := by decide +kernel
theorem dL_law_137 : decode bL_law 137 = .ok (.iadd, 1) := by decide +kernel
theorem dL_law_138 : decode bL_law 138 = .ok (.iaload, 1) := by decide +kernel
theorem dL_law_139 : decode bL_law 139 = .ok (.aload_n 0, 1) := by decide +kernel
theorem dL_law_140 : decode bL_law 140 = .ok (.iload 4, 2) := by decide +kernel
theorem dL_law_142 : decode bL_law 142 = .ok (.iconst 2, 1) := by decide +kernel
theorem dL_law_143 : decode bL_law 143 = .ok (.iadd, 1) := by decide +kernel
theorem dL_law_144 : decode bL_law 144 = .ok (.iaload, 1) := by decide +kernel
theorem dL_law_145 : decode bL_law 145 = .ok (.aload_n 0, 1) := by decide +kernel
theorem dL_law_146 : decode bL_law 146 = .ok (.iload 4, 2) := by decide +kernel
theorem dL_law_148 : decode bL_law 148 = .ok (.iconst 3, 1) := by decide +kernel
theorem dL_law_149 : decode bL_law 149 = .ok (.iadd, 1) := by decide +kernel
theorem dL_law_150 : decode bL_law 150 = .ok (.iaload, 1) := by decide +kernel
theorem dL_law_151 : decode bL_law 151 = .ok (.invokevirtual 52, 3) := by decide +kernel
theorem dL_law_154 : decode bL_law 154 = .ok (.aload_n 2, 1) := by decide +kernel
theorem dL_law_155 : decode bL_law 155 = .ok (.invokevirtual 53, 3) := by decide +kernel
theorem dL_law_158 : decode bL_law 158 = .ok (.iload 5, 2) := by decide +kernel
theorem dL_law_160 : decode bL_law 160 = .ok (.if_icmp .eq 5, 3) := by decide +kernel
theorem dL_law_163 : decode bL_law 163 = .ok (.iconst 0, 1) := by decide +kernel
theorem dL_law_164 : decode bL_law 164 = .ok (.ireturn, 1) := by decide +kernel
theorem dL_law_165 : decode bL_law 165 = .ok (.goto 688, 3) := by decide +kernel
theorem dL_law_168 : decode bL_law 168 = .ok (.aload_n 1, 1) := by decide +kernel
theorem dL_law_169 : decode bL_law 169 = .ok (.aload_n 0, 1) := by decide +kernel
theorem dL_law_170 : decode bL_law 170 = .ok (.iload 4, 2) := by decide +kernel
theorem dL_law_172 : decode bL_law 172 = .ok (.iconst 1, 1) := by decide +kernel
theorem dL_law_173 : decode bL_law 173 = .ok (.iadd, 1) := by decide +kernel
theorem dL_law_174 : decode bL_law 174 = .ok (.iaload, 1) := by decide +kernel
theorem dL_law_175 : decode bL_law 175 = .ok (.i2l, 1) := by decide +kernel
theorem dL_law_176 : decode bL_law 176 = .ok (.bipush 32, 2) := by decide +kernel
theorem dL_law_178 : decode bL_law 178 = .ok (.lshl, 1) := by decide +kernel
theorem dL_law_179 : decode bL_law 179 = .ok (.aload_n 0, 1) := by decide +kernel
theorem dL_law_180 : decode bL_law 180 = .ok (.iload 4, 2) := by decide +kernel
theorem dL_law_182 : decode bL_law 182 = .ok (.iconst 2, 1) := by decide +kernel
theorem dL_law_183 : decode bL_law 183 = .ok (.iadd, 1) := by decide +kernel
theorem dL_law_184 : decode bL_law 184 = .ok (.iaload, 1) := by decide +kernel
theorem dL_law_185 : decode bL_law 185 = .ok (.i2l, 1) := by decide +kernel
theorem dL_law_186 : decode bL_law 186 = .ok (.ldc2_w 57, 3) := by decide +kernel
theorem dL_law_189 : decode bL_law 189 = .ok (.land, 1) := by decide +kernel
theorem dL_law_190 : decode bL_law 190 = .ok (.lor, 1) := by decide +kernel
theorem dL_law_191 : decode bL_law 191 = .ok (.aload_n 0, 1) := by decide +kernel
theorem dL_law_192 : decode bL_law 192 = .ok (.iload 4, 2) := by decide +kernel
theorem dL_law_194 : decode bL_law 194 = .ok (.iconst 3, 1) := by decide +kernel
theorem dL_law_195 : decode bL_law 195 = .ok (.iadd, 1) := by decide +kernel
theorem dL_law_196 : decode bL_law 196 = .ok (.iaload, 1) := by decide +kernel
theorem dL_law_197 : decode bL_law 197 = .ok (.invokevirtual 59, 3) := by decide +kernel
theorem dL_law_200 : decode bL_law 200 = .ok (.aload_n 2, 1) := by decide +kernel
theorem dL_law_201 : decode bL_law 201 = .ok (.aload_n 0, 1) := by decide +kernel
theorem dL_law_202 : decode bL_law 202 = .ok (.iload 4, 2) := by decide +kernel
theorem dL_law_204 : decode bL_law 204 = .ok (.iconst 1, 1) := by decide +kernel
theorem dL_law_205 : decode bL_law 205 = .ok (.iadd, 1) := by decide +kernel
theorem dL_law_206 : decode bL_law 206 = .ok (.iaload, 1) := by decide +kernel
theorem dL_law_207 : decode bL_law 207 = .ok (.i2l, 1) := by decide +kernel
theorem dL_law_208 : decode bL_law 208 = .ok (.bipush 32, 2) := by decide +kernel
theorem dL_law_210 : decode bL_law 210 = .ok (.lshl, 1) := by decide +kernel
theorem dL_law_211 : decode bL_law 211 = .ok (.aload_n 0, 1) := by decide +kernel
theorem dL_law_212 : decode bL_law 212 = .ok (.iload 4, 2) := by decide +kernel
theorem dL_law_214 : decode bL_law 214 = .ok (.iconst 2, 1) := by decide +kernel
theorem dL_law_215 : decode bL_law 215 = .ok (.iadd, 1) := by decide +kernel
theorem dL_law_216 : decode bL_law 216 = .ok (.iaload, 1) := by decide +kernel
theorem dL_law_217 : decode bL_law 217 = .ok (.i2l, 1) := by decide +kernel
theorem dL_law_218 : decode bL_law 218 = .ok (.ldc2_w 57, 3) := by decide +kernel
theorem dL_law_221 : decode bL_law 221 = .ok (.land, 1) := by decide +kernel
theorem dL_law_222 : decode bL_law 222 = .ok (.lor, 1) := by decide +kernel
theorem dL_law_223 : decode bL_law 223 = .ok (.aload_n 0, 1) := by decide +kernel
theorem dL_law_224 : decode bL_law 224 = .ok (.iload 4, 2) := by decide +kernel
theorem dL_law_226 : decode bL_law 226 = .ok (.iconst 3, 1) := by decide +kernel
theorem dL_law_227 : decode bL_law 227 = .ok (.iadd, 1) := by decide +kernel
theorem dL_law_228 : decode bL_law 228 = .ok (.iaload, 1) := by decide +kernel
theorem dL_law_229 : decode bL_law 229 = .ok (.invokevirtual 63, 3) := by decide +kernel
theorem dL_law_232 : decode bL_law 232 = .ok (.if_icmp .eq 621, 3) := by decide +kernel
theorem dL_law_235 : decode bL_law 235 = .ok (.iconst 0, 1) := by decide +kernel
theorem dL_law_236 : decode bL_law 236 = .ok (.ireturn, 1) := by decide +kernel
theorem dL_law_237 : decode bL_law 237 = .ok (.aload_n 1, 1) := by decide +kernel
theorem dL_law_238 : decode bL_law 238 = .ok (.aload_n 0, 1) := by decide +kernel
theorem dL_law_239 : decode bL_law 239 = .ok (.iload 4, 2) := by decide +kernel
theorem dL_law_241 : decode bL_law 241 = .ok (.iconst 1, 1) := by decide +kernel
theorem dL_law_242 : decode bL_law 242 = .ok (.iadd, 1) := by decide +kernel
theorem dL_law_243 : decode bL_law 243 = .ok (.iaload, 1) := by decide +kernel
theorem dL_law_244 : decode bL_law 244 = .ok (.aload_n 3, 1) := by decide +kernel
theorem dL_law_245 : decode bL_law 245 = .ok (.invokestatic 64, 3) := by decide +kernel
theorem dL_law_248 : decode bL_law 248 = .ok (.istore 5, 2) := by decide +kernel
theorem dL_law_250 : decode bL_law 250 = .ok (.aload_n 2, 1) := by decide +kernel
theorem dL_law_251 : decode bL_law 251 = .ok (.aload_n 0, 1) := by decide +kernel
theorem dL_law_252 : decode bL_law 252 = .ok (.iload 4, 2) := by decide +kernel
theorem dL_law_254 : decode bL_law 254 = .ok (.iconst 1, 1) := by decide +kernel
theorem dL_law_255 : decode bL_law 255 = .ok (.iadd, 1) := by decide +kernel
theorem dL_law_256 : decode bL_law 256 = .ok (.iaload, 1) := by decide +kernel
theorem dL_law_257 : decode bL_law 257 = .ok (.invokevirtual 67, 3) := by decide +kernel
theorem dL_law_260 : decode bL_law 260 = .ok (.istore 6, 2) := by decide +kernel
theorem dL_law_262 : decode bL_law 262 = .ok (.aload_n 2, 1) := by decide +kernel
theorem dL_law_263 : decode bL_law 263 = .ok (.invokevirtual 53, 3) := by decide +kernel
theorem dL_law_266 : decode bL_law 266 = .ok (.iload 5, 2) := by decide +kernel
theorem dL_law_268 : decode bL_law 268 = .ok (.if_icmp .eq 5, 3) := by decide +kernel
theorem dL_law_271 : decode bL_law 271 = .ok (.iconst 0, 1) := by decide +kernel
theorem dL_law_272 : decode bL_law 272 = .ok (.ireturn, 1) := by decide +kernel
theorem dL_law_273 : decode bL_law 273 = .ok (.iload 5, 2) := by decide +kernel
theorem dL_law_275 : decode bL_law 275 = .ok (.ifCond .ne 15, 3) := by decide +kernel
theorem dL_law_278 : decode bL_law 278 = .ok (.aload_n 3, 1) := by decide +kernel
theorem dL_law_279 : decode bL_law 279 = .ok (.iconst 0, 1) := by decide +kernel
theorem dL_law_280 : decode bL_law 280 = .ok (.laload, 1) := by decide +kernel
theorem dL_law_281 : decode bL_law 281 = .ok (.iload 6, 2) := by decide +kernel
theorem dL_law_283 : decode bL_law 283 = .ok (.i2l, 1) := by decide +kernel
theorem dL_law_284 : decode bL_law 284 = .ok (.lcmp, 1) := by decide +kernel
theorem dL_law_285 : decode bL_law 285 = .ok (.ifCond .eq 5, 3) := by decide +kernel
theorem dL_law_288 : decode bL_law 288 = .ok (.iconst 0, 1) := by decide +kernel
theorem dL_law_289 : decode bL_law 289 = .ok (.ireturn, 1) := by decide +kernel
theorem dL_law_290 : decode bL_law 290 = .ok (.goto 563, 3) := by decide +kernel
theorem dL_law_293 : decode bL_law 293 = .ok (.aload_n 1, 1) := by decide +kernel
theorem dL_law_294 : decode bL_law 294 = .ok (.aload_n 0, 1) := by decide +kernel
theorem dL_law_295 : decode bL_law 295 = .ok (.iload 4, 2) := by decide +kernel
theorem dL_law_297 : decode bL_law 297 = .ok (.iconst 1, 1) := by decide +kernel
theorem dL_law_298 : decode bL_law 298 = .ok (.iadd, 1) := by decide +kernel
theorem dL_law_299 : decode bL_law 299 = .ok (.iaload, 1) := by decide +kernel
theorem dL_law_300 : decode bL_law 300 = .ok (.invokevirtual 68, 3) := by decide +kernel
theorem dL_law_303 : decode bL_law 303 = .ok (.aload_n 2, 1) := by decide +kernel
theorem dL_law_304 : decode bL_law 304 = .ok (.aload_n 0, 1) := by decide +kernel
theorem dL_law_305 : decode bL_law 305 = .ok (.iload 4, 2) := by decide +kernel
theorem dL_law_307 : decode bL_law 307 = .ok (.iconst 1, 1) := by decide +kernel
theorem dL_law_308 : decode bL_law 308 = .ok (.iadd, 1) := by decide +kernel
theorem dL_law_309 : decode bL_law 309 = .ok (.iaload, 1) := by decide +kernel
theorem dL_law_310 : decode bL_law 310 = .ok (.invokevirtual 71, 3) := by decide +kernel
theorem dL_law_313 : decode bL_law 313 = .ok (.if_icmp .eq 540, 3) := by decide +kernel
theorem dL_law_316 : decode bL_law 316 = .ok (.iconst 0, 1) := by decide +kernel
theorem dL_law_317 : decode bL_law 317 = .ok (.ireturn, 1) := by decide +kernel
theorem dL_law_318 : decode bL_law 318 = .ok (.aload_n 1, 1) := by decide +kernel
theorem dL_law_319 : decode bL_law 319 = .ok (.aload_n 0, 1) := by decide +kernel
theorem dL_law_320 : decode bL_law 320 = .ok (.iload 4, 2) := by decide +kernel
theorem dL_law_322 : decode bL_law 322 = .ok (.iconst 1, 1) := by decide +kernel
theorem dL_law_323 : decode bL_law 323 = .ok (.iadd, 1) := by decide +kernel
theorem dL_law_324 : decode bL_law 324 = .ok (.iaload, 1) := by decide +kernel
theorem dL_law_325 : decode bL_law 325 = .ok (.aload_n 0, 1) := by decide +kernel
theorem dL_law_326 : decode bL_law 326 = .ok (.iload 4, 2) := by decide +kernel
theorem dL_law_328 : decode bL_law 328 = .ok (.iconst 2, 1) := by decide +kernel
theorem dL_law_329 : decode bL_law 329 = .ok (.iadd, 1) := by decide +kernel
theorem dL_law_330 : decode bL_law 330 = .ok (.iaload, 1) := by decide +kernel
theorem dL_law_331 : decode bL_law 331 = .ok (.aload_n 0, 1) := by decide +kernel
theorem dL_law_332 : decode bL_law 332 = .ok (.iload 4, 2) := by decide +kernel
theorem dL_law_334 : decode bL_law 334 = .ok (.iconst 3, 1) := by decide +kernel
theorem dL_law_335 : decode bL_law 335 = .ok (.iadd, 1) := by decide +kernel
theorem dL_law_336 : decode bL_law 336 = .ok (.iaload, 1) := by decide +kernel
theorem dL_law_337 : decode bL_law 337 = .ok (.aload_n 0, 1) := by decide +kernel
theorem dL_law_338 : decode bL_law 338 = .ok (.iload 4, 2) := by decide +kernel
theorem dL_law_340 : decode bL_law 340 = .ok (.iconst 4, 1) := by decide +kernel
theorem dL_law_341 : decode bL_law 341 = .ok (.iadd, 1) := by decide +kernel
theorem dL_law_342 : decode bL_law 342 = .ok (.iaload, 1) := by decide +kernel
theorem dL_law_343 : decode bL_law 343 = .ok (.invokestatic 72, 3) := by decide +kernel
theorem dL_law_346 : decode bL_law 346 = .ok (.istore 5, 2) := by decide +kernel
theorem dL_law_348 : decode bL_law 348 = .ok (.aload_n 2, 1) := by decide +kernel
theorem dL_law_349 : decode bL_law 349 = .ok (.aload_n 0, 1) := by decide +kernel
theorem dL_law_350 : decode bL_law 350 = .ok (.iload 4, 2) := by decide +kernel
theorem dL_law_352 : decode bL_law 352 = .ok (.iconst 1, 1) := by decide +kernel
theorem dL_law_353 : decode bL_law 353 = .ok (.iadd, 1) := by decide +kernel
theorem dL_law_354 : decode bL_law 354 = .ok (.iaload, 1) := by decide +kernel
theorem dL_law_355 : decode bL_law 355 = .ok (.aload_n 0, 1) := by decide +kernel
theorem dL_law_356 : decode bL_law 356 = .ok (.iload 4, 2) := by decide +kernel
theorem dL_law_358 : decode bL_law 358 = .ok (.iconst 2, 1) := by decide +kernel
theorem dL_law_359 : decode bL_law 359 = .ok (.iadd, 1) := by decide +kernel
theorem dL_law_360 : decode bL_law 360 = .ok (.iaload, 1) := by decide +kernel
theorem dL_law_361 : decode bL_law 361 = .ok (.aload_n 0, 1) := by decide +kernel
theorem dL_law_362 : decode bL_law 362 = .ok (.iload 4, 2) := by decide +kernel
theorem dL_law_364 : decode bL_law 364 = .ok (.iconst 3, 1) := by decide +kernel
theorem dL_law_365 : decode bL_law 365 = .ok (.iadd, 1) := by decide +kernel
theorem dL_law_366 : decode bL_law 366 = .ok (.iaload, 1) := by decide +kernel
theorem dL_law_367 : decode bL_law 367 = .ok (.aload_n 0, 1) := by decide +kernel
theorem dL_law_368 : decode bL_law 368 = .ok (.iload 4, 2) := by decide +kernel
theorem dL_law_370 : decode bL_law 370 = .ok (.iconst 4, 1) := by decide +kernel
theorem dL_law_371 : decode bL_law 371 = .ok (.iadd, 1) := by decide +kernel
theorem dL_law_372 : decode bL_law 372 = .ok (.iaload, 1) := by decide +kernel
theorem dL_law_373 : decode bL_law 373 = .ok (.invokevirtual 75, 3) := by decide +kernel
theorem dL_law_376 : decode bL_law 376 = .ok (.aload_n 2, 1) := by decide +kernel
theorem dL_law_377 : decode bL_law 377 = .ok (.invokevirtual 53, 3) := by decide +kernel
theorem dL_law_380 : decode bL_law 380 = .ok (.iload 5, 2) := by decide +kernel
theorem dL_law_382 : decode bL_law 382 = .ok (.if_icmp .eq 5, 3) := by decide +kernel
theorem dL_law_385 : decode bL_law 385 = .ok (.iconst 0, 1) := by decide +kernel
theorem dL_law_386 : decode bL_law 386 = .ok (.ireturn, 1) := by decide +kernel
theorem dL_law_387 : decode bL_law 387 = .ok (.goto 466, 3) := by decide +kernel
theorem dL_law_390 : decode bL_law 390 = .ok (.aload_n 1, 1) := by decide +kernel
theorem dL_law_391 : decode bL_law 391 = .ok (.aload_n 0, 1) := by decide +kernel
theorem dL_law_392 : decode bL_law 392 = .ok (.iload 4, 2) := by decide +kernel
theorem dL_law_394 : decode bL_law 394 = .ok (.iconst 1, 1) := by decide +kernel
theorem dL_law_395 : decode bL_law 395 = .ok (.iadd, 1) := by decide +kernel
theorem dL_law_396 : decode bL_law 396 = .ok (.iaload, 1) := by decide +kernel
theorem dL_law_397 : decode bL_law 397 = .ok (.aload_n 0, 1) := by decide +kernel
theorem dL_law_398 : decode bL_law 398 = .ok (.iload 4, 2) := by decide +kernel
theorem dL_law_400 : decode bL_law 400 = .ok (.iconst 2, 1) := by decide +kernel
theorem dL_law_401 : decode bL_law 401 = .ok (.iadd, 1) := by decide +kernel
theorem dL_law_402 : decode bL_law 402 = .ok (.iaload, 1) := by decide +kernel
theorem dL_law_403 : decode bL_law 403 = .ok (.aload_n 0, 1) := by decide +kernel
theorem dL_law_404 : decode bL_law 404 = .ok (.iload 4, 2) := by decide +kernel
theorem dL_law_406 : decode bL_law 406 = .ok (.iconst 3, 1) := by decide +kernel
theorem dL_law_407 : decode bL_law 407 = .ok (.iadd, 1) := by decide +kernel
theorem dL_law_408 : decode bL_law 408 = .ok (.iaload, 1) := by decide +kernel
theorem dL_law_409 : decode bL_law 409 = .ok (.invokestatic 76, 3) := by decide +kernel
theorem dL_law_412 : decode bL_law 412 = .ok (.istore 5, 2) := by decide +kernel
theorem dL_law_414 : decode bL_law 414 = .ok (.aload_n 2, 1) := by decide +kernel
theorem dL_law_415 : decode bL_law 415 = .ok (.aload_n 0, 1) := by decide +kernel
theorem dL_law_416 : decode bL_law 416 = .ok (.iload 4, 2) := by decide +kernel
theorem dL_law_418 : decode bL_law 418 = .ok (.iconst 1, 1) := by decide +kernel
theorem dL_law_419 : decode bL_law 419 = .ok (.iadd, 1) := by decide +kernel
theorem dL_law_420 : decode bL_law 420 = .ok (.iaload, 1) := by decide +kernel
theorem dL_law_421 : decode bL_law 421 = .ok (.aload_n 0, 1) := by decide +kernel
theorem dL_law_422 : decode bL_law 422 = .ok (.iload 4, 2) := by decide +kernel
theorem dL_law_424 : decode bL_law 424 = .ok (.iconst 2, 1) := by decide +kernel
theorem dL_law_425 : decode bL_law 425 = .ok (.iadd, 1) := by decide +kernel
theorem dL_law_426 : decode bL_law 426 = .ok (.iaload, 1) := by decide +kernel
theorem dL_law_427 : decode bL_law 427 = .ok (.aload_n 0, 1) := by decide +kernel
theorem dL_law_428 : decode bL_law 428 = .ok (.iload 4, 2) := by decide +kernel
theorem dL_law_430 : decode bL_law 430 = .ok (.iconst 3, 1) := by decide +kernel
theorem dL_law_431 : decode bL_law 431 = .ok (.iadd, 1) := by decide +kernel
theorem dL_law_432 : decode bL_law 432 = .ok (.iaload, 1) := by decide +kernel
theorem dL_law_433 : decode bL_law 433 = .ok (.invokevirtual 78, 3) := by decide +kernel
theorem dL_law_436 : decode bL_law 436 = .ok (.aload_n 2, 1) := by decide +kernel
theorem dL_law_437 : decode bL_law 437 = .ok (.invokevirtual 53, 3) := by decide +kernel
theorem dL_law_440 : decode bL_law 440 = .ok (.iload 5, 2) := by decide +kernel
theorem dL_law_442 : decode bL_law 442 = .ok (.if_icmp .eq 5, 3) := by decide +kernel
theorem dL_law_445 : decode bL_law 445 = .ok (.iconst 0, 1) := by decide +kernel
theorem dL_law_446 : decode bL_law 446 = .ok (.ireturn, 1) := by decide +kernel
theorem dL_law_447 : decode bL_law 447 = .ok (.goto 406, 3) := by decide +kernel
theorem dL_law_450 : decode bL_law 450 = .ok (.aload_n 1, 1) := by decide +kernel
theorem dL_law_451 : decode bL_law 451 = .ok (.aload_n 0, 1) := by decide +kernel
theorem dL_law_452 : decode bL_law 452 = .ok (.iload 4, 2) := by decide +kernel
theorem dL_law_454 : decode bL_law 454 = .ok (.iconst 1, 1) := by decide +kernel
theorem dL_law_455 : decode bL_law 455 = .ok (.iadd, 1) := by decide +kernel
theorem dL_law_456 : decode bL_law 456 = .ok (.iaload, 1) := by decide +kernel
theorem dL_law_457 : decode bL_law 457 = .ok (.aload_n 0, 1) := by decide +kernel
theorem dL_law_458 : decode bL_law 458 = .ok (.iload 4, 2) := by decide +kernel
theorem dL_law_460 : decode bL_law 460 = .ok (.iconst 2, 1) := by decide +kernel
theorem dL_law_461 : decode bL_law 461 = .ok (.iadd, 1) := by decide +kernel
theorem dL_law_462 : decode bL_law 462 = .ok (.iaload, 1) := by decide +kernel
theorem dL_law_463 : decode bL_law 463 = .ok (.aload_n 0, 1) := by decide +kernel
theorem dL_law_464 : decode bL_law 464 = .ok (.iload 4, 2) := by decide +kernel
theorem dL_law_466 : decode bL_law 466 = .ok (.iconst 3, 1) := by decide +kernel
theorem dL_law_467 : decode bL_law 467 = .ok (.iadd, 1) := by decide +kernel
theorem dL_law_468 : decode bL_law 468 = .ok (.iaload, 1) := by decide +kernel
theorem dL_law_469 : decode bL_law 469 = .ok (.invokestatic 79, 3) := by decide +kernel
theorem dL_law_472 : decode bL_law 472 = .ok (.istore 5, 2) := by decide +kernel
theorem dL_law_474 : decode bL_law 474 = .ok (.aload_n 2, 1) := by decide +kernel
theorem dL_law_475 : decode bL_law 475 = .ok (.aload_n 0, 1) := by decide +kernel
theorem dL_law_476 : decode bL_law 476 = .ok (.iload 4, 2) := by decide +kernel
theorem dL_law_478 : decode bL_law 478 = .ok (.iconst 1, 1) := by decide +kernel
theorem dL_law_479 : decode bL_law 479 = .ok (.iadd, 1) := by decide +kernel
theorem dL_law_480 : decode bL_law 480 = .ok (.iaload, 1) := by decide +kernel
theorem dL_law_481 : decode bL_law 481 = .ok (.aload_n 0, 1) := by decide +kernel
theorem dL_law_482 : decode bL_law 482 = .ok (.iload 4, 2) := by decide +kernel
theorem dL_law_484 : decode bL_law 484 = .ok (.iconst 2, 1) := by decide +kernel
theorem dL_law_485 : decode bL_law 485 = .ok (.iadd, 1) := by decide +kernel
theorem dL_law_486 : decode bL_law 486 = .ok (.iaload, 1) := by decide +kernel
theorem dL_law_487 : decode bL_law 487 = .ok (.aload_n 0, 1) := by decide +kernel
theorem dL_law_488 : decode bL_law 488 = .ok (.iload 4, 2) := by decide +kernel
theorem dL_law_490 : decode bL_law 490 = .ok (.iconst 3, 1) := by decide +kernel
theorem dL_law_491 : decode bL_law 491 = .ok (.iadd, 1) := by decide +kernel
theorem dL_law_492 : decode bL_law 492 = .ok (.iaload, 1) := by decide +kernel
theorem dL_law_493 : decode bL_law 493 = .ok (.invokevirtual 81, 3) := by decide +kernel
theorem dL_law_496 : decode bL_law 496 = .ok (.aload_n 2, 1) := by decide +kernel
theorem dL_law_497 : decode bL_law 497 = .ok (.invokevirtual 53, 3) := by decide +kernel
theorem dL_law_500 : decode bL_law 500 = .ok (.iload 5, 2) := by decide +kernel
theorem dL_law_502 : decode bL_law 502 = .ok (.if_icmp .eq 5, 3) := by decide +kernel
theorem dL_law_505 : decode bL_law 505 = .ok (.iconst 0, 1) := by decide +kernel
theorem dL_law_506 : decode bL_law 506 = .ok (.ireturn, 1) := by decide +kernel
theorem dL_law_507 : decode bL_law 507 = .ok (.goto 346, 3) := by decide +kernel
theorem dL_law_510 : decode bL_law 510 = .ok (.aload_n 1, 1) := by decide +kernel
theorem dL_law_511 : decode bL_law 511 = .ok (.aload_n 0, 1) := by decide +kernel
theorem dL_law_512 : decode bL_law 512 = .ok (.iload 4, 2) := by decide +kernel
theorem dL_law_514 : decode bL_law 514 = .ok (.iconst 1, 1) := by decide +kernel
theorem dL_law_515 : decode bL_law 515 = .ok (.iadd, 1) := by decide +kernel
theorem dL_law_516 : decode bL_law 516 = .ok (.iaload, 1) := by decide +kernel
theorem dL_law_517 : decode bL_law 517 = .ok (.aload_n 0, 1) := by decide +kernel
theorem dL_law_518 : decode bL_law 518 = .ok (.iload 4, 2) := by decide +kernel
theorem dL_law_520 : decode bL_law 520 = .ok (.iconst 2, 1) := by decide +kernel
theorem dL_law_521 : decode bL_law 521 = .ok (.iadd, 1) := by decide +kernel
theorem dL_law_522 : decode bL_law 522 = .ok (.iaload, 1) := by decide +kernel
theorem dL_law_523 : decode bL_law 523 = .ok (.aload_n 0, 1) := by decide +kernel
theorem dL_law_524 : decode bL_law 524 = .ok (.iload 4, 2) := by decide +kernel
theorem dL_law_526 : decode bL_law 526 = .ok (.iconst 3, 1) := by decide +kernel
theorem dL_law_527 : decode bL_law 527 = .ok (.iadd, 1) := by decide +kernel
theorem dL_law_528 : decode bL_law 528 = .ok (.iaload, 1) := by decide +kernel
theorem dL_law_529 : decode bL_law 529 = .ok (.aload_n 0, 1) := by decide +kernel
theorem dL_law_530 : decode bL_law 530 = .ok (.iload 4, 2) := by decide +kernel
theorem dL_law_532 : decode bL_law 532 = .ok (.iconst 4, 1) := by decide +kernel
theorem dL_law_533 : decode bL_law 533 = .ok (.iadd, 1) := by decide +kernel
theorem dL_law_534 : decode bL_law 534 = .ok (.iaload, 1) := by decide +kernel
theorem dL_law_535 : decode bL_law 535 = .ok (.invokestatic 82, 3) := by decide +kernel
theorem dL_law_538 : decode bL_law 538 = .ok (.istore 5, 2) := by decide +kernel
theorem dL_law_540 : decode bL_law 540 = .ok (.aload_n 2, 1) := by decide +kernel
theorem dL_law_541 : decode bL_law 541 = .ok (.aload_n 0, 1) := by decide +kernel
theorem dL_law_542 : decode bL_law 542 = .ok (.iload 4, 2) := by decide +kernel
theorem dL_law_544 : decode bL_law 544 = .ok (.iconst 1, 1) := by decide +kernel
theorem dL_law_545 : decode bL_law 545 = .ok (.iadd, 1) := by decide +kernel
theorem dL_law_546 : decode bL_law 546 = .ok (.iaload, 1) := by decide +kernel
theorem dL_law_547 : decode bL_law 547 = .ok (.aload_n 0, 1) := by decide +kernel
theorem dL_law_548 : decode bL_law 548 = .ok (.iload 4, 2) := by decide +kernel
theorem dL_law_550 : decode bL_law 550 = .ok (.iconst 2, 1) := by decide +kernel
theorem dL_law_551 : decode bL_law 551 = .ok (.iadd, 1) := by decide +kernel
theorem dL_law_552 : decode bL_law 552 = .ok (.iaload, 1) := by decide +kernel
theorem dL_law_553 : decode bL_law 553 = .ok (.aload_n 0, 1) := by decide +kernel
theorem dL_law_554 : decode bL_law 554 = .ok (.iload 4, 2) := by decide +kernel
theorem dL_law_556 : decode bL_law 556 = .ok (.iconst 3, 1) := by decide +kernel
theorem dL_law_557 : decode bL_law 557 = .ok (.iadd, 1) := by decide +kernel
theorem dL_law_558 : decode bL_law 558 = .ok (.iaload, 1) := by decide +kernel
theorem dL_law_559 : decode bL_law 559 = .ok (.aload_n 0, 1) := by decide +kernel
theorem dL_law_560 : decode bL_law 560 = .ok (.iload 4, 2) := by decide +kernel
theorem dL_law_562 : decode bL_law 562 = .ok (.iconst 4, 1) := by decide +kernel
theorem dL_law_563 : decode bL_law 563 = .ok (.iadd, 1) := by decide +kernel
theorem dL_law_564 : decode bL_law 564 = .ok (.iaload, 1) := by decide +kernel
theorem dL_law_565 : decode bL_law 565 = .ok (.invokevirtual 84, 3) := by decide +kernel
theorem dL_law_568 : decode bL_law 568 = .ok (.aload_n 2, 1) := by decide +kernel
theorem dL_law_569 : decode bL_law 569 = .ok (.invokevirtual 53, 3) := by decide +kernel
theorem dL_law_572 : decode bL_law 572 = .ok (.iload 5, 2) := by decide +kernel
theorem dL_law_574 : decode bL_law 574 = .ok (.if_icmp .eq 5, 3) := by decide +kernel
theorem dL_law_577 : decode bL_law 577 = .ok (.iconst 0, 1) := by decide +kernel
theorem dL_law_578 : decode bL_law 578 = .ok (.ireturn, 1) := by decide +kernel
theorem dL_law_579 : decode bL_law 579 = .ok (.goto 274, 3) := by decide +kernel
theorem dL_law_582 : decode bL_law 582 = .ok (.aload_n 1, 1) := by decide +kernel
theorem dL_law_583 : decode bL_law 583 = .ok (.aload_n 0, 1) := by decide +kernel
theorem dL_law_584 : decode bL_law 584 = .ok (.iload 4, 2) := by decide +kernel
theorem dL_law_586 : decode bL_law 586 = .ok (.iconst 1, 1) := by decide +kernel
theorem dL_law_587 : decode bL_law 587 = .ok (.iadd, 1) := by decide +kernel
theorem dL_law_588 : decode bL_law 588 = .ok (.iaload, 1) := by decide +kernel
theorem dL_law_589 : decode bL_law 589 = .ok (.aload_n 0, 1) := by decide +kernel
theorem dL_law_590 : decode bL_law 590 = .ok (.iload 4, 2) := by decide +kernel
theorem dL_law_592 : decode bL_law 592 = .ok (.iconst 2, 1) := by decide +kernel
theorem dL_law_593 : decode bL_law 593 = .ok (.iadd, 1) := by decide +kernel
theorem dL_law_594 : decode bL_law 594 = .ok (.iaload, 1) := by decide +kernel
theorem dL_law_595 : decode bL_law 595 = .ok (.aload_n 0, 1) := by decide +kernel
theorem dL_law_596 : decode bL_law 596 = .ok (.iload 4, 2) := by decide +kernel
theorem dL_law_598 : decode bL_law 598 = .ok (.iconst 3, 1) := by decide +kernel
theorem dL_law_599 : decode bL_law 599 = .ok (.iadd, 1) := by decide +kernel
theorem dL_law_600 : decode bL_law 600 = .ok (.iaload, 1) := by decide +kernel
theorem dL_law_601 : decode bL_law 601 = .ok (.aload_n 0, 1) := by decide +kernel
theorem dL_law_602 : decode bL_law 602 = .ok (.iload 4, 2) := by decide +kernel
theorem dL_law_604 : decode bL_law 604 = .ok (.iconst 4, 1) := by decide +kernel
theorem dL_law_605 : decode bL_law 605 = .ok (.iadd, 1) := by decide +kernel
theorem dL_law_606 : decode bL_law 606 = .ok (.iaload, 1) := by decide +kernel
theorem dL_law_607 : decode bL_law 607 = .ok (.aload_n 0, 1) := by decide +kernel
theorem dL_law_608 : decode bL_law 608 = .ok (.iload 4, 2) := by decide +kernel
theorem dL_law_610 : decode bL_law 610 = .ok (.iconst 5, 1) := by decide +kernel
theorem dL_law_611 : decode bL_law 611 = .ok (.iadd, 1) := by decide +kernel
theorem dL_law_612 : decode bL_law 612 = .ok (.iaload, 1) := by decide +kernel
theorem dL_law_613 : decode bL_law 613 = .ok (.aload_n 3, 1) := by decide +kernel
theorem dL_law_614 : decode bL_law 614 = .ok (.invokestatic 85, 3) := by decide +kernel
theorem dL_law_617 : decode bL_law 617 = .ok (.istore 5, 2) := by decide +kernel
theorem dL_law_619 : decode bL_law 619 = .ok (.aload_n 2, 1) := by decide +kernel
theorem dL_law_620 : decode bL_law 620 = .ok (.aload_n 0, 1) := by decide +kernel
theorem dL_law_621 : decode bL_law 621 = .ok (.iload 4, 2) := by decide +kernel
theorem dL_law_623 : decode bL_law 623 = .ok (.iconst 1, 1) := by decide +kernel
theorem dL_law_624 : decode bL_law 624 = .ok (.iadd, 1) := by decide +kernel
theorem dL_law_625 : decode bL_law 625 = .ok (.iaload, 1) := by decide +kernel
theorem dL_law_626 : decode bL_law 626 = .ok (.aload_n 0, 1) := by decide +kernel
theorem dL_law_627 : decode bL_law 627 = .ok (.iload 4, 2) := by decide +kernel
theorem dL_law_629 : decode bL_law 629 = .ok (.iconst 2, 1) := by decide +kernel
theorem dL_law_630 : decode bL_law 630 = .ok (.iadd, 1) := by decide +kernel
theorem dL_law_631 : decode bL_law 631 = .ok (.iaload, 1) := by decide +kernel
theorem dL_law_632 : decode bL_law 632 = .ok (.aload_n 0, 1) := by decide +kernel
theorem dL_law_633 : decode bL_law 633 = .ok (.iload 4, 2) := by decide +kernel
theorem dL_law_635 : decode bL_law 635 = .ok (.iconst 3, 1) := by decide +kernel
theorem dL_law_636 : decode bL_law 636 = .ok (.iadd, 1) := by decide +kernel
theorem dL_law_637 : decode bL_law 637 = .ok (.iaload, 1) := by decide +kernel
theorem dL_law_638 : decode bL_law 638 = .ok (.aload_n 0, 1) := by decide +kernel
theorem dL_law_639 : decode bL_law 639 = .ok (.iload 4, 2) := by decide +kernel
theorem dL_law_641 : decode bL_law 641 = .ok (.iconst 4, 1) := by decide +kernel
theorem dL_law_642 : decode bL_law 642 = .ok (.iadd, 1) := by decide +kernel
theorem dL_law_643 : decode bL_law 643 = .ok (.iaload, 1) := by decide +kernel
theorem dL_law_644 : decode bL_law 644 = .ok (.aload_n 0, 1) := by decide +kernel
theorem dL_law_645 : decode bL_law 645 = .ok (.iload 4, 2) := by decide +kernel
theorem dL_law_647 : decode bL_law 647 = .ok (.iconst 5, 1) := by decide +kernel
theorem dL_law_648 : decode bL_law 648 = .ok (.iadd, 1) := by decide +kernel
theorem dL_law_649 : decode bL_law 649 = .ok (.iaload, 1) := by decide +kernel
theorem dL_law_650 : decode bL_law 650 = .ok (.invokevirtual 88, 3) := by decide +kernel
theorem dL_law_653 : decode bL_law 653 = .ok (.istore 6, 2) := by decide +kernel
theorem dL_law_655 : decode bL_law 655 = .ok (.aload_n 2, 1) := by decide +kernel
theorem dL_law_656 : decode bL_law 656 = .ok (.invokevirtual 53, 3) := by decide +kernel
theorem dL_law_659 : decode bL_law 659 = .ok (.iload 5, 2) := by decide +kernel
theorem dL_law_661 : decode bL_law 661 = .ok (.if_icmp .eq 5, 3) := by decide +kernel
theorem dL_law_664 : decode bL_law 664 = .ok (.iconst 0, 1) := by decide +kernel
theorem dL_law_665 : decode bL_law 665 = .ok (.ireturn, 1) := by decide +kernel
theorem dL_law_666 : decode bL_law 666 = .ok (.iload 5, 2) := by decide +kernel
theorem dL_law_668 : decode bL_law 668 = .ok (.ifCond .ne 15, 3) := by decide +kernel
theorem dL_law_671 : decode bL_law 671 = .ok (.aload_n 3, 1) := by decide +kernel
theorem dL_law_672 : decode bL_law 672 = .ok (.iconst 0, 1) := by decide +kernel
theorem dL_law_673 : decode bL_law 673 = .ok (.laload, 1) := by decide +kernel
theorem dL_law_674 : decode bL_law 674 = .ok (.iload 6, 2) := by decide +kernel
theorem dL_law_676 : decode bL_law 676 = .ok (.i2l, 1) := by decide +kernel
theorem dL_law_677 : decode bL_law 677 = .ok (.lcmp, 1) := by decide +kernel
theorem dL_law_678 : decode bL_law 678 = .ok (.ifCond .eq 5, 3) := by decide +kernel
theorem dL_law_681 : decode bL_law 681 = .ok (.iconst 0, 1) := by decide +kernel
theorem dL_law_682 : decode bL_law 682 = .ok (.ireturn, 1) := by decide +kernel
theorem dL_law_683 : decode bL_law 683 = .ok (.goto 170, 3) := by decide +kernel
theorem dL_law_686 : decode bL_law 686 = .ok (.aload_n 1, 1) := by decide +kernel
theorem dL_law_687 : decode bL_law 687 = .ok (.aload_n 0, 1) := by decide +kernel
theorem dL_law_688 : decode bL_law 688 = .ok (.iload 4, 2) := by decide +kernel
theorem dL_law_690 : decode bL_law 690 = .ok (.iconst 1, 1) := by decide +kernel
theorem dL_law_691 : decode bL_law 691 = .ok (.iadd, 1) := by decide +kernel
theorem dL_law_692 : decode bL_law 692 = .ok (.iaload, 1) := by decide +kernel
theorem dL_law_693 : decode bL_law 693 = .ok (.aload_n 0, 1) := by decide +kernel
theorem dL_law_694 : decode bL_law 694 = .ok (.iload 4, 2) := by decide +kernel
theorem dL_law_696 : decode bL_law 696 = .ok (.iconst 2, 1) := by decide +kernel
theorem dL_law_697 : decode bL_law 697 = .ok (.iadd, 1) := by decide +kernel
theorem dL_law_698 : decode bL_law 698 = .ok (.iaload, 1) := by decide +kernel
theorem dL_law_699 : decode bL_law 699 = .ok (.invokevirtual 89, 3) := by decide +kernel
theorem dL_law_702 : decode bL_law 702 = .ok (.aload_n 2, 1) := by decide +kernel
theorem dL_law_703 : decode bL_law 703 = .ok (.aload_n 0, 1) := by decide +kernel
theorem dL_law_704 : decode bL_law 704 = .ok (.iload 4, 2) := by decide +kernel
theorem dL_law_706 : decode bL_law 706 = .ok (.iconst 1, 1) := by decide +kernel
theorem dL_law_707 : decode bL_law 707 = .ok (.iadd, 1) := by decide +kernel
theorem dL_law_708 : decode bL_law 708 = .ok (.iaload, 1) := by decide +kernel
theorem dL_law_709 : decode bL_law 709 = .ok (.aload_n 0, 1) := by decide +kernel
theorem dL_law_710 : decode bL_law 710 = .ok (.iload 4, 2) := by decide +kernel
theorem dL_law_712 : decode bL_law 712 = .ok (.iconst 2, 1) := by decide +kernel
theorem dL_law_713 : decode bL_law 713 = .ok (.iadd, 1) := by decide +kernel
theorem dL_law_714 : decode bL_law 714 = .ok (.iaload, 1) := by decide +kernel
theorem dL_law_715 : decode bL_law 715 = .ok (.invokevirtual 93, 3) := by decide +kernel
theorem dL_law_718 : decode bL_law 718 = .ok (.if_icmp .eq 135, 3) := by decide +kernel
theorem dL_law_721 : decode bL_law 721 = .ok (.iconst 0, 1) := by decide +kernel
theorem dL_law_722 : decode bL_law 722 = .ok (.ireturn, 1) := by decide +kernel
theorem dL_law_723 : decode bL_law 723 = .ok (.aload_n 1, 1) := by decide +kernel
theorem dL_law_724 : decode bL_law 724 = .ok (.aload_n 0, 1) := by decide +kernel
theorem dL_law_725 : decode bL_law 725 = .ok (.iload 4, 2) := by decide +kernel
theorem dL_law_727 : decode bL_law 727 = .ok (.iconst 1, 1) := by decide +kernel
theorem dL_law_728 : decode bL_law 728 = .ok (.iadd, 1) := by decide +kernel
theorem dL_law_729 : decode bL_law 729 = .ok (.iaload, 1) := by decide +kernel
theorem dL_law_730 : decode bL_law 730 = .ok (.aload_n 0, 1) := by decide +kernel
theorem dL_law_731 : decode bL_law 731 = .ok (.iload 4, 2) := by decide +kernel
theorem dL_law_733 : decode bL_law 733 = .ok (.iconst 2, 1) := by decide +kernel
theorem dL_law_734 : decode bL_law 734 = .ok (.iadd, 1) := by decide +kernel
theorem dL_law_735 : decode bL_law 735 = .ok (.iaload, 1) := by decide +kernel
theorem dL_law_736 : decode bL_law 736 = .ok (.aload_n 0, 1) := by decide +kernel
theorem dL_law_737 : decode bL_law 737 = .ok (.iload 4, 2) := by decide +kernel
theorem dL_law_739 : decode bL_law 739 = .ok (.iconst 3, 1) := by decide +kernel
theorem dL_law_740 : decode bL_law 740 = .ok (.iadd, 1) := by decide +kernel
theorem dL_law_741 : decode bL_law 741 = .ok (.iaload, 1) := by decide +kernel
theorem dL_law_742 : decode bL_law 742 = .ok (.invokevirtual 94, 3) := by decide +kernel
theorem dL_law_745 : decode bL_law 745 = .ok (.aload_n 2, 1) := by decide +kernel
theorem dL_law_746 : decode bL_law 746 = .ok (.aload_n 0, 1) := by decide +kernel
theorem dL_law_747 : decode bL_law 747 = .ok (.iload 4, 2) := by decide +kernel
theorem dL_law_749 : decode bL_law 749 = .ok (.iconst 1, 1) := by decide +kernel
theorem dL_law_750 : decode bL_law 750 = .ok (.iadd, 1) := by decide +kernel
theorem dL_law_751 : decode bL_law 751 = .ok (.iaload, 1) := by decide +kernel
theorem dL_law_752 : decode bL_law 752 = .ok (.aload_n 0, 1) := by decide +kernel
theorem dL_law_753 : decode bL_law 753 = .ok (.iload 4, 2) := by decide +kernel
theorem dL_law_755 : decode bL_law 755 = .ok (.iconst 2, 1) := by decide +kernel
theorem dL_law_756 : decode bL_law 756 = .ok (.iadd, 1) := by decide +kernel
theorem dL_law_757 : decode bL_law 757 = .ok (.iaload, 1) := by decide +kernel
theorem dL_law_758 : decode bL_law 758 = .ok (.aload_n 0, 1) := by decide +kernel
theorem dL_law_759 : decode bL_law 759 = .ok (.iload 4, 2) := by decide +kernel
theorem dL_law_761 : decode bL_law 761 = .ok (.iconst 3, 1) := by decide +kernel
theorem dL_law_762 : decode bL_law 762 = .ok (.iadd, 1) := by decide +kernel
theorem dL_law_763 : decode bL_law 763 = .ok (.iaload, 1) := by decide +kernel
theorem dL_law_764 : decode bL_law 764 = .ok (.invokevirtual 98, 3) := by decide +kernel
theorem dL_law_767 : decode bL_law 767 = .ok (.if_icmp .eq 86, 3) := by decide +kernel
theorem dL_law_770 : decode bL_law 770 = .ok (.iconst 0, 1) := by decide +kernel
theorem dL_law_771 : decode bL_law 771 = .ok (.ireturn, 1) := by decide +kernel
theorem dL_law_772 : decode bL_law 772 = .ok (.aload_n 1, 1) := by decide +kernel
theorem dL_law_773 : decode bL_law 773 = .ok (.aload_n 0, 1) := by decide +kernel
theorem dL_law_774 : decode bL_law 774 = .ok (.iload 4, 2) := by decide +kernel
theorem dL_law_776 : decode bL_law 776 = .ok (.iconst 1, 1) := by decide +kernel
theorem dL_law_777 : decode bL_law 777 = .ok (.iadd, 1) := by decide +kernel
theorem dL_law_778 : decode bL_law 778 = .ok (.iaload, 1) := by decide +kernel
theorem dL_law_779 : decode bL_law 779 = .ok (.aload_n 3, 1) := by decide +kernel
theorem dL_law_780 : decode bL_law 780 = .ok (.invokestatic 99, 3) := by decide +kernel
theorem dL_law_783 : decode bL_law 783 = .ok (.istore 5, 2) := by decide +kernel
theorem dL_law_785 : decode bL_law 785 = .ok (.aload_n 2, 1) := by decide +kernel
theorem dL_law_786 : decode bL_law 786 = .ok (.aload_n 0, 1) := by decide +kernel
theorem dL_law_787 : decode bL_law 787 = .ok (.iload 4, 2) := by decide +kernel
theorem dL_law_789 : decode bL_law 789 = .ok (.iconst 1, 1) := by decide +kernel
theorem dL_law_790 : decode bL_law 790 = .ok (.iadd, 1) := by decide +kernel
theorem dL_law_791 : decode bL_law 791 = .ok (.iaload, 1) := by decide +kernel
theorem dL_law_792 : decode bL_law 792 = .ok (.invokevirtual 101, 3) := by decide +kernel
theorem dL_law_795 : decode bL_law 795 = .ok (.istore 6, 2) := by decide +kernel
theorem dL_law_797 : decode bL_law 797 = .ok (.aload_n 2, 1) := by decide +kernel
theorem dL_law_798 : decode bL_law 798 = .ok (.invokevirtual 53, 3) := by decide +kernel
theorem dL_law_801 : decode bL_law 801 = .ok (.iload 5, 2) := by decide +kernel
theorem dL_law_803 : decode bL_law 803 = .ok (.if_icmp .eq 5, 3) := by decide +kernel
theorem dL_law_806 : decode bL_law 806 = .ok (.iconst 0, 1) := by decide +kernel
theorem dL_law_807 : decode bL_law 807 = .ok (.ireturn, 1) := by decide +kernel
theorem dL_law_808 : decode bL_law 808 = .ok (.iload 5, 2) := by decide +kernel
theorem dL_law_810 : decode bL_law 810 = .ok (.ifCond .ne 15, 3) := by decide +kernel
theorem dL_law_813 : decode bL_law 813 = .ok (.aload_n 3, 1) := by decide +kernel
theorem dL_law_814 : decode bL_law 814 = .ok (.iconst 0, 1) := by decide +kernel
theorem dL_law_815 : decode bL_law 815 = .ok (.laload, 1) := by decide +kernel
theorem dL_law_816 : decode bL_law 816 = .ok (.iload 6, 2) := by decide +kernel
theorem dL_law_818 : decode bL_law 818 = .ok (.i2l, 1) := by decide +kernel
theorem dL_law_819 : decode bL_law 819 = .ok (.lcmp, 1) := by decide +kernel
theorem dL_law_820 : decode bL_law 820 = .ok (.ifCond .eq 5, 3) := by decide +kernel
theorem dL_law_823 : decode bL_law 823 = .ok (.iconst 0, 1) := by decide +kernel
theorem dL_law_824 : decode bL_law 824 = .ok (.ireturn, 1) := by decide +kernel
theorem dL_law_825 : decode bL_law 825 = .ok (.goto 28, 3) := by decide +kernel
theorem dL_law_828 : decode bL_law 828 = .ok (.aload_n 1, 1) := by decide +kernel
theorem dL_law_829 : decode bL_law 829 = .ok (.aload_n 0, 1) := by decide +kernel
theorem dL_law_830 : decode bL_law 830 = .ok (.iload 4, 2) := by decide +kernel
theorem dL_law_832 : decode bL_law 832 = .ok (.iconst 1, 1) := by decide +kernel
theorem dL_law_833 : decode bL_law 833 = .ok (.iadd, 1) := by decide +kernel
theorem dL_law_834 : decode bL_law 834 = .ok (.iaload, 1) := by decide +kernel
theorem dL_law_835 : decode bL_law 835 = .ok (.invokevirtual 102, 3) := by decide +kernel
theorem dL_law_838 : decode bL_law 838 = .ok (.aload_n 2, 1) := by decide +kernel
theorem dL_law_839 : decode bL_law 839 = .ok (.aload_n 0, 1) := by decide +kernel
theorem dL_law_840 : decode bL_law 840 = .ok (.iload 4, 2) := by decide +kernel
theorem dL_law_842 : decode bL_law 842 = .ok (.iconst 1, 1) := by decide +kernel
theorem dL_law_843 : decode bL_law 843 = .ok (.iadd, 1) := by decide +kernel
theorem dL_law_844 : decode bL_law 844 = .ok (.iaload, 1) := by decide +kernel
theorem dL_law_845 : decode bL_law 845 = .ok (.invokevirtual 105, 3) := by decide +kernel
theorem dL_law_848 : decode bL_law 848 = .ok (.if_icmp .eq 5, 3) := by decide +kernel
theorem dL_law_851 : decode bL_law 851 = .ok (.iconst 0, 1) := by decide +kernel
theorem dL_law_852 : decode bL_law 852 = .ok (.ireturn, 1) := by decide +kernel
theorem dL_law_853 : decode bL_law 853 = .ok (.iinc 4 6, 3) := by decide +kernel
theorem dL_law_856 : decode bL_law 856 = .ok (.goto (-833), 3) := by decide +kernel
theorem dL_law_859 : decode bL_law 859 = .ok (.iconst 1, 1) := by decide +kernel
theorem dL_law_860 : decode bL_law 860 = .ok (.ireturn, 1) := by decide +kernel
theorem dL_print_0 : decode bL_print 0 = .ok (.aload_n 2, 1) := by decide +kernel
theorem dL_print_1 : decode bL_print 1 = .ok (.iconst 0, 1) := by decide +kernel
theorem dL_print_2 : decode bL_print 2 = .ok (.aload_n 0, 1) := by decide +kernel
theorem dL_print_3 : decode bL_print 3 = .ok (.iload_n 1, 1) := by decide +kernel
theorem dL_print_4 : decode bL_print 4 = .ok (.invokevirtual 40, 3) := by decide +kernel
theorem dL_print_7 : decode bL_print 7 = .ok (.i2l, 1) := by decide +kernel
theorem dL_print_8 : decode bL_print 8 = .ok (.lastore, 1) := by decide +kernel
theorem dL_print_9 : decode bL_print 9 = .ok (.goto 6, 3) := by decide +kernel
theorem dL_print_12 : decode bL_print 12 = .ok (.astore_n 3, 1) := by decide +kernel
theorem dL_print_13 : decode bL_print 13 = .ok (.iconst 1, 1) := by decide +kernel
theorem dL_print_14 : decode bL_print 14 = .ok (.ireturn, 1) := by decide +kernel
theorem dL_print_15 : decode bL_print 15 = .ok (.iconst 0, 1) := by decide +kernel
theorem dL_print_16 : decode bL_print 16 = .ok (.ireturn, 1) := by decide +kernel
theorem dL_field_0 : decode bL_field 0 = .ok (.aload_n 0, 1) := by decide +kernel
theorem dL_field_1 : decode bL_field 1 = .ok (.iload_n 1, 1) := by decide +kernel
theorem dL_field_2 : decode bL_field 2 = .ok (.iload_n 2, 1) := by decide +kernel
theorem dL_field_3 : decode bL_field 3 = .ok (.iload_n 3, 1) := by decide +kernel
theorem dL_field_4 : decode bL_field 4 = .ok (.invokevirtual 7, 3) := by decide +kernel
theorem dL_field_7 : decode bL_field 7 = .ok (.goto 7, 3) := by decide +kernel
theorem dL_field_10 : decode bL_field 10 = .ok (.astore 4, 2) := by decide +kernel
theorem dL_field_12 : decode bL_field 12 = .ok (.iconst 1, 1) := by decide +kernel
theorem dL_field_13 : decode bL_field 13 = .ok (.ireturn, 1) := by decide +kernel
theorem dL_field_14 : decode bL_field 14 = .ok (.iconst 0, 1) := by decide +kernel
theorem dL_field_15 : decode bL_field 15 = .ok (.ireturn, 1) := by decide +kernel
theorem dL_read_0 : decode bL_read 0 = .ok (.aload_n 2, 1) := by decide +kernel
theorem dL_read_1 : decode bL_read 1 = .ok (.iconst 0, 1) := by decide +kernel
theorem dL_read_2 : decode bL_read 2 = .ok (.aload_n 0, 1) := by decide +kernel
theorem dL_read_3 : decode bL_read 3 = .ok (.iload_n 1, 1) := by decide +kernel
theorem dL_read_4 : decode bL_read 4 = .ok (.invokevirtual 15, 3) := by decide +kernel
theorem dL_read_7 : decode bL_read 7 = .ok (.i2l, 1) := by decide +kernel
theorem dL_read_8 : decode bL_read 8 = .ok (.lastore, 1) := by decide +kernel
theorem dL_read_9 : decode bL_read 9 = .ok (.goto 9, 3) := by decide +kernel
theorem dL_read_12 : decode bL_read 12 = .ok (.astore_n 3, 1) := by decide +kernel
theorem dL_read_13 : decode bL_read 13 = .ok (.iconst 1, 1) := by decide +kernel
theorem dL_read_14 : decode bL_read 14 = .ok (.ireturn, 1) := by decide +kernel
theorem dL_read_15 : decode bL_read 15 = .ok (.astore_n 3, 1) := by decide +kernel
theorem dL_read_16 : decode bL_read 16 = .ok (.iconst 2, 1) := by decide +kernel
theorem dL_read_17 : decode bL_read 17 = .ok (.ireturn, 1) := by decide +kernel
theorem dL_read_18 : decode bL_read 18 = .ok (.iconst 0, 1) := by decide +kernel
theorem dL_read_19 : decode bL_read 19 = .ok (.ireturn, 1) := by decide +kernel
theorem dL_add_0 : decode bL_add 0 = .ok (.aload_n 0, 1) := by decide +kernel
theorem dL_add_1 : decode bL_add 1 = .ok (.iload_n 1, 1) := by decide +kernel
theorem dL_add_2 : decode bL_add 2 = .ok (.iload_n 2, 1) := by decide +kernel
theorem dL_add_3 : decode bL_add 3 = .ok (.iload_n 3, 1) := by decide +kernel
theorem dL_add_4 : decode bL_add 4 = .ok (.iload 4, 2) := by decide +kernel
theorem dL_add_6 : decode bL_add 6 = .ok (.invokevirtual 21, 3) := by decide +kernel
theorem dL_add_9 : decode bL_add 9 = .ok (.goto 7, 3) := by decide +kernel
theorem dL_add_12 : decode bL_add 12 = .ok (.astore 5, 2) := by decide +kernel
theorem dL_add_14 : decode bL_add 14 = .ok (.iconst 1, 1) := by decide +kernel
theorem dL_add_15 : decode bL_add 15 = .ok (.ireturn, 1) := by decide +kernel
theorem dL_add_16 : decode bL_add 16 = .ok (.iconst 0, 1) := by decide +kernel
theorem dL_add_17 : decode bL_add 17 = .ok (.ireturn, 1) := by decide +kernel
theorem dL_multiply_0 : decode bL_multiply 0 = .ok (.aload_n 0, 1) := by decide +kernel
theorem dL_multiply_1 : decode bL_multiply 1 = .ok (.iload_n 1, 1) := by decide +kernel
theorem dL_multiply_2 : decode bL_multiply 2 = .ok (.iload_n 2, 1) := by decide +kernel
theorem dL_multiply_3 : decode bL_multiply 3 = .ok (.iload_n 3, 1) := by decide +kernel
theorem dL_multiply_4 : decode bL_multiply 4 = .ok (.invokevirtual 25, 3) := by decide +kernel
theorem dL_multiply_7 : decode bL_multiply 7 = .ok (.goto 11, 3) := by decide +kernel
theorem dL_multiply_10 : decode bL_multiply 10 = .ok (.astore 4, 2) := by decide +kernel
theorem dL_multiply_12 : decode bL_multiply 12 = .ok (.iconst 1, 1) := by decide +kernel
theorem dL_multiply_13 : decode bL_multiply 13 = .ok (.ireturn, 1) := by decide +kernel
theorem dL_multiply_14 : decode bL_multiply 14 = .ok (.astore 4, 2) := by decide +kernel
theorem dL_multiply_16 : decode bL_multiply 16 = .ok (.iconst 2, 1) := by decide +kernel
theorem dL_multiply_17 : decode bL_multiply 17 = .ok (.ireturn, 1) := by decide +kernel
theorem dL_multiply_18 : decode bL_multiply 18 = .ok (.iconst 0, 1) := by decide +kernel
theorem dL_multiply_19 : decode bL_multiply 19 = .ok (.ireturn, 1) := by decide +kernel
theorem dL_derive_0 : decode bL_derive 0 = .ok (.aload_n 0, 1) := by decide +kernel
theorem dL_derive_1 : decode bL_derive 1 = .ok (.iload_n 1, 1) := by decide +kernel
theorem dL_derive_2 : decode bL_derive 2 = .ok (.iload_n 2, 1) := by decide +kernel
theorem dL_derive_3 : decode bL_derive 3 = .ok (.iload_n 3, 1) := by decide +kernel
theorem dL_derive_4 : decode bL_derive 4 = .ok (.invokevirtual 30, 3) := by decide +kernel
theorem dL_derive_7 : decode bL_derive 7 = .ok (.goto 7, 3) := by decide +kernel
theorem dL_derive_10 : decode bL_derive 10 = .ok (.astore 4, 2) := by decide +kernel
theorem dL_derive_12 : decode bL_derive 12 = .ok (.iconst 1, 1) := by decide +kernel
theorem dL_derive_13 : decode bL_derive 13 = .ok (.ireturn, 1) := by decide +kernel
theorem dL_derive_14 : decode bL_derive 14 = .ok (.iconst 0, 1) := by decide +kernel
theorem dL_derive_15 : decode bL_derive 15 = .ok (.ireturn, 1) := by decide +kernel
theorem dL_set_0 : decode bL_set 0 = .ok (.aload_n 0, 1) := by decide +kernel
theorem dL_set_1 : decode bL_set 1 = .ok (.iload_n 1, 1) := by decide +kernel
theorem dL_set_2 : decode bL_set 2 = .ok (.iload_n 2, 1) := by decide +kernel
theorem dL_set_3 : decode bL_set 3 = .ok (.iload_n 3, 1) := by decide +kernel
theorem dL_set_4 : decode bL_set 4 = .ok (.iload 4, 2) := by decide +kernel
theorem dL_set_6 : decode bL_set 6 = .ok (.invokevirtual 33, 3) := by decide +kernel
theorem dL_set_9 : decode bL_set 9 = .ok (.goto 7, 3) := by decide +kernel
theorem dL_set_12 : decode bL_set 12 = .ok (.astore 5, 2) := by decide +kernel
theorem dL_set_14 : decode bL_set 14 = .ok (.iconst 1, 1) := by decide +kernel
theorem dL_set_15 : decode bL_set 15 = .ok (.ireturn, 1) := by decide +kernel
theorem dL_set_16 : decode bL_set 16 = .ok (.iconst 0, 1) := by decide +kernel
theorem dL_set_17 : decode bL_set 17 = .ok (.ireturn, 1) := by decide +kernel
theorem dL_value_0 : decode bL_value 0 = .ok (.aload 6, 2) := by decide +kernel
theorem dL_value_2 : decode bL_value 2 = .ok (.iconst 0, 1) := by decide +kernel
theorem dL_value_3 : decode bL_value 3 = .ok (.aload_n 0, 1) := by decide +kernel
theorem dL_value_4 : decode bL_value 4 = .ok (.iload_n 1, 1) := by decide +kernel
theorem dL_value_5 : decode bL_value 5 = .ok (.iload_n 2, 1) := by decide +kernel
theorem dL_value_6 : decode bL_value 6 = .ok (.iload_n 3, 1) := by decide +kernel
theorem dL_value_7 : decode bL_value 7 = .ok (.iload 4, 2) := by decide +kernel
theorem dL_value_9 : decode bL_value 9 = .ok (.iload 5, 2) := by decide +kernel
theorem dL_value_11 : decode bL_value 11 = .ok (.invokevirtual 36, 3) := by decide +kernel
theorem dL_value_14 : decode bL_value 14 = .ok (.i2l, 1) := by decide +kernel
theorem dL_value_15 : decode bL_value 15 = .ok (.lastore, 1) := by decide +kernel
theorem dL_value_16 : decode bL_value 16 = .ok (.goto 7, 3) := by decide +kernel
theorem dL_value_19 : decode bL_value 19 = .ok (.astore 7, 2) := by decide +kernel
theorem dL_value_21 : decode bL_value 21 = .ok (.iconst 1, 1) := by decide +kernel
theorem dL_value_22 : decode bL_value 22 = .ok (.ireturn, 1) := by decide +kernel
theorem dL_value_23 : decode bL_value 23 = .ok (.iconst 0, 1) := by decide +kernel
theorem dL_value_24 : decode bL_value 24 = .ok (.ireturn, 1) := by decide +kernel
end
section
theorem arrV_ext_z {cA : ClassId} {n : Nat} {f f' : Nat → Int32} (h : ∀ j, j < n → f j = f' j) : arrV cA n (fun j => .int (f j)) = arrV cA n (fun j => .int (f' j)) := by
  unfold arrV
  congr 1
  apply Array.ext
  · simp
  · intro i h1 h2
    simp at h1 h2
    simp [h i (by omega)]
/-! NUMBERED WORLDS. A world is a partial function w from cell numbers to cells; ad k is the address of cell k; different numbers lie at different addresses, all from N0 on. One world for the class, the reference and the law: a callee gets the whole world, so nothing is cut out and nothing is joined. -/
def zw_H (D : va_G) (N0 : Nat) (ad : Nat → Nat) (w : Nat → Option va_E) (H : Heap) : Prop :=
  (∀ (k : Nat) (x : va_E), w k = some x → va_at D zcl (ad k, x) H ∧ N0 ≤ ad k) ∧ ∀ (j k : Nat) (x y : va_E), w j = some x → w k = some y → ad j = ad k → j = k
section ZWH
variable {D : va_G} {N0 : Nat} {ad ad' : Nat → Nat} {w w' : Nat → Option va_E} {H H1 : Heap}
theorem zw_H.set {k : Nat} {x0 x : va_E} (h : zw_H D N0 ad w H) (hk : w k = some x0) (he : va_at D zcl (ad k, x) H1) (oq : ∀ q : Nat, q ≠ ad k → H1[q]? = H[q]?) : zw_H D N0 ad (va_up w k (some x)) H1 := by
  have dom : ∀ (j : Nat) (z : va_E), va_up w k (some x) j = some z → ∃ z', w j = some z' := by
    intro j z hj
    by_cases hjk : j = k
    · subst hjk
      exact ⟨x0, hk⟩
    · rw [va_up_ne _ _ hjk] at hj
      exact ⟨z, hj⟩
  refine ⟨fun j z hj => ?_, fun i j z z' hi hj hij => ?_⟩
  · by_cases hjk : j = k
    · subst hjk
      rw [va_up_self] at hj
      cases hj
      exact ⟨he, (h.1 j x0 hk).2⟩
    · rw [va_up_ne _ _ hjk] at hj
      exact ⟨(h.1 j z hj).1.kept (oq _ (fun q => hjk (h.2 j k z x0 hj hk q))), (h.1 j z hj).2⟩
  · obtain ⟨a, ha⟩ := dom i z hi
    obtain ⟨b, hb⟩ := dom j z' hj
    exact h.2 i j a b ha hb hij
theorem zw_H.lt (h : zw_H D N0 ad w H) {k : Nat} {x : va_E} (hk : w k = some x) : ad k < H.size := (h.1 k x hk).1.lt
theorem zw_H.new (k : Nat) {x : va_E} (h : zw_H D N0 ad w H) (hk : w k = none) (hN : N0 ≤ H.size) (he : va_at D zcl (H.size, x) H1) (oq : ∀ q : Nat, q < H.size → H1[q]? = H[q]?) : zw_H D N0 (va_up ad k H.size) (va_up w k (some x)) H1 := by
  have old : ∀ (j : Nat) (z : va_E), j ≠ k → va_up w k (some x) j = some z → w j = some z := fun j z hj h1 => by rw [va_up_ne _ _ hj] at h1; exact h1
  refine ⟨fun j z hj => ?_, fun i j z z' hi hj hij => ?_⟩
  · by_cases hjk : j = k
    · subst hjk
      rw [va_up_self] at hj
      cases hj
      rw [va_up_self]
      exact ⟨he, hN⟩
    · have h1 := old j z hjk hj
      rw [va_up_ne _ _ hjk]
      exact ⟨(h.1 j z h1).1.kept (oq _ (h.lt h1)), (h.1 j z h1).2⟩
  · by_cases hik : i = k
    · by_cases hjk : j = k
      · rw [hik, hjk]
      · subst hik
        rw [va_up_self, va_up_ne _ _ hjk] at hij
        have := h.lt (old j z' hjk hj)
        omega
    · by_cases hjk : j = k
      · subst hjk
        rw [va_up_self, va_up_ne _ _ hik] at hij
        have := h.lt (old i z hik hi)
        omega
      · rw [va_up_ne _ _ hik, va_up_ne _ _ hjk] at hij
        exact h.2 i j z z' (old i z hik hi) (old j z' hjk hj) hij
/-- fewer cells -/
theorem zw_H.less (h : zw_H D N0 ad w H) (hw : ∀ (k : Nat) (x : va_E), w' k = some x → w k = some x ∧ ad' k = ad k) : zw_H D N0 ad' w' H := by
  refine ⟨fun k x hk => ?_, fun j k x y hj hk hjk => ?_⟩
  · rw [(hw k x hk).2]
    exact h.1 k x (hw k x hk).1
  · rw [(hw j x hj).2, (hw k y hk).2] at hjk
    exact h.2 j k x y (hw j x hj).1 (hw k y hk).1 hjk
end ZWH
/-- what does not change in a run: where the classes lie, the array classes (int, char, long, int[]), the first free address, and what is known of the cells below it -/
abbrev zG : Type := va_G × (Nat → ClassId) × Nat × (State → Heap → Prop)
abbrev zty (q : Nat → ClassId) : List (ClassId × FieldType) := [(q 0, .int), (q 1, .char), (q 2, .long), (q 3, .array .int)]
/-- the cells from N0 on -/
abbrev zA (G : zG) : Nat → Prop := fun q => G.2.2.1 ≤ q
def zXok (G : zG) : Prop := (∀ (u U : State) (H : Heap), (u.WarmedH U.vm ∨ U.vm = u.vm) → G.2.2.2 u H → G.2.2.2 U H) ∧ ∀ (U : State) (H H1 : Heap), (∀ a : Nat, a < H.size → ¬ G.2.2.1 ≤ a → H1[a]? = H[a]?) → G.2.2.2 U H → G.2.2.2 U H1
/-- a state with a world: what a contract begins and ends with -/
def zw_U (G : zG) (ad : Nat → Nat) (w : Nat → Option va_E) (U : State) : Prop :=
  va_K G.1 zcl (zty G.2.1) U ∧ zw_H G.1 G.2.2.1 ad w U.heap ∧ G.2.2.1 ≤ U.heap.size ∧ zXok G ∧ G.2.2.2 U U.heap
/-- the same in the midst of a method -/
def zw (G : zG) (ad : Nat → Nat) (w : Nat → Option va_E) (s : State) (H : Heap) (locs : List Loc) : Prop :=
  va_K G.1 zcl (zty G.2.1) s ∧ zw_H G.1 G.2.2.1 ad w H ∧ va_S (zA G) s.heap H locs ∧ G.2.2.1 ≤ s.heap.size ∧ zXok G ∧ G.2.2.2 s s.heap
section ZWA
variable {G : zG} {ad ad' : Nat → Nat} {w w' : Nat → Option va_E} {s : State} {H : Heap} {locs : List Loc}
theorem zw_U.moved {u U : State} (hvm : U.vm = u.vm) (hh : U.heap = u.heap) (h : zw_U G ad w u) : zw_U G ad w U := by
  obtain ⟨h1, h2, h3, h4, h5⟩ := h
  refine ⟨va_K.moved (by rw [hvm]; exact Vm.Alike.refl _) h1, by rw [hh]; exact h2, by rw [hh]; exact h3, h4, ?_⟩
  rw [hh]
  exact h4.1 u U _ (Or.inr hvm) h5
theorem zw_U.enter (h : zw_U G ad w s) : zw G ad w s s.heap [] := ⟨h.1, h.2.1, va_S.rf, h.2.2.1, h.2.2.2⟩
theorem zw.at' (Z : zw G ad w s H locs) {U : State} (hU : U.heap = H) (hW : s.WarmedH U.vm) : zw_U G ad w U := by
  obtain ⟨h1, h2, h3, h4, h5, h6⟩ := Z
  refine ⟨va_K.moved hW.alike h1, by rw [hU]; exact h2, by rw [hU]; exact Nat.le_trans h4 h3.1, h5, ?_⟩
  rw [hU]
  exact h5.2 U _ _ (fun a ha hn => h3.2.1 a ha hn) (h5.1 s U _ (Or.inl hW) h6)
theorem zw.F (Z : zw G ad w s H locs) {t : State} (ht : t.heap = H) : va_F (zA G) s t := Z.2.2.1.F ht
theorem zw.fr (Z : zw G ad w s H locs) : ∀ q ∈ locs, zA G q.base := Z.2.2.1.2.2
theorem zw.one (Z : zw G ad w s H locs) {k : Nat} {x : va_E} (hk : w k = some x) : va_P G.1 zcl [(ad k, x)] H := fun i q hi => by
  have hz : i < 1 := (List.getElem?_eq_some_iff.mp hi).1
  rw [show i = 0 by omega] at hi
  cases hi
  exact (Z.2.1.1 k x hk).1
theorem zw.put (Z : zw G ad w s H locs) {k j : Nat} {x0 x : va_E} {H1 : Heap} (hk : w k = some x0) (he : va_at G.1 zcl (ad k, x) H1) (z : H1.size = H.size) (oq : ∀ q : Nat, q ≠ ad k → H1[q]? = H[q]?) : zw G ad (va_up w k (some x)) s H1 (locs ++ [⟨ad k, j⟩]) :=
  ⟨Z.1, Z.2.1.set hk he oq, Z.2.2.1.put z oq (Z.2.1.1 k x0 hk).2, Z.2.2.2⟩
theorem zw.grow (Z : zw G ad w s H locs) (k : Nat) {x : va_E} {H1 : Heap} (hk : w k = none) (he : va_at G.1 zcl (H.size, x) H1) (z : H1.size = H.size + 1) (oq : ∀ q : Nat, q < H.size → H1[q]? = H[q]?) : zw G (va_up ad k H.size) (va_up w k (some x)) s H1 locs :=
  ⟨Z.1, Z.2.1.new k hk (Nat.le_trans Z.2.2.2.1 Z.2.2.1.1) he oq, ⟨Nat.le_trans Z.2.2.1.1 (by omega), fun q h1 h2 => (oq q (Nat.lt_of_lt_of_le h1 Z.2.2.1.1)).trans (Z.2.2.1.2.1 q h1 h2), Z.2.2.1.2.2⟩, Z.2.2.2⟩
theorem zw.less (Z : zw G ad w s H locs) (hw : ∀ (k : Nat) (x : va_E), w' k = some x → w k = some x ∧ ad' k = ad k) : zw G ad' w' s H locs := ⟨Z.1, Z.2.1.less hw, Z.2.2⟩
/-- an array's contents matter up to its length -/
theorem zw.ext (Z : zw G ad w s H locs) {k n : Nat} {cA : ClassId} {f f' : Nat → Int32} (hk : w k = some (.inl (cA, n, .inl f))) (hf : ∀ j, j < n → f j = f' j) : zw G ad (va_up w k (some (.inl (cA, n, .inl f')))) s H locs := by
  refine ⟨Z.1, Z.2.1.set hk ?_ (fun _ _ => rfl), Z.2.2⟩
  have h := (Z.2.1.1 k _ hk).1
  show H[ad k]? = some (vp_cell cA (n, .inl f'))
  have h2 : H[ad k]? = some (vp_cell cA (n, .inl f)) := h
  rw [h2, vp_cell_i, vp_cell_i]
  congr 1
  exact arrV_ext_z hf
theorem zw.blind {av : List Value} : FrameBlind (va_Pc av (zw_U G ad w)) := fun a U g mk q => ⟨q.1, zw_U.moved (u := U) (U := U.calling g mk a) rfl rfl q.2⟩
theorem zw.preS (Z : zw G ad w s H locs) (av : List Value) : PreS s H (va_Pc av (zw_U G ad w)) av := ⟨zw.blind, fun U hU hW => ⟨rfl, Z.at' hU hW⟩⟩
theorem zw.preV (Z : zw G ad w s H locs) {k ci : Nat} {q : vw_C} {fs : List Value} (hk : w k = some (.inr (ci, fs))) (hc : zcl[ci]? = some q) (av : List Value) : PreV s H q.1 (ad k) (va_Pc (.ref (ad k) :: av) (zw_U G ad w)) av :=
  ⟨zw.blind, va_recv Z.1 (Z.one hk) hc (q0 := 0) rfl, fun U hU hW => ⟨rfl, Z.at' hU hW⟩⟩
end ZWA
section ZWB
variable {p : Program} {l : Launch} {e : Env} {R : Room} {s : State} {m : MethodId} {args : Array Value} {below : List Frame} {meth : Method} {c : Code} {H : Heap} {locs : List Loc} {cells slots : Nat} {Q : State → Prop}
variable {cc : ByteArray} {pc : Nat} {ls : Array Slot} {rest : List Value} {G : zG} {ad : Nat → Nat} {w : Nat → Option va_E}
theorem zw_get (hexec : p.tables.exec = Jvm.exec) (hb : c.code = cc) {own ref C : String} {T : u_T} {N ci index : Nat} {Ts : List Cond} (hts : ∀ w ∈ Ts, w.before args s = true) (hin : ∀ w ∈ u_ws C T N, w ∈ Ts) (hown : s.vm.findClass own = some m.cls) (Z : zw G ad w s H locs) {k : Nat} {fs : List Value} (he : w k = some (.inr (ci, fs))) (hc : zcl[ci]? = some (C, T, N)) (j : Nat) (hj : j < N) (hlink : (Cond.fieldLink own index ref (T j).2.1 (T j).2.2.1).before args s = true) (hsame : ∀ x, s.fieldFound? (T j).1 (T j).2.1 (T j).2.2.1 = some x → s.fieldFound? ref (T j).2.1 (T j).2.2.1 = some x) {v : Value} (hv : fs[j]? = some v) (hdg : decode cc pc = .ok (.getfield index, 3))
    (kk : W p l e R s m args below meth c H locs cells slots Q (F0 m (pc + 3) ls (v :: rest))) : W p l e R s m args below meth c H locs cells slots Q (F0 m pc ls (.ref (ad k) :: rest)) :=
  va_get hexec hb hts hin hown Z.1 (Z.one he) 0 rfl hc j hj hlink hsame hv hdg kk
theorem zw_put (hexec : p.tables.exec = Jvm.exec) (hb : c.code = cc) {own ref C : String} {T : u_T} {N ci index : Nat} {Ts : List Cond} (hts : ∀ w ∈ Ts, w.before args s = true) (hin : ∀ w ∈ u_ws C T N, w ∈ Ts) (hown : s.vm.findClass own = some m.cls) (ty0 : Nat → FieldType) (hty : ∀ k, k < N → parseFieldDescriptor (T k).2.2.1 = some (ty0 k)) (hnm : ∀ a, a < N → ∀ b, b < N → a ≠ b → (T a).2.1 ≠ (T b).2.1) (Z : zw G ad w s H locs) {k : Nat} {fs : List Value} (he : w k = some (.inr (ci, fs))) (hc : zcl[ci]? = some (C, T, N)) (j : Nat) (hj : j < N) (hlink : (Cond.fieldLink own index ref (T j).2.1 (T j).2.2.1).before args s = true) (hsame : ∀ x, s.fieldFound? (T j).1 (T j).2.1 (T j).2.2.1 = some x → s.fieldFound? ref (T j).2.1 (T j).2.2.1 = some x) (hfin : (T j).2.2.2 = false) {v : Value} (hn : narrow (ty0 j) v = v) (hfit : fits (ty0 j) v = true) (hl : j < fs.length) (hdg : decode cc pc = .ok (.putfield index, 3))
    (kk : ∀ (H1 : Heap) (locs1 : List Loc), zw G ad (va_up w k (some (.inr (ci, fs.set j v)))) s H1 locs1 → W p l e R s m args below meth c H1 locs1 cells slots Q (F0 m (pc + 3) ls rest)) : W p l e R s m args below meth c H locs cells slots Q (F0 m pc ls (v :: .ref (ad k) :: rest)) := by
  have hap := va_apart (own := own) hts hin ty0 hty hnm Z.1 hc
  obtain ⟨r, h1, cell, q1, q2, q3, q4⟩ := (Z.2.1.1 k _ he).1
  have hr : r = (C, T, N) := Option.some.inj (h1.symm.trans hc)
  subst hr
  obtain ⟨hS, hfc, kC, hkC, hkind⟩ := Z.1.1 ci _ hc
  obtain ⟨cf, kf, fi, f, hi, hsl⟩ := hS j hj
  have hlay := hts _ (hin _ (u_in_lay hj))
  unfold u_lay at hlay
  rw [if_neg (by rw [hfin]; decide)] at hlay
  have hst := (u_facts hfc hkC (u_lays hts hin hj) hi).1
  have h6 := u_store hfc hkC hkind hlay hi (hty j hj) hn hfit
  refine W.putK hexec hb (f := f) ⟨hown, hlink, ⟨_, _, _, hsame _ hi⟩, hst⟩ (by rw [q2]; exact h6) q1 q3 (by rw [hsl]; exact k2_hasslot (q4 j hj)) rfl rfl hdg fun H' e1 e2 e3 => ?_
  rw [hsl] at e1 ⊢
  exact kk H' _ (Z.put he ⟨_, hc, t_OB.to (V := updV (vp_V fs) j v) ⟨_, e1, q2, q3, t_set q4 hap hj v⟩ (fun i _ => vp_updV_set hl v i)⟩ e2 e3)
theorem zw_putF (hexec : p.tables.exec = Jvm.exec) (hb : c.code = cc) {own ref C : String} {T : u_T} {N ci index : Nat} {Ts : List Cond} (hts : ∀ w ∈ Ts, w.before args s = true) (hin : ∀ w ∈ u_ws C T N, w ∈ Ts) (hown : s.vm.findClass own = some m.cls) (ty0 : Nat → FieldType) (hty : ∀ k, k < N → parseFieldDescriptor (T k).2.2.1 = some (ty0 k)) (hnm : ∀ a, a < N → ∀ b, b < N → a ≠ b → (T a).2.1 ≠ (T b).2.1) (Z : zw G ad w s H locs) {k : Nat} {fs : List Value} (he : w k = some (.inr (ci, fs))) (hc : zcl[ci]? = some (C, T, N)) (j : Nat) (hj : j < N) (hlink : (Cond.fieldLink own index ref (T j).2.1 (T j).2.2.1).before args s = true) (hsame : ∀ x, s.fieldFound? (T j).1 (T j).2.1 (T j).2.2.1 = some x → s.fieldFound? ref (T j).2.1 (T j).2.2.1 = some x) (hfin : (T j).2.2.2 = true) (hin2 : meth.name = "<init>") (hdecl : (T j).1 = own) {v : Value} (hn : narrow (ty0 j) v = v) (hfit : fits (ty0 j) v = true) (hl : j < fs.length) (hdg : decode cc pc = .ok (.putfield index, 3))
    (kk : ∀ (H1 : Heap) (locs1 : List Loc), zw G ad (va_up w k (some (.inr (ci, fs.set j v)))) s H1 locs1 → W p l e R s m args below meth c H1 locs1 cells slots Q (F0 m (pc + 3) ls rest)) : W p l e R s m args below meth c H locs cells slots Q (F0 m pc ls (v :: .ref (ad k) :: rest)) := by
  have hap := va_apart (own := own) hts hin ty0 hty hnm Z.1 hc
  obtain ⟨r, h1, cell, q1, q2, q3, q4⟩ := (Z.2.1.1 k _ he).1
  have hr : r = (C, T, N) := Option.some.inj (h1.symm.trans hc)
  subst hr
  obtain ⟨hS, hfc, kC, hkC, hkind⟩ := Z.1.1 ci _ hc
  obtain ⟨cf, kf, fi, f, hi, hsl⟩ := hS j hj
  have hlay := hts _ (hin _ (u_in_lay hj))
  unfold u_lay at hlay
  rw [if_pos hfin] at hlay
  have hst := (u_facts hfc hkC (u_lays hts hin hj) hi).1
  have hcf : m.cls = cf := by
    obtain ⟨_, _, c', _, _, _, -, -, hf', -, -, -, hown2, -⟩ := Cond.laysFinal_spec hlay
    have e1 : c' = cf := by have := hi.symm.trans hf'; simp at this; exact this.1.symm
    rw [hdecl] at hown2
    rw [← e1]; exact Option.some.inj (hown.symm.trans hown2)
  have h6 := u_fits hfc hkC hkind (Or.inr hlay) hi (hty j hj) hn hfit
  refine W.putFinK hexec hb hown hlink (hsame _ hi) hst hcf hin2 (by rw [q2]; exact h6) q1 q3 (by rw [hsl]; exact k2_hasslot (q4 j hj)) rfl rfl hdg fun H' e1 e2 e3 => ?_
  rw [hsl] at e1 ⊢
  exact kk H' _ (Z.put he ⟨_, hc, t_OB.to (V := updV (vp_V fs) j v) ⟨_, e1, q2, q3, t_set q4 hap hj v⟩ (fun i _ => vp_updV_set hl v i)⟩ e2 e3)
theorem zw_iald (hexec : p.tables.exec = Jvm.exec) (hb : c.code = cc) (Z : zw G ad w s H locs) {k : Nat} {n : Nat} {f : Nat → Int32} (he : w k = some (.inl (G.2.1 0, n, .inl f))) {i : Int32} (hin : vp_in i n) (hdg : decode cc pc = .ok (.iaload, 1))
    (kk : W p l e R s m args below meth c H locs cells slots Q (F0 m (pc + 1) ls (.int (f i.toNatClampNeg) :: rest))) : W p l e R s m args below meth c H locs cells slots Q (F0 m pc ls (.int i :: .ref (ad k) :: rest)) :=
  va_iald hexec hb Z.1 (Z.one he) 0 0 rfl rfl hin hdg kk
theorem zw_cald (hexec : p.tables.exec = Jvm.exec) (hb : c.code = cc) (Z : zw G ad w s H locs) {k : Nat} {n : Nat} {f : Nat → Int32} (he : w k = some (.inl (G.2.1 1, n, .inl f))) {i : Int32} (hin : vp_in i n) (hdg : decode cc pc = .ok (.caload, 1))
    (kk : W p l e R s m args below meth c H locs cells slots Q (F0 m (pc + 1) ls (.int (f i.toNatClampNeg) :: rest))) : W p l e R s m args below meth c H locs cells slots Q (F0 m pc ls (.int i :: .ref (ad k) :: rest)) :=
  va_cald hexec hb Z.1 (Z.one he) 0 1 rfl rfl hin hdg kk
theorem zw_lald (hexec : p.tables.exec = Jvm.exec) (hb : c.code = cc) (Z : zw G ad w s H locs) {k : Nat} {n : Nat} {f : Nat → Int64} (he : w k = some (.inl (G.2.1 2, n, .inr (.inl f)))) {i : Int32} (hin : vp_in i n) (hdg : decode cc pc = .ok (.laload, 1))
    (kk : W p l e R s m args below meth c H locs cells slots Q (F0 m (pc + 1) ls (.long (f i.toNatClampNeg) :: rest))) : W p l e R s m args below meth c H locs cells slots Q (F0 m pc ls (.int i :: .ref (ad k) :: rest)) :=
  va_lald hexec hb Z.1 (Z.one he) 0 2 rfl rfl hin hdg kk
theorem zw_alen (hexec : p.tables.exec = Jvm.exec) (hb : c.code = cc) (Z : zw G ad w s H locs) {k : Nat} (t0 : Nat) {cA : ClassId} {x : vp_A} (he : w k = some (.inl (cA, x))) {ty : FieldType} (ht : (zty G.2.1)[t0]? = some (cA, ty)) {v : Int32} (hv : Int32.ofNat x.1 = v) (hdg : decode cc pc = .ok (.arraylength, 1))
    (kk : W p l e R s m args below meth c H locs cells slots Q (F0 m (pc + 1) ls (.int v :: rest))) : W p l e R s m args below meth c H locs cells slots Q (F0 m pc ls (.ref (ad k) :: rest)) :=
  va_alen hexec hb Z.1 (Z.one he) 0 t0 rfl ht hv hdg kk
theorem zw_aald (hexec : p.tables.exec = Jvm.exec) (hb : c.code = cc) (Z : zw G ad w s H locs) {k : Nat} {n : Nat} {f : Nat → Option Nat} (he : w k = some (.inl (G.2.1 3, n, .inr (.inr (.inr (.inr f)))))) {i : Int32} (hin : vp_in i n) {v : Value} (hv : va_rf (f i.toNatClampNeg) = v) (hdg : decode cc pc = .ok (.aaload, 1))
    (kk : W p l e R s m args below meth c H locs cells slots Q (F0 m (pc + 1) ls (v :: rest))) : W p l e R s m args below meth c H locs cells slots Q (F0 m pc ls (.int i :: .ref (ad k) :: rest)) := by
  subst hv
  have hlt : i.toNatClampNeg < n := Nat.not_le.mp fun q => hin (Or.inr q)
  exact W.aald (v := va_rf (f i.toNatClampNeg)) (ty := .array .int) hexec hb (Z.2.1.1 k _ he).1 ((Z.1.2 3 _ rfl).1 n (fun j => va_rf (f j))) rfl (fun q => by cases q) (by show ¬ (i < 0 ∨ (arrV _ _ _).slots.size ≤ _); rw [arrV_size]; exact hin) (by show (arrV _ _ _).slots[_]? = _; rw [arrV_read _ _ hlt]) rfl rfl hdg kk
theorem zw_iast (hexec : p.tables.exec = Jvm.exec) (hb : c.code = cc) (Z : zw G ad w s H locs) {k : Nat} {n : Nat} {f : Nat → Int32} (he : w k = some (.inl (G.2.1 0, n, .inl f))) {i : Int32} {x : Int32} (hin : vp_in i n) (hdg : decode cc pc = .ok (.iastore, 1))
    (kk : ∀ (H1 : Heap) (locs1 : List Loc), zw G ad (va_up w k (some (.inl (G.2.1 0, n, .inl (upd f i.toNatClampNeg x))))) s H1 locs1 → W p l e R s m args below meth c H1 locs1 cells slots Q (F0 m (pc + 1) ls rest)) : W p l e R s m args below meth c H locs cells slots Q (F0 m pc ls (.int x :: .int i :: .ref (ad k) :: rest)) := by
  refine W.iast hexec hb (Z.2.1.1 k _ he).1 ((Z.1.2 0 _ rfl).1 n (fun j => .int (f j))) (fun q => by cases q) (by show ¬ (i < 0 ∨ (arrV _ _ _).slots.size ≤ _); rw [arrV_size]; exact hin) rfl rfl hdg fun H1 e z oq => ?_
  refine kk H1 _ (Z.put he ?_ z oq)
  show H1[ad k]? = some (vp_cell _ _)
  rw [e]
  rw [vp_cell_i, vp_cell_i, arrV_store]
  congr 2
  funext q
  by_cases hq : q = i.toNatClampNeg
  · subst hq
    simp [updV, upd]
  · simp [updV, upd, hq]
theorem zw_cast (hexec : p.tables.exec = Jvm.exec) (hb : c.code = cc) (Z : zw G ad w s H locs) {k : Nat} {n : Nat} {f : Nat → Int32} (he : w k = some (.inl (G.2.1 1, n, .inl f))) {i : Int32} {x : Int32} (hin : vp_in i n) (hnar : narrow .char (.int x) = .int x) (hdg : decode cc pc = .ok (.castore, 1))
    (kk : ∀ (H1 : Heap) (locs1 : List Loc), zw G ad (va_up w k (some (.inl (G.2.1 1, n, .inl (upd f i.toNatClampNeg x))))) s H1 locs1 → W p l e R s m args below meth c H1 locs1 cells slots Q (F0 m (pc + 1) ls rest)) : W p l e R s m args below meth c H locs cells slots Q (F0 m pc ls (.int x :: .int i :: .ref (ad k) :: rest)) := by
  refine W.cast hexec hb (Z.2.1.1 k _ he).1 ((Z.1.2 1 _ rfl).1 n (fun j => .int (f j))) (fun q => by cases q) (by show ¬ (i < 0 ∨ (arrV _ _ _).slots.size ≤ _); rw [arrV_size]; exact hin) rfl rfl hdg fun H1 e z oq => ?_
  refine kk H1 _ (Z.put he ?_ z oq)
  show H1[ad k]? = some (vp_cell _ _)
  rw [e, hnar]
  rw [vp_cell_i, vp_cell_i, arrV_store]
  congr 2
  funext q
  by_cases hq : q = i.toNatClampNeg
  · subst hq
    simp [updV, upd]
  · simp [updV, upd, hq]
theorem zw_last (hexec : p.tables.exec = Jvm.exec) (hb : c.code = cc) (Z : zw G ad w s H locs) {k : Nat} {n : Nat} {f : Nat → Int64} (he : w k = some (.inl (G.2.1 2, n, .inr (.inl f)))) {i : Int32} {x : Int64} (hin : vp_in i n) (hdg : decode cc pc = .ok (.lastore, 1))
    (kk : ∀ (H1 : Heap) (locs1 : List Loc), zw G ad (va_up w k (some (.inl (G.2.1 2, n, .inr (.inl (vp_updL f i.toNatClampNeg x)))))) s H1 locs1 → W p l e R s m args below meth c H1 locs1 cells slots Q (F0 m (pc + 1) ls rest)) : W p l e R s m args below meth c H locs cells slots Q (F0 m pc ls (.long x :: .int i :: .ref (ad k) :: rest)) := by
  refine W.last hexec hb (Z.2.1.1 k _ he).1 ((Z.1.2 2 _ rfl).1 n (fun j => .long (f j))) (fun q => by cases q) (by show ¬ (i < 0 ∨ (arrV _ _ _).slots.size ≤ _); rw [arrV_size]; exact hin) rfl rfl hdg fun H1 e z oq => ?_
  refine kk H1 _ (Z.put he ?_ z oq)
  show H1[ad k]? = some (vp_cell _ _)
  rw [e]
  rw [vp_cell_l, vp_cell_l, arrV_store]
  congr 2
  funext q
  by_cases hq : q = i.toNatClampNeg
  · subst hq
    simp [updV, vp_updL]
  · simp [updV, vp_updL, hq]
theorem zw_new (hexec : p.tables.exec = Jvm.exec) (hb : c.code = cc) {own C : String} {T : u_T} {N ci index : Nat} {Ts : List Cond} (hts : ∀ w ∈ Ts, w.before args s = true) (hin : ∀ w ∈ u_ws C T N, w ∈ Ts) (ty : Nat → FieldType) (hty : ∀ k, k < N → parseFieldDescriptor (T k).2.2.1 = some (ty k)) (hown : s.vm.findClass own = some m.cls) (hcl : (Cond.classLink own index C).before args s = true) (hinst : (Cond.instantiable C N).before args s = true) (hini : (Cond.initialized C).before args s = true)
    (Z : zw G ad w s H locs) (k : Nat) (hk : w k = none) (hc : zcl[ci]? = some (C, T, N)) {fs : List Value} (hfs : ∀ j, j < N → defaultValue (ty j) = vp_V fs j) (hcells : cells + 1 ≤ R.cells) (hslots : slots + N ≤ R.slots) (hdg : decode cc pc = .ok (.new index, 3))
    (kk : ∀ (ad1 : Nat → Nat) (H1 : Heap), (∀ j, j ≠ k → ad1 j = ad j) → zw G ad1 (va_up w k (some (.inr (ci, fs)))) s H1 locs → W p l e R s m args below meth c H1 locs (cells + 1) (slots + N) Q (F0 m (pc + 3) ls (.ref (ad1 k) :: rest))) : W p l e R s m args below meth c H locs cells slots Q (F0 m pc ls rest) := by
  have hKn := Z.1.1 ci _ hc
  refine W.newcK hexec hb hown hcl hinst hini rfl hdg hcells hslots hKn.2.1 rfl fun H1 kC hkC e1 z1 o1 => ?_
  have h := kk (va_up ad k H.size) H1 (fun j hj => va_up_ne _ _ hj) (Z.grow k hk ⟨_, hc, (u_born ty hts hin hKn hkC e1 hty).to hfs⟩ z1 o1)
  rw [va_up_self] at h
  exact h
theorem zw_newa (hexec : p.tables.exec = Jvm.exec) (hb : c.code = cc) {atype : ArrayType} (harr : (Cond.arrayClass (newarray.typeOf atype)).before args s = true) {ty : FieldType} (hty : newarray.typeOf atype = ty) (Z : zw G ad w s H locs) (k : Nat) (hk : w k = none) (t0 : Nat) {cA : ClassId} (ht : (zty G.2.1)[t0]? = some (cA, ty))
    {n : Int32} {N' : Nat} {a0 : vp_A} (ha : vp_cell cA a0 = arrV cA N' (fun _ => defaultValue ty)) (hn : ¬ n < 0) (hN : n.toNatClampNeg = N') (hbytes : N' * componentBytes ty ≤ 536870912) (hcells : cells + 1 ≤ R.cells) (hslots : slots + N' ≤ R.slots) (hdg : decode cc pc = .ok (.newarray atype, 2))
    (kk : ∀ (ad1 : Nat → Nat) (H1 : Heap), (∀ j, j ≠ k → ad1 j = ad j) → zw G ad1 (va_up w k (some (.inl (cA, a0)))) s H1 locs → W p l e R s m args below meth c H1 locs (cells + 1) (slots + N') Q (F0 m (pc + 2) ls (.ref (ad1 k) :: rest))) : W p l e R s m args below meth c H locs cells slots Q (F0 m pc ls (.int n :: rest)) := by
  subst hty
  refine va_newaK hexec hb harr rfl hdg rfl hn hN hbytes hcells hslots rfl fun H1 cB e1 z1 o1 hAr hNm => ?_
  have hcc : cA = cB := by
    have h1 := (Z.1.2 t0 _ ht).2
    have h2 : s.vm.findClass ("[" ++ (newarray.typeOf atype).toString) = some cA := by cases atype <;> exact h1
    exact Option.some.inj (h2.symm.trans hNm)
  subst hcc
  have h := kk (va_up ad k H.size) H1 (fun j hj => va_up_ne _ _ hj) (Z.grow k hk (by show H1[H.size]? = some (vp_cell _ _); rw [ha]; exact e1) z1 o1)
  rw [va_up_self] at h
  exact h
end ZWB
section ZWC
variable {p : Program} {l : Launch} {e : Env} {R : Room} {s : State} {m : MethodId} {args : Array Value} {below : List Frame} {meth : Method} {c : Code} {H : Heap} {locs : List Loc} {cells slots : Nat} {Q : State → Prop}
variable {pc : Nat} {ls : Array Slot} {rest st0 : List Value} {a : Array Value} {mc ms : Nat} {G : zG} {ad : Nat → Nat} {w : Nat → Option va_E}
theorem zw_calli {S : Type} {post : Int32 → S → Prop} {fa : S → Nat → Nat} {fw : S → Nat → Option va_E} (hr : va_Run p l e R s m args below meth c H locs cells slots mc ms (F0 m pc ls st0) rest (va_Qi post (fun u t => zw_U G (fa u) (fw u) t) (zA G) a) (zA G)) (Z : zw G ad w s H locs)
    (kk : ∀ (r : Int32) (u : S) (H1 : Heap) (locs1 : List Loc), post r u → zw G (fa u) (fw u) s H1 locs1 → W p l e R s m args below meth c H1 locs1 (cells + mc) (slots + ms) Q (F0 m (pc + 3) ls (.int r :: rest))) : W p l e R s m args below meth c H locs cells slots Q (F0 m pc ls st0) := by
  refine va_calli hr Z.2.2.1 (fun _ _ h => h) (fun _ h => h) (fun r u t H1 locs1 ht hvm hp hB hz hk hS => ?_)
  exact kk r u H1 locs1 hp ⟨Z.1, by rw [← ht]; exact hB.2.1, hS, Z.2.2.2⟩
theorem zw_calll {S : Type} {post : Int64 → S → Prop} {fa : S → Nat → Nat} {fw : S → Nat → Option va_E} (hr : va_Run p l e R s m args below meth c H locs cells slots mc ms (F0 m pc ls st0) rest (va_Ql post (fun u t => zw_U G (fa u) (fw u) t) (zA G) a) (zA G)) (Z : zw G ad w s H locs)
    (kk : ∀ (r : Int64) (u : S) (H1 : Heap) (locs1 : List Loc), post r u → zw G (fa u) (fw u) s H1 locs1 → W p l e R s m args below meth c H1 locs1 (cells + mc) (slots + ms) Q (F0 m (pc + 3) ls (.long r :: rest))) : W p l e R s m args below meth c H locs cells slots Q (F0 m pc ls st0) := by
  refine va_calll hr Z.2.2.1 (fun _ _ h => h) (fun _ h => h) (fun r u t H1 locs1 ht hvm hp hB hz hk hS => ?_)
  exact kk r u H1 locs1 hp ⟨Z.1, by rw [← ht]; exact hB.2.1, hS, Z.2.2.2⟩
theorem zw_callv {S : Type} {post : S → Prop} {fa : S → Nat → Nat} {fw : S → Nat → Option va_E} (hr : va_Run p l e R s m args below meth c H locs cells slots mc ms (F0 m pc ls st0) rest (va_Qv post (fun u t => zw_U G (fa u) (fw u) t) (zA G) a) (zA G)) (Z : zw G ad w s H locs)
    (kk : ∀ (u : S) (H1 : Heap) (locs1 : List Loc), post u → zw G (fa u) (fw u) s H1 locs1 → W p l e R s m args below meth c H1 locs1 (cells + mc) (slots + ms) Q (F0 m (pc + 3) ls rest)) : W p l e R s m args below meth c H locs cells slots Q (F0 m pc ls st0) := by
  refine va_callv hr Z.2.2.1 (fun _ _ h => h) (fun _ h => h) (fun u t H1 locs1 ht hvm hp hB hz hk hS => ?_)
  exact kk u H1 locs1 hp ⟨Z.1, by rw [← ht]; exact hB.2.1, hS, Z.2.2.2⟩
end ZWC
section ZWM
variable {l : Launch} {G : zG}
/-- the fixed facts of a method's walk -/
def zC (p : Program) (s : State) (m : MethodId) (args : Array Value) (meth : Method) (c : Code) (cc : ByteArray) (maxL : Nat) (own : String) (ws : List Cond) : Prop :=
  p.tables.exec = Jvm.exec ∧ c.code = cc ∧ c.maxLocals = maxL ∧ s.vm.findClass own = some m.cls ∧ (∀ w ∈ ws, w.before args s = true) ∧ meth.locks = false
theorem zw_methi {y : MethodName} {ws ws' : List Cond} {rm : Room} {cc : ByteArray} {maxL : Nat} {av : List Value} {ad : Nat → Nat} {w : Nat → Option va_E} {mc ms : Nat} {S : Type} {post : Int32 → S → Prop} {fa : S → Nat → Nat} {fw : S → Nat → Option va_E}
    (hy : plainName y.cls = true) (hw : ws = Cond.code y cc maxL (some .int) :: ws') (hav : (lg_sl av).length ≤ maxL)
    (body : ∀ (p : Program) (e : Env) (s : State) (m : MethodId) (below : List Frame) (meth : Method) (c : Code) (Q : State → Prop) (ls : Array Slot), zC p s m av.toArray meth c cc maxL y.cls ws → meth.name = y.name → zw G ad w s s.heap [] → lv_has ls maxL (lv_args 0 av) →
      (∀ (pc : Nat) (ls : Array Slot) (r : Int32) (u : S) (H : Heap) (locs : List Loc), decode cc pc = .ok (.ireturn, 1) → post r u → zw G (fa u) (fw u) s H locs → W p l e rm s m av.toArray below meth c H locs mc ms Q (F0 m pc ls [.int r])) →
      W p l e rm s m av.toArray below meth c s.heap [] 0 0 Q (F0 m 0 ls [])) :
    Met l y ws rm (va_Pc av (zw_U G ad w)) (va_Qi post (fun u t => zw_U G (fa u) (fw u) t) (zA G)) mc ms (zA G) := by
  refine Met.ofW (cc := cc) (maxL := maxL) (ret := some .int) hy hw ?_
  intro p e s m args below meth c s₁ B hml hv
  obtain ⟨rfl, hU⟩ := hv
  have hl := lv_entry av (n := maxL) hav
  rw [lg_entry_eq]
  refine body p e s m below meth c _ _ ⟨B.exec, B.bytes, hml, findClass_of_methodNamed B.named, atoms_spec (ws := ws) B.pre, B.notSynchronized⟩ (name_of_methodNamed B.named B.method).1 hU.enter hl ?_
  intro pc ls r u H locs hd hp Z
  exact W.iret B.exec B.bytes B.returns (fun t ht hW => ⟨⟨r, u, rfl, hp, Z.at' ht hW⟩, Z.F ht⟩) Z.fr hd B.notSynchronized
theorem zw_methz {y : MethodName} {ws ws' : List Cond} {rm : Room} {cc : ByteArray} {maxL : Nat} {av : List Value} {ad : Nat → Nat} {w : Nat → Option va_E} {mc ms : Nat} {S : Type} {post : Int32 → S → Prop} {fa : S → Nat → Nat} {fw : S → Nat → Option va_E}
    (hy : plainName y.cls = true) (hw : ws = Cond.code y cc maxL (some .boolean) :: ws') (hav : (lg_sl av).length ≤ maxL) (hbit : ∀ r u, post r u → narrow .boolean (.int r) = .int r)
    (body : ∀ (p : Program) (e : Env) (s : State) (m : MethodId) (below : List Frame) (meth : Method) (c : Code) (Q : State → Prop) (ls : Array Slot), zC p s m av.toArray meth c cc maxL y.cls ws → meth.name = y.name → zw G ad w s s.heap [] → lv_has ls maxL (lv_args 0 av) →
      (∀ (pc : Nat) (ls : Array Slot) (r : Int32) (u : S) (H : Heap) (locs : List Loc), decode cc pc = .ok (.ireturn, 1) → post r u → zw G (fa u) (fw u) s H locs → W p l e rm s m av.toArray below meth c H locs mc ms Q (F0 m pc ls [.int r])) →
      W p l e rm s m av.toArray below meth c s.heap [] 0 0 Q (F0 m 0 ls [])) :
    Met l y ws rm (va_Pc av (zw_U G ad w)) (va_Qi post (fun u t => zw_U G (fa u) (fw u) t) (zA G)) mc ms (zA G) := by
  refine Met.ofW (cc := cc) (maxL := maxL) (ret := some .boolean) hy hw ?_
  intro p e s m args below meth c s₁ B hml hv
  obtain ⟨rfl, hU⟩ := hv
  have hl := lv_entry av (n := maxL) hav
  rw [lg_entry_eq]
  refine body p e s m below meth c _ _ ⟨B.exec, B.bytes, hml, findClass_of_methodNamed B.named, atoms_spec (ws := ws) B.pre, B.notSynchronized⟩ (name_of_methodNamed B.named B.method).1 hU.enter hl ?_
  intro pc ls r u H locs hd hp Z
  exact W.zret B.exec B.bytes B.returns (hbit r u hp) (fun t ht hW => ⟨⟨r, u, rfl, hp, Z.at' ht hW⟩, Z.F ht⟩) Z.fr hd B.notSynchronized
theorem zw_methc {y : MethodName} {ws ws' : List Cond} {rm : Room} {cc : ByteArray} {maxL : Nat} {av : List Value} {ad : Nat → Nat} {w : Nat → Option va_E} {mc ms : Nat} {S : Type} {post : Int32 → S → Prop} {fa : S → Nat → Nat} {fw : S → Nat → Option va_E}
    (hy : plainName y.cls = true) (hw : ws = Cond.code y cc maxL (some .char) :: ws') (hav : (lg_sl av).length ≤ maxL) (hbit : ∀ r u, post r u → narrow .char (.int r) = .int r)
    (body : ∀ (p : Program) (e : Env) (s : State) (m : MethodId) (below : List Frame) (meth : Method) (c : Code) (Q : State → Prop) (ls : Array Slot), zC p s m av.toArray meth c cc maxL y.cls ws → meth.name = y.name → zw G ad w s s.heap [] → lv_has ls maxL (lv_args 0 av) →
      (∀ (pc : Nat) (ls : Array Slot) (r : Int32) (u : S) (H : Heap) (locs : List Loc), decode cc pc = .ok (.ireturn, 1) → post r u → zw G (fa u) (fw u) s H locs → W p l e rm s m av.toArray below meth c H locs mc ms Q (F0 m pc ls [.int r])) →
      W p l e rm s m av.toArray below meth c s.heap [] 0 0 Q (F0 m 0 ls [])) :
    Met l y ws rm (va_Pc av (zw_U G ad w)) (va_Qi post (fun u t => zw_U G (fa u) (fw u) t) (zA G)) mc ms (zA G) := by
  refine Met.ofW (cc := cc) (maxL := maxL) (ret := some .char) hy hw ?_
  intro p e s m args below meth c s₁ B hml hv
  obtain ⟨rfl, hU⟩ := hv
  have hl := lv_entry av (n := maxL) hav
  rw [lg_entry_eq]
  refine body p e s m below meth c _ _ ⟨B.exec, B.bytes, hml, findClass_of_methodNamed B.named, atoms_spec (ws := ws) B.pre, B.notSynchronized⟩ (name_of_methodNamed B.named B.method).1 hU.enter hl ?_
  intro pc ls r u H locs hd hp Z
  exact W.zret B.exec B.bytes B.returns (hbit r u hp) (fun t ht hW => ⟨⟨r, u, rfl, hp, Z.at' ht hW⟩, Z.F ht⟩) Z.fr hd B.notSynchronized
theorem zw_methv {y : MethodName} {ws ws' : List Cond} {rm : Room} {cc : ByteArray} {maxL : Nat} {av : List Value} {ad : Nat → Nat} {w : Nat → Option va_E} {mc ms : Nat} {S : Type} {post : S → Prop} {fa : S → Nat → Nat} {fw : S → Nat → Option va_E}
    (hy : plainName y.cls = true) (hw : ws = Cond.code y cc maxL (none) :: ws') (hav : (lg_sl av).length ≤ maxL)
    (body : ∀ (p : Program) (e : Env) (s : State) (m : MethodId) (below : List Frame) (meth : Method) (c : Code) (Q : State → Prop) (ls : Array Slot), zC p s m av.toArray meth c cc maxL y.cls ws → meth.name = y.name → zw G ad w s s.heap [] → lv_has ls maxL (lv_args 0 av) →
      (∀ (pc : Nat) (ls : Array Slot) (u : S) (H : Heap) (locs : List Loc), decode cc pc = .ok (.return_, 1) → post u → zw G (fa u) (fw u) s H locs → W p l e rm s m av.toArray below meth c H locs mc ms Q (F0 m pc ls [])) →
      W p l e rm s m av.toArray below meth c s.heap [] 0 0 Q (F0 m 0 ls [])) :
    Met l y ws rm (va_Pc av (zw_U G ad w)) (va_Qv post (fun u t => zw_U G (fa u) (fw u) t) (zA G)) mc ms (zA G) := by
  refine Met.ofW (cc := cc) (maxL := maxL) (ret := none) hy hw ?_
  intro p e s m args below meth c s₁ B hml hv
  obtain ⟨rfl, hU⟩ := hv
  have hl := lv_entry av (n := maxL) hav
  rw [lg_entry_eq]
  refine body p e s m below meth c _ _ ⟨B.exec, B.bytes, hml, findClass_of_methodNamed B.named, atoms_spec (ws := ws) B.pre, B.notSynchronized⟩ (name_of_methodNamed B.named B.method).1 hU.enter hl ?_
  intro pc ls u H locs hd hp Z
  exact W.vret B.exec B.bytes B.returns (fun t ht hW => ⟨⟨u, rfl, hp, Z.at' ht hW⟩, Z.F ht⟩) Z.fr hd B.notSynchronized
end ZWM
section ZWT
variable {p : Program} {l : Launch} {e : Env} {R : Room} {s : State} {m : MethodId} {args : Array Value} {below : List Frame} {meth : Method} {c : Code} {H : Heap} {locs : List Loc} {cells slots : Nat} {Q : State → Prop} {pc : Nat} {ls : Array Slot} {rest : List Value}
theorem zw_top {x : Int32} (y : Int32) (h : x = y) (k : W p l e R s m args below meth c H locs cells slots Q (F0 m pc ls (.int y :: rest))) : W p l e R s m args below meth c H locs cells slots Q (F0 m pc ls (.int x :: rest)) := by rw [h]; exact k
theorem zw_topl {x : Int64} (y : Int64) (h : x = y) (k : W p l e R s m args below meth c H locs cells slots Q (F0 m pc ls (.long y :: rest))) : W p l e R s m args below meth c H locs cells slots Q (F0 m pc ls (.long x :: rest)) := by rw [h]; exact k
theorem zw_topv {x : Value} (y : Value) (h : x = y) (k : W p l e R s m args below meth c H locs cells slots Q (F0 m pc ls (y :: rest))) : W p l e R s m args below meth c H locs cells slots Q (F0 m pc ls (x :: rest)) := by rw [h]; exact k
end ZWT
end
section
/-! cells of the class and of the reference, rooms by levels, and what a call needs of the tables, by program (wip/whole/cells.py) -/
abbrev oK (ad : Nat → Nat) (F : Nat → Int32) : va_E := .inr (3, [.ref (ad 1), .ref (ad 2), .ref (ad 3), .ref (ad 14), .ref (ad 15)])
abbrev oR (ad : Nat → Nat) (F : Nat → Int32) : va_E := .inr (2, [.int (F 0), .int (F 1), .int (F 2), .int (F 3), .int (F 4), .ref (ad 4), .ref (ad 5), .ref (ad 6), .ref (ad 7), .ref (ad 8), .ref (ad 9), .ref (ad 71), .ref (ad 72)])
abbrev oE (ad : Nat → Nat) (F : Nat → Int32) : va_E := .inr (1, [.ref (ad 1), .ref (ad 10), .int (F 2), .int (F 3), .int (F 4), .int (F 5), .ref (ad 11), .ref (ad 12), .ref (ad 70)])
abbrev oP (ad : Nat → Nat) (F : Nat → Int32) : va_E := .inr (0, [.ref (ad 1), .ref (ad 13), .int (F 2)])
abbrev oM (ad : Nat → Nat) (F : Nat → Int32) : va_E := .inr (4, [.int (F 0), .int (F 1), .int (F 2), .int (F 3), .int (F 4), .int (F 5), .ref (ad 101), .ref (ad 102), .ref (ad 103), .ref (ad 104), .int (F 10), .ref (ad 105), .ref (ad 106), .int (F 13), .int (F 14), .int (F 15), .int (F 16), .int (F 17), .int (F 18), .int (F 19), .int (F 20), .int (F 21), .ref (ad 107), .ref (ad 108), .ref (ad 109), .ref (ad 110), .int (F 26)])
abbrev zi (G : zG) (n : Nat) (f : Nat → Int32) : va_E := .inl (G.2.1 0, n, .inl f)
abbrev zc (G : zG) (n : Nat) (f : Nat → Int32) : va_E := .inl (G.2.1 1, n, .inl f)
abbrev zj (G : zG) (n : Nat) (f : Nat → Int64) : va_E := .inl (G.2.1 2, n, .inr (.inl f))
abbrev zq (G : zG) (n : Nat) (f : Nat → Option Nat) : va_E := .inl (G.2.1 3, n, .inr (.inr (.inr (.inr f))))
/-- the room of a method of level k that makes nothing -/
abbrev zR (k : Nat) : Room := { frames := 2 * k, cells := 0, slots := 0, locals := 64 * k }
theorem zR_fit {k k1 n : Nat} (h : k1 < k) (hn : n ≤ 45) : (zR k1).frames + 1 ≤ (zR k).frames ∧ 8 + (n + 11) + (zR k1).locals ≤ (zR k).locals := by
  show 2 * k1 + 1 ≤ 2 * k ∧ 8 + (n + 11) + 64 * k1 ≤ 64 * k
  omega
theorem zG_V {c0 c1 : Cond} {own C : String} {index : Nat} {y : MethodName} (hl : Cond.methodLink own index y ∈ zT) (hi : Cond.instanceMethod y ∈ zT) (hs : Cond.selects C y y ∈ zT) (hn : Cond.initialized C ∈ zT) (hk : c1 ∈ zT) : GoodIn (c0 :: zT) (wsV own index C y (c1 :: zT)) := by
  intro w hw
  have h : w ∈ zT := by
    unfold wsV at hw
    rcases List.mem_append.mp hw with h | h
    · simp only [List.mem_cons, List.not_mem_nil, or_false] at h
      rcases h with rfl | rfl | rfl | rfl
      · exact hl
      · exact hi
      · exact hs
      · exact hn
    · rcases List.mem_cons.mp h with rfl | h
      · exact hk
      · exact h
  exact ⟨List.mem_cons_of_mem _ h, zT_good h⟩
theorem zG_S {c0 c1 : Cond} {own : String} {index : Nat} {y : MethodName} (hl : Cond.methodLink own index y ∈ zT) (hs : Cond.static y ∈ zT) (hn : Cond.initialized y.cls ∈ zT) (hk : c1 ∈ zT) : GoodIn (c0 :: zT) (va_wsS own index y (c1 :: zT)) := by
  intro w hw
  have h : w ∈ zT := by
    unfold va_wsS at hw
    rcases List.mem_append.mp hw with h | h
    · simp only [List.mem_cons, List.not_mem_nil, or_false] at h
      rcases h with rfl | rfl | rfl
      · exact hl
      · exact hs
      · exact hn
    · rcases List.mem_cons.mp h with rfl | h
      · exact hk
      · exact h
  exact ⟨List.mem_cons_of_mem _ h, zT_good h⟩
theorem zG_c {c0 c1 : Cond} (hk : c1 ∈ zT) : GoodIn (c0 :: zT) (c1 :: zT) := fun w hw => by
  have h : w ∈ zT := by
    rcases List.mem_cons.mp hw with rfl | h
    · exact hk
    · exact h
  exact ⟨List.mem_cons_of_mem _ h, zT_good h⟩
theorem kw_K_init {R rm : Room} {mc ms : Nat} {s : State} {args : Array Value} {own : String} {index : Nat} {c0 : Cond} (hts : ∀ w ∈ c0 :: zT, w.before args s = true) (hl : Cond.methodLink own index yK_init ∈ zT) (hrc : rm.cells = mc) (hrs : rm.slots = ms) (hR : rm.frames + 1 ≤ R.frames ∧ 8 + (1 + 11) + rm.locals ≤ R.locals) : CallB R s args own index yK_init bK_init 1 none wK_init rm mc ms 0 ∧ yK_init.name = "<init>" ∧ (Cond.instanceMethod yK_init).before args s = true :=
  cwI 0 hts (zG_c mk_K_init) rfl hrc hrs (hts _ (List.mem_cons_of_mem _ mn_K)) (hts _ (List.mem_cons_of_mem _ hl)) (hts _ (List.mem_cons_of_mem _ mi_K_init)) rfl (by decide +kernel) hR
theorem kw_K_field {R : Room} {k : Nat} {s : State} {args : Array Value} {own : String} {index : Nat} {c0 : Cond} (hts : ∀ w ∈ c0 :: zT, w.before args s = true) (hl : Cond.methodLink own index yK_field ∈ zT) (hR : (zR k).frames + 1 ≤ R.frames ∧ 8 + (5 + 11) + (zR k).locals ≤ R.locals) : CallW R s args own "PolynomialDesk" index yK_field bK_field 5 none wK_field (zR k) 0 0 3 :=
  cwV 3 hts (zG_V hl mi_K_field ms_K_field mn_K mk_K_field) rfl rfl rfl (by decide +kernel) hR
theorem kw_K_put {R : Room} {k : Nat} {s : State} {args : Array Value} {own : String} {index : Nat} {c0 : Cond} (hts : ∀ w ∈ c0 :: zT, w.before args s = true) (hl : Cond.methodLink own index yK_put ∈ zT) (hR : (zR k).frames + 1 ≤ R.frames ∧ 8 + (4 + 11) + (zR k).locals ≤ R.locals) : CallW R s args own "PolynomialDesk" index yK_put bK_put 4 (some .boolean) wK_put (zR k) 0 0 2 :=
  cwV 2 hts (zG_V hl mi_K_put ms_K_put mn_K mk_K_put) rfl rfl rfl (by decide +kernel) hR
theorem kw_K_read {R : Room} {k : Nat} {s : State} {args : Array Value} {own : String} {index : Nat} {c0 : Cond} (hts : ∀ w ∈ c0 :: zT, w.before args s = true) (hl : Cond.methodLink own index yK_read ∈ zT) (hR : (zR k).frames + 1 ≤ R.frames ∧ 8 + (2 + 11) + (zR k).locals ≤ R.locals) : CallW R s args own "PolynomialDesk" index yK_read bK_read 2 (some .int) wK_read (zR k) 0 0 1 :=
  cwV 1 hts (zG_V hl mi_K_read ms_K_read mn_K mk_K_read) rfl rfl rfl (by decide +kernel) hR
theorem kw_K_fault {R : Room} {k : Nat} {s : State} {args : Array Value} {own : String} {index : Nat} {c0 : Cond} (hts : ∀ w ∈ c0 :: zT, w.before args s = true) (hl : Cond.methodLink own index yK_fault ∈ zT) (hR : (zR k).frames + 1 ≤ R.frames ∧ 8 + (2 + 11) + (zR k).locals ≤ R.locals) : CallW R s args own "PolynomialDesk" index yK_fault bK_fault 2 (some .int) wK_fault (zR k) 0 0 1 :=
  cwV 1 hts (zG_V hl mi_K_fault ms_K_fault mn_K mk_K_fault) rfl rfl rfl (by decide +kernel) hR
theorem kw_K_add {R : Room} {k : Nat} {s : State} {args : Array Value} {own : String} {index : Nat} {c0 : Cond} (hts : ∀ w ∈ c0 :: zT, w.before args s = true) (hl : Cond.methodLink own index yK_add ∈ zT) (hR : (zR k).frames + 1 ≤ R.frames ∧ 8 + (5 + 11) + (zR k).locals ≤ R.locals) : CallW R s args own "PolynomialDesk" index yK_add bK_add 5 none wK_add (zR k) 0 0 4 :=
  cwV 4 hts (zG_V hl mi_K_add ms_K_add mn_K mk_K_add) rfl rfl rfl (by decide +kernel) hR
theorem kw_K_multiply {R : Room} {k : Nat} {s : State} {args : Array Value} {own : String} {index : Nat} {c0 : Cond} (hts : ∀ w ∈ c0 :: zT, w.before args s = true) (hl : Cond.methodLink own index yK_multiply ∈ zT) (hR : (zR k).frames + 1 ≤ R.frames ∧ 8 + (4 + 11) + (zR k).locals ≤ R.locals) : CallW R s args own "PolynomialDesk" index yK_multiply bK_multiply 4 none wK_multiply (zR k) 0 0 3 :=
  cwV 3 hts (zG_V hl mi_K_multiply ms_K_multiply mn_K mk_K_multiply) rfl rfl rfl (by decide +kernel) hR
theorem kw_K_derive {R : Room} {k : Nat} {s : State} {args : Array Value} {own : String} {index : Nat} {c0 : Cond} (hts : ∀ w ∈ c0 :: zT, w.before args s = true) (hl : Cond.methodLink own index yK_derive ∈ zT) (hR : (zR k).frames + 1 ≤ R.frames ∧ 8 + (4 + 11) + (zR k).locals ≤ R.locals) : CallW R s args own "PolynomialDesk" index yK_derive bK_derive 4 none wK_derive (zR k) 0 0 3 :=
  cwV 3 hts (zG_V hl mi_K_derive ms_K_derive mn_K mk_K_derive) rfl rfl rfl (by decide +kernel) hR
theorem kw_K_set {R : Room} {k : Nat} {s : State} {args : Array Value} {own : String} {index : Nat} {c0 : Cond} (hts : ∀ w ∈ c0 :: zT, w.before args s = true) (hl : Cond.methodLink own index yK_set ∈ zT) (hR : (zR k).frames + 1 ≤ R.frames ∧ 8 + (5 + 11) + (zR k).locals ≤ R.locals) : CallW R s args own "PolynomialDesk" index yK_set bK_set 5 none wK_set (zR k) 0 0 4 :=
  cwV 4 hts (zG_V hl mi_K_set ms_K_set mn_K mk_K_set) rfl rfl rfl (by decide +kernel) hR
theorem kw_K_value {R : Room} {k : Nat} {s : State} {args : Array Value} {own : String} {index : Nat} {c0 : Cond} (hts : ∀ w ∈ c0 :: zT, w.before args s = true) (hl : Cond.methodLink own index yK_value ∈ zT) (hR : (zR k).frames + 1 ≤ R.frames ∧ 8 + (6 + 11) + (zR k).locals ≤ R.locals) : CallW R s args own "PolynomialDesk" index yK_value bK_value 6 (some .int) wK_value (zR k) 0 0 5 :=
  cwV 5 hts (zG_V hl mi_K_value ms_K_value mn_K mk_K_value) rfl rfl rfl (by decide +kernel) hR
theorem kw_K_about {R : Room} {k : Nat} {s : State} {args : Array Value} {own : String} {index : Nat} {c0 : Cond} (hts : ∀ w ∈ c0 :: zT, w.before args s = true) (hl : Cond.methodLink own index yK_about ∈ zT) (hR : (zR k).frames + 1 ≤ R.frames ∧ 8 + (3 + 11) + (zR k).locals ≤ R.locals) : CallW R s args own "PolynomialDesk" index yK_about bK_about 3 (some .int) wK_about (zR k) 0 0 2 :=
  cwV 2 hts (zG_V hl mi_K_about ms_K_about mn_K mk_K_about) rfl rfl rfl (by decide +kernel) hR
theorem kw_K_term {R : Room} {k : Nat} {s : State} {args : Array Value} {own : String} {index : Nat} {c0 : Cond} (hts : ∀ w ∈ c0 :: zT, w.before args s = true) (hl : Cond.methodLink own index yK_term ∈ zT) (hR : (zR k).frames + 1 ≤ R.frames ∧ 8 + (5 + 11) + (zR k).locals ≤ R.locals) : CallW R s args own "PolynomialDesk" index yK_term bK_term 5 (some .int) wK_term (zR k) 0 0 3 :=
  cwV 3 hts (zG_V hl mi_K_term ms_K_term mn_K mk_K_term) rfl rfl rfl (by decide +kernel) hR
theorem kw_K_print {R : Room} {k : Nat} {s : State} {args : Array Value} {own : String} {index : Nat} {c0 : Cond} (hts : ∀ w ∈ c0 :: zT, w.before args s = true) (hl : Cond.methodLink own index yK_print ∈ zT) (hR : (zR k).frames + 1 ≤ R.frames ∧ 8 + (2 + 11) + (zR k).locals ≤ R.locals) : CallW R s args own "PolynomialDesk" index yK_print bK_print 2 (some .int) wK_print (zR k) 0 0 1 :=
  cwV 1 hts (zG_V hl mi_K_print ms_K_print mn_K mk_K_print) rfl rfl rfl (by decide +kernel) hR
theorem kw_K_output {R : Room} {k : Nat} {s : State} {args : Array Value} {own : String} {index : Nat} {c0 : Cond} (hts : ∀ w ∈ c0 :: zT, w.before args s = true) (hl : Cond.methodLink own index yK_output ∈ zT) (hR : (zR k).frames + 1 ≤ R.frames ∧ 8 + (2 + 11) + (zR k).locals ≤ R.locals) : CallW R s args own "PolynomialDesk" index yK_output bK_output 2 (some .int) wK_output (zR k) 0 0 1 :=
  cwV 1 hts (zG_V hl mi_K_output ms_K_output mn_K mk_K_output) rfl rfl rfl (by decide +kernel) hR
theorem kw_K_isPolynomial {R : Room} {k : Nat} {s : State} {args : Array Value} {own : String} {index : Nat} {c0 : Cond} (hts : ∀ w ∈ c0 :: zT, w.before args s = true) (hl : Cond.methodLink own index yK_isPolynomial ∈ zT) (hR : (zR k).frames + 1 ≤ R.frames ∧ 8 + (1 + 11) + (zR k).locals ≤ R.locals) : CallB R s args own index yK_isPolynomial bK_isPolynomial 1 (some .boolean) wK_isPolynomial (zR k) 0 0 1 ∧ (Cond.static yK_isPolynomial).before args s = true :=
  va_cwS 1 hts (zG_S hl mt_K_isPolynomial mn_K mk_K_isPolynomial) rfl rfl rfl (by decide +kernel) hR
theorem kw_K_requirePolynomial {R : Room} {k : Nat} {s : State} {args : Array Value} {own : String} {index : Nat} {c0 : Cond} (hts : ∀ w ∈ c0 :: zT, w.before args s = true) (hl : Cond.methodLink own index yK_requirePolynomial ∈ zT) (hR : (zR k).frames + 1 ≤ R.frames ∧ 8 + (1 + 11) + (zR k).locals ≤ R.locals) : CallB R s args own index yK_requirePolynomial bK_requirePolynomial 1 none wK_requirePolynomial (zR k) 0 0 1 ∧ (Cond.static yK_requirePolynomial).before args s = true :=
  va_cwS 1 hts (zG_S hl mt_K_requirePolynomial mn_K mk_K_requirePolynomial) rfl rfl rfl (by decide +kernel) hR
theorem kw_K_requireVariable {R : Room} {k : Nat} {s : State} {args : Array Value} {own : String} {index : Nat} {c0 : Cond} (hts : ∀ w ∈ c0 :: zT, w.before args s = true) (hl : Cond.methodLink own index yK_requireVariable ∈ zT) (hR : (zR k).frames + 1 ≤ R.frames ∧ 8 + (2 + 11) + (zR k).locals ≤ R.locals) : CallW R s args own "PolynomialDesk" index yK_requireVariable bK_requireVariable 2 none wK_requireVariable (zR k) 0 0 1 :=
  cwV 1 hts (zG_V hl mi_K_requireVariable ms_K_requireVariable mn_K mk_K_requireVariable) rfl rfl rfl (by decide +kernel) hR
theorem kw_K_isPrime {R : Room} {k : Nat} {s : State} {args : Array Value} {own : String} {index : Nat} {c0 : Cond} (hts : ∀ w ∈ c0 :: zT, w.before args s = true) (hl : Cond.methodLink own index yK_isPrime ∈ zT) (hR : (zR k).frames + 1 ≤ R.frames ∧ 8 + (2 + 11) + (zR k).locals ≤ R.locals) : CallB R s args own index yK_isPrime bK_isPrime 2 (some .boolean) wK_isPrime (zR k) 0 0 1 ∧ (Cond.static yK_isPrime).before args s = true :=
  va_cwS 1 hts (zG_S hl mt_K_isPrime mn_K mk_K_isPrime) rfl rfl rfl (by decide +kernel) hR
theorem kw_M_init {R rm : Room} {mc ms : Nat} {s : State} {args : Array Value} {own : String} {index : Nat} {c0 : Cond} (hts : ∀ w ∈ c0 :: zT, w.before args s = true) (hl : Cond.methodLink own index yM_init ∈ zT) (hrc : rm.cells = mc) (hrs : rm.slots = ms) (hR : rm.frames + 1 ≤ R.frames ∧ 8 + (1 + 11) + rm.locals ≤ R.locals) : CallB R s args own index yM_init bM_init 1 none wM_init rm mc ms 0 ∧ yM_init.name = "<init>" ∧ (Cond.instanceMethod yM_init).before args s = true :=
  cwI 0 hts (zG_c mk_M_init) rfl hrc hrs (hts _ (List.mem_cons_of_mem _ mn_M)) (hts _ (List.mem_cons_of_mem _ hl)) (hts _ (List.mem_cons_of_mem _ mi_M_init)) rfl (by decide +kernel) hR
theorem kw_M_thrown {R : Room} {k : Nat} {s : State} {args : Array Value} {own : String} {index : Nat} {c0 : Cond} (hts : ∀ w ∈ c0 :: zT, w.before args s = true) (hl : Cond.methodLink own index yM_thrown ∈ zT) (hR : (zR k).frames + 1 ≤ R.frames ∧ 8 + (1 + 11) + (zR k).locals ≤ R.locals) : CallW R s args own "PolynomialDeskModel" index yM_thrown bM_thrown 1 (some .int) wM_thrown (zR k) 0 0 0 :=
  cwV 0 hts (zG_V hl mi_M_thrown ms_M_thrown mn_M mk_M_thrown) rfl rfl rfl (by decide +kernel) hR
theorem kw_M_isPrime {R : Room} {k : Nat} {s : State} {args : Array Value} {own : String} {index : Nat} {c0 : Cond} (hts : ∀ w ∈ c0 :: zT, w.before args s = true) (hl : Cond.methodLink own index yM_isPrime ∈ zT) (hR : (zR k).frames + 1 ≤ R.frames ∧ 8 + (2 + 11) + (zR k).locals ≤ R.locals) : CallB R s args own index yM_isPrime bM_isPrime 2 (some .boolean) wM_isPrime (zR k) 0 0 1 ∧ (Cond.static yM_isPrime).before args s = true :=
  va_cwS 1 hts (zG_S hl mt_M_isPrime mn_M mk_M_isPrime) rfl rfl rfl (by decide +kernel) hR
theorem kw_M_prepare {R : Room} {k : Nat} {s : State} {args : Array Value} {own : String} {index : Nat} {c0 : Cond} (hts : ∀ w ∈ c0 :: zT, w.before args s = true) (hl : Cond.methodLink own index yM_prepare ∈ zT) (hR : (zR k).frames + 1 ≤ R.frames ∧ 8 + (7 + 11) + (zR k).locals ≤ R.locals) : CallW R s args own "PolynomialDeskModel" index yM_prepare bM_prepare 7 none wM_prepare (zR k) 0 0 3 :=
  cwV 3 hts (zG_V hl mi_M_prepare ms_M_prepare mn_M mk_M_prepare) rfl rfl rfl (by decide +kernel) hR
theorem kw_M_list {R : Room} {k : Nat} {s : State} {args : Array Value} {own : String} {index : Nat} {c0 : Cond} (hts : ∀ w ∈ c0 :: zT, w.before args s = true) (hl : Cond.methodLink own index yM_list ∈ zT) (hR : (zR k).frames + 1 ≤ R.frames ∧ 8 + (3 + 11) + (zR k).locals ≤ R.locals) : CallW R s args own "PolynomialDeskModel" index yM_list bM_list 3 none wM_list (zR k) 0 0 1 :=
  cwV 1 hts (zG_V hl mi_M_list ms_M_list mn_M mk_M_list) rfl rfl rfl (by decide +kernel) hR
theorem kw_M_isGreater {R : Room} {k : Nat} {s : State} {args : Array Value} {own : String} {index : Nat} {c0 : Cond} (hts : ∀ w ∈ c0 :: zT, w.before args s = true) (hl : Cond.methodLink own index yM_isGreater ∈ zT) (hR : (zR k).frames + 1 ≤ R.frames ∧ 8 + (6 + 11) + (zR k).locals ≤ R.locals) : CallW R s args own "PolynomialDeskModel" index yM_isGreater bM_isGreater 6 (some .boolean) wM_isGreater (zR k) 0 0 2 :=
  cwV 2 hts (zG_V hl mi_M_isGreater ms_M_isGreater mn_M mk_M_isGreater) rfl rfl rfl (by decide +kernel) hR
theorem kw_M_field {R : Room} {k : Nat} {s : State} {args : Array Value} {own : String} {index : Nat} {c0 : Cond} (hts : ∀ w ∈ c0 :: zT, w.before args s = true) (hl : Cond.methodLink own index yM_field ∈ zT) (hR : (zR k).frames + 1 ≤ R.frames ∧ 8 + (4 + 11) + (zR k).locals ≤ R.locals) : CallW R s args own "PolynomialDeskModel" index yM_field bM_field 4 none wM_field (zR k) 0 0 3 :=
  cwV 3 hts (zG_V hl mi_M_field ms_M_field mn_M mk_M_field) rfl rfl rfl (by decide +kernel) hR
theorem kw_M_modulo {R : Room} {k : Nat} {s : State} {args : Array Value} {own : String} {index : Nat} {c0 : Cond} (hts : ∀ w ∈ c0 :: zT, w.before args s = true) (hl : Cond.methodLink own index yM_modulo ∈ zT) (hR : (zR k).frames + 1 ≤ R.frames ∧ 8 + (4 + 11) + (zR k).locals ≤ R.locals) : CallW R s args own "PolynomialDeskModel" index yM_modulo bM_modulo 4 (some .int) wM_modulo (zR k) 0 0 1 :=
  cwV 1 hts (zG_V hl mi_M_modulo ms_M_modulo mn_M mk_M_modulo) rfl rfl rfl (by decide +kernel) hR
theorem kw_M_cell {R : Room} {k : Nat} {s : State} {args : Array Value} {own : String} {index : Nat} {c0 : Cond} (hts : ∀ w ∈ c0 :: zT, w.before args s = true) (hl : Cond.methodLink own index yM_cell ∈ zT) (hR : (zR k).frames + 1 ≤ R.frames ∧ 8 + (3 + 11) + (zR k).locals ≤ R.locals) : CallW R s args own "PolynomialDeskModel" index yM_cell bM_cell 3 (some .int) wM_cell (zR k) 0 0 2 :=
  cwV 2 hts (zG_V hl mi_M_cell ms_M_cell mn_M mk_M_cell) rfl rfl rfl (by decide +kernel) hR
theorem kw_M_lay {R : Room} {k : Nat} {s : State} {args : Array Value} {own : String} {index : Nat} {c0 : Cond} (hts : ∀ w ∈ c0 :: zT, w.before args s = true) (hl : Cond.methodLink own index yM_lay ∈ zT) (hR : (zR k).frames + 1 ≤ R.frames ∧ 8 + (4 + 11) + (zR k).locals ≤ R.locals) : CallW R s args own "PolynomialDeskModel" index yM_lay bM_lay 4 none wM_lay (zR k) 0 0 3 :=
  cwV 3 hts (zG_V hl mi_M_lay ms_M_lay mn_M mk_M_lay) rfl rfl rfl (by decide +kernel) hR
theorem kw_M_clear {R : Room} {k : Nat} {s : State} {args : Array Value} {own : String} {index : Nat} {c0 : Cond} (hts : ∀ w ∈ c0 :: zT, w.before args s = true) (hl : Cond.methodLink own index yM_clear ∈ zT) (hR : (zR k).frames + 1 ≤ R.frames ∧ 8 + (3 + 11) + (zR k).locals ≤ R.locals) : CallW R s args own "PolynomialDeskModel" index yM_clear bM_clear 3 none wM_clear (zR k) 0 0 1 :=
  cwV 1 hts (zG_V hl mi_M_clear ms_M_clear mn_M mk_M_clear) rfl rfl rfl (by decide +kernel) hR
theorem kw_M_copy {R : Room} {k : Nat} {s : State} {args : Array Value} {own : String} {index : Nat} {c0 : Cond} (hts : ∀ w ∈ c0 :: zT, w.before args s = true) (hl : Cond.methodLink own index yM_copy ∈ zT) (hR : (zR k).frames + 1 ≤ R.frames ∧ 8 + (4 + 11) + (zR k).locals ≤ R.locals) : CallW R s args own "PolynomialDeskModel" index yM_copy bM_copy 4 none wM_copy (zR k) 0 0 2 :=
  cwV 2 hts (zG_V hl mi_M_copy ms_M_copy mn_M mk_M_copy) rfl rfl rfl (by decide +kernel) hR
theorem kw_M_degreeOf {R : Room} {k : Nat} {s : State} {args : Array Value} {own : String} {index : Nat} {c0 : Cond} (hts : ∀ w ∈ c0 :: zT, w.before args s = true) (hl : Cond.methodLink own index yM_degreeOf ∈ zT) (hR : (zR k).frames + 1 ≤ R.frames ∧ 8 + (3 + 11) + (zR k).locals ≤ R.locals) : CallW R s args own "PolynomialDeskModel" index yM_degreeOf bM_degreeOf 3 (some .int) wM_degreeOf (zR k) 0 0 1 :=
  cwV 1 hts (zG_V hl mi_M_degreeOf ms_M_degreeOf mn_M mk_M_degreeOf) rfl rfl rfl (by decide +kernel) hR
theorem kw_M_terms {R : Room} {k : Nat} {s : State} {args : Array Value} {own : String} {index : Nat} {c0 : Cond} (hts : ∀ w ∈ c0 :: zT, w.before args s = true) (hl : Cond.methodLink own index yM_terms ∈ zT) (hR : (zR k).frames + 1 ≤ R.frames ∧ 8 + (4 + 11) + (zR k).locals ≤ R.locals) : CallW R s args own "PolynomialDeskModel" index yM_terms bM_terms 4 (some .int) wM_terms (zR k) 0 0 1 :=
  cwV 1 hts (zG_V hl mi_M_terms ms_M_terms mn_M mk_M_terms) rfl rfl rfl (by decide +kernel) hR
theorem kw_M_addTo {R : Room} {k : Nat} {s : State} {args : Array Value} {own : String} {index : Nat} {c0 : Cond} (hts : ∀ w ∈ c0 :: zT, w.before args s = true) (hl : Cond.methodLink own index yM_addTo ∈ zT) (hR : (zR k).frames + 1 ≤ R.frames ∧ 8 + (5 + 11) + (zR k).locals ≤ R.locals) : CallW R s args own "PolynomialDeskModel" index yM_addTo bM_addTo 5 none wM_addTo (zR k) 0 0 3 :=
  cwV 3 hts (zG_V hl mi_M_addTo ms_M_addTo mn_M mk_M_addTo) rfl rfl rfl (by decide +kernel) hR
theorem kw_M_isTooHigh {R : Room} {k : Nat} {s : State} {args : Array Value} {own : String} {index : Nat} {c0 : Cond} (hts : ∀ w ∈ c0 :: zT, w.before args s = true) (hl : Cond.methodLink own index yM_isTooHigh ∈ zT) (hR : (zR k).frames + 1 ≤ R.frames ∧ 8 + (5 + 11) + (zR k).locals ≤ R.locals) : CallW R s args own "PolynomialDeskModel" index yM_isTooHigh bM_isTooHigh 5 (some .boolean) wM_isTooHigh (zR k) 0 0 2 :=
  cwV 2 hts (zG_V hl mi_M_isTooHigh ms_M_isTooHigh mn_M mk_M_isTooHigh) rfl rfl rfl (by decide +kernel) hR
theorem kw_M_times {R : Room} {k : Nat} {s : State} {args : Array Value} {own : String} {index : Nat} {c0 : Cond} (hts : ∀ w ∈ c0 :: zT, w.before args s = true) (hl : Cond.methodLink own index yM_times ∈ zT) (hR : (zR k).frames + 1 ≤ R.frames ∧ 8 + (8 + 11) + (zR k).locals ≤ R.locals) : CallW R s args own "PolynomialDeskModel" index yM_times bM_times 8 none wM_times (zR k) 0 0 3 :=
  cwV 3 hts (zG_V hl mi_M_times ms_M_times mn_M mk_M_times) rfl rfl rfl (by decide +kernel) hR
theorem kw_M_put {R : Room} {k : Nat} {s : State} {args : Array Value} {own : String} {index : Nat} {c0 : Cond} (hts : ∀ w ∈ c0 :: zT, w.before args s = true) (hl : Cond.methodLink own index yM_put ∈ zT) (hR : (zR k).frames + 1 ≤ R.frames ∧ 8 + (5 + 11) + (zR k).locals ≤ R.locals) : CallW R s args own "PolynomialDeskModel" index yM_put bM_put 5 (some .boolean) wM_put (zR k) 0 0 2 :=
  cwV 2 hts (zG_V hl mi_M_put ms_M_put mn_M mk_M_put) rfl rfl rfl (by decide +kernel) hR
theorem kw_M_sum {R : Room} {k : Nat} {s : State} {args : Array Value} {own : String} {index : Nat} {c0 : Cond} (hts : ∀ w ∈ c0 :: zT, w.before args s = true) (hl : Cond.methodLink own index yM_sum ∈ zT) (hR : (zR k).frames + 1 ≤ R.frames ∧ 8 + (1 + 11) + (zR k).locals ≤ R.locals) : CallW R s args own "PolynomialDeskModel" index yM_sum bM_sum 1 (some .int) wM_sum (zR k) 0 0 0 :=
  cwV 0 hts (zG_V hl mi_M_sum ms_M_sum mn_M mk_M_sum) rfl rfl rfl (by decide +kernel) hR
theorem kw_M_product {R : Room} {k : Nat} {s : State} {args : Array Value} {own : String} {index : Nat} {c0 : Cond} (hts : ∀ w ∈ c0 :: zT, w.before args s = true) (hl : Cond.methodLink own index yM_product ∈ zT) (hR : (zR k).frames + 1 ≤ R.frames ∧ 8 + (1 + 11) + (zR k).locals ≤ R.locals) : CallW R s args own "PolynomialDeskModel" index yM_product bM_product 1 (some .int) wM_product (zR k) 0 0 0 :=
  cwV 0 hts (zG_V hl mi_M_product ms_M_product mn_M mk_M_product) rfl rfl rfl (by decide +kernel) hR
theorem kw_M_factor {R : Room} {k : Nat} {s : State} {args : Array Value} {own : String} {index : Nat} {c0 : Cond} (hts : ∀ w ∈ c0 :: zT, w.before args s = true) (hl : Cond.methodLink own index yM_factor ∈ zT) (hR : (zR k).frames + 1 ≤ R.frames ∧ 8 + (1 + 11) + (zR k).locals ≤ R.locals) : CallW R s args own "PolynomialDeskModel" index yM_factor bM_factor 1 (some .int) wM_factor (zR k) 0 0 0 :=
  cwV 0 hts (zG_V hl mi_M_factor ms_M_factor mn_M mk_M_factor) rfl rfl rfl (by decide +kernel) hR
theorem kw_M_here {R : Room} {k : Nat} {s : State} {args : Array Value} {own : String} {index : Nat} {c0 : Cond} (hts : ∀ w ∈ c0 :: zT, w.before args s = true) (hl : Cond.methodLink own index yM_here ∈ zT) (hR : (zR k).frames + 1 ≤ R.frames ∧ 8 + (1 + 11) + (zR k).locals ≤ R.locals) : CallW R s args own "PolynomialDeskModel" index yM_here bM_here 1 (some .int) wM_here (zR k) 0 0 0 :=
  cwV 0 hts (zG_V hl mi_M_here ms_M_here mn_M mk_M_here) rfl rfl rfl (by decide +kernel) hR
theorem kw_M_fail {R : Room} {k : Nat} {s : State} {args : Array Value} {own : String} {index : Nat} {c0 : Cond} (hts : ∀ w ∈ c0 :: zT, w.before args s = true) (hl : Cond.methodLink own index yM_fail ∈ zT) (hR : (zR k).frames + 1 ≤ R.frames ∧ 8 + (3 + 11) + (zR k).locals ≤ R.locals) : CallW R s args own "PolynomialDeskModel" index yM_fail bM_fail 3 none wM_fail (zR k) 0 0 2 :=
  cwV 2 hts (zG_V hl mi_M_fail ms_M_fail mn_M mk_M_fail) rfl rfl rfl (by decide +kernel) hR
theorem kw_M_isDigit {R : Room} {k : Nat} {s : State} {args : Array Value} {own : String} {index : Nat} {c0 : Cond} (hts : ∀ w ∈ c0 :: zT, w.before args s = true) (hl : Cond.methodLink own index yM_isDigit ∈ zT) (hR : (zR k).frames + 1 ≤ R.frames ∧ 8 + (1 + 11) + (zR k).locals ≤ R.locals) : CallB R s args own index yM_isDigit bM_isDigit 1 (some .boolean) wM_isDigit (zR k) 0 0 1 ∧ (Cond.static yM_isDigit).before args s = true :=
  va_cwS 1 hts (zG_S hl mt_M_isDigit mn_M mk_M_isDigit) rfl rfl rfl (by decide +kernel) hR
theorem kw_M_number {R : Room} {k : Nat} {s : State} {args : Array Value} {own : String} {index : Nat} {c0 : Cond} (hts : ∀ w ∈ c0 :: zT, w.before args s = true) (hl : Cond.methodLink own index yM_number ∈ zT) (hR : (zR k).frames + 1 ≤ R.frames ∧ 8 + (5 + 11) + (zR k).locals ≤ R.locals) : CallW R s args own "PolynomialDeskModel" index yM_number bM_number 5 (some .long) wM_number (zR k) 0 0 1 :=
  cwV 1 hts (zG_V hl mi_M_number ms_M_number mn_M mk_M_number) rfl rfl rfl (by decide +kernel) hR
theorem kw_M_variable {R : Room} {k : Nat} {s : State} {args : Array Value} {own : String} {index : Nat} {c0 : Cond} (hts : ∀ w ∈ c0 :: zT, w.before args s = true) (hl : Cond.methodLink own index yM_variable ∈ zT) (hR : (zR k).frames + 1 ≤ R.frames ∧ 8 + (3 + 11) + (zR k).locals ≤ R.locals) : CallW R s args own "PolynomialDeskModel" index yM_variable bM_variable 3 (some .int) wM_variable (zR k) 0 0 1 :=
  cwV 1 hts (zG_V hl mi_M_variable ms_M_variable mn_M mk_M_variable) rfl rfl rfl (by decide +kernel) hR
theorem kw_M_begin {R : Room} {k : Nat} {s : State} {args : Array Value} {own : String} {index : Nat} {c0 : Cond} (hts : ∀ w ∈ c0 :: zT, w.before args s = true) (hl : Cond.methodLink own index yM_begin ∈ zT) (hR : (zR k).frames + 1 ≤ R.frames ∧ 8 + (1 + 11) + (zR k).locals ≤ R.locals) : CallW R s args own "PolynomialDeskModel" index yM_begin bM_begin 1 none wM_begin (zR k) 0 0 0 :=
  cwV 0 hts (zG_V hl mi_M_begin ms_M_begin mn_M mk_M_begin) rfl rfl rfl (by decide +kernel) hR
theorem kw_M_readFactor {R : Room} {k : Nat} {s : State} {args : Array Value} {own : String} {index : Nat} {c0 : Cond} (hts : ∀ w ∈ c0 :: zT, w.before args s = true) (hl : Cond.methodLink own index yM_readFactor ∈ zT) (hR : (zR k).frames + 1 ≤ R.frames ∧ 8 + (3 + 11) + (zR k).locals ≤ R.locals) : CallW R s args own "PolynomialDeskModel" index yM_readFactor bM_readFactor 3 none wM_readFactor (zR k) 0 0 1 :=
  cwV 1 hts (zG_V hl mi_M_readFactor ms_M_readFactor mn_M mk_M_readFactor) rfl rfl rfl (by decide +kernel) hR
theorem kw_M_readPower {R : Room} {k : Nat} {s : State} {args : Array Value} {own : String} {index : Nat} {c0 : Cond} (hts : ∀ w ∈ c0 :: zT, w.before args s = true) (hl : Cond.methodLink own index yM_readPower ∈ zT) (hR : (zR k).frames + 1 ≤ R.frames ∧ 8 + (6 + 11) + (zR k).locals ≤ R.locals) : CallW R s args own "PolynomialDeskModel" index yM_readPower bM_readPower 6 none wM_readPower (zR k) 0 0 1 :=
  cwV 1 hts (zG_V hl mi_M_readPower ms_M_readPower mn_M mk_M_readPower) rfl rfl rfl (by decide +kernel) hR
theorem kw_M_goOn {R : Room} {k : Nat} {s : State} {args : Array Value} {own : String} {index : Nat} {c0 : Cond} (hts : ∀ w ∈ c0 :: zT, w.before args s = true) (hl : Cond.methodLink own index yM_goOn ∈ zT) (hR : (zR k).frames + 1 ≤ R.frames ∧ 8 + (4 + 11) + (zR k).locals ≤ R.locals) : CallW R s args own "PolynomialDeskModel" index yM_goOn bM_goOn 4 none wM_goOn (zR k) 0 0 1 :=
  cwV 1 hts (zG_V hl mi_M_goOn ms_M_goOn mn_M mk_M_goOn) rfl rfl rfl (by decide +kernel) hR
theorem kw_M_read {R : Room} {k : Nat} {s : State} {args : Array Value} {own : String} {index : Nat} {c0 : Cond} (hts : ∀ w ∈ c0 :: zT, w.before args s = true) (hl : Cond.methodLink own index yM_read ∈ zT) (hR : (zR k).frames + 1 ≤ R.frames ∧ 8 + (4 + 11) + (zR k).locals ≤ R.locals) : CallW R s args own "PolynomialDeskModel" index yM_read bM_read 4 (some .int) wM_read (zR k) 0 0 1 :=
  cwV 1 hts (zG_V hl mi_M_read ms_M_read mn_M mk_M_read) rfl rfl rfl (by decide +kernel) hR
theorem kw_M_fault {R : Room} {k : Nat} {s : State} {args : Array Value} {own : String} {index : Nat} {c0 : Cond} (hts : ∀ w ∈ c0 :: zT, w.before args s = true) (hl : Cond.methodLink own index yM_fault ∈ zT) (hR : (zR k).frames + 1 ≤ R.frames ∧ 8 + (2 + 11) + (zR k).locals ≤ R.locals) : CallW R s args own "PolynomialDeskModel" index yM_fault bM_fault 2 (some .int) wM_fault (zR k) 0 0 1 :=
  cwV 1 hts (zG_V hl mi_M_fault ms_M_fault mn_M mk_M_fault) rfl rfl rfl (by decide +kernel) hR
theorem kw_M_isPolynomial {R : Room} {k : Nat} {s : State} {args : Array Value} {own : String} {index : Nat} {c0 : Cond} (hts : ∀ w ∈ c0 :: zT, w.before args s = true) (hl : Cond.methodLink own index yM_isPolynomial ∈ zT) (hR : (zR k).frames + 1 ≤ R.frames ∧ 8 + (1 + 11) + (zR k).locals ≤ R.locals) : CallB R s args own index yM_isPolynomial bM_isPolynomial 1 (some .boolean) wM_isPolynomial (zR k) 0 0 1 ∧ (Cond.static yM_isPolynomial).before args s = true :=
  va_cwS 1 hts (zG_S hl mt_M_isPolynomial mn_M mk_M_isPolynomial) rfl rfl rfl (by decide +kernel) hR
theorem kw_M_lacks {R : Room} {k : Nat} {s : State} {args : Array Value} {own : String} {index : Nat} {c0 : Cond} (hts : ∀ w ∈ c0 :: zT, w.before args s = true) (hl : Cond.methodLink own index yM_lacks ∈ zT) (hR : (zR k).frames + 1 ≤ R.frames ∧ 8 + (4 + 11) + (zR k).locals ≤ R.locals) : CallW R s args own "PolynomialDeskModel" index yM_lacks bM_lacks 4 (some .boolean) wM_lacks (zR k) 0 0 3 :=
  cwV 3 hts (zG_V hl mi_M_lacks ms_M_lacks mn_M mk_M_lacks) rfl rfl rfl (by decide +kernel) hR
theorem kw_M_add {R : Room} {k : Nat} {s : State} {args : Array Value} {own : String} {index : Nat} {c0 : Cond} (hts : ∀ w ∈ c0 :: zT, w.before args s = true) (hl : Cond.methodLink own index yM_add ∈ zT) (hR : (zR k).frames + 1 ≤ R.frames ∧ 8 + (5 + 11) + (zR k).locals ≤ R.locals) : CallW R s args own "PolynomialDeskModel" index yM_add bM_add 5 none wM_add (zR k) 0 0 4 :=
  cwV 4 hts (zG_V hl mi_M_add ms_M_add mn_M mk_M_add) rfl rfl rfl (by decide +kernel) hR
theorem kw_M_multiply {R : Room} {k : Nat} {s : State} {args : Array Value} {own : String} {index : Nat} {c0 : Cond} (hts : ∀ w ∈ c0 :: zT, w.before args s = true) (hl : Cond.methodLink own index yM_multiply ∈ zT) (hR : (zR k).frames + 1 ≤ R.frames ∧ 8 + (4 + 11) + (zR k).locals ≤ R.locals) : CallW R s args own "PolynomialDeskModel" index yM_multiply bM_multiply 4 none wM_multiply (zR k) 0 0 3 :=
  cwV 3 hts (zG_V hl mi_M_multiply ms_M_multiply mn_M mk_M_multiply) rfl rfl rfl (by decide +kernel) hR
theorem kw_M_derive {R : Room} {k : Nat} {s : State} {args : Array Value} {own : String} {index : Nat} {c0 : Cond} (hts : ∀ w ∈ c0 :: zT, w.before args s = true) (hl : Cond.methodLink own index yM_derive ∈ zT) (hR : (zR k).frames + 1 ≤ R.frames ∧ 8 + (7 + 11) + (zR k).locals ≤ R.locals) : CallW R s args own "PolynomialDeskModel" index yM_derive bM_derive 7 none wM_derive (zR k) 0 0 3 :=
  cwV 3 hts (zG_V hl mi_M_derive ms_M_derive mn_M mk_M_derive) rfl rfl rfl (by decide +kernel) hR
theorem kw_M_power {R : Room} {k : Nat} {s : State} {args : Array Value} {own : String} {index : Nat} {c0 : Cond} (hts : ∀ w ∈ c0 :: zT, w.before args s = true) (hl : Cond.methodLink own index yM_power ∈ zT) (hR : (zR k).frames + 1 ≤ R.frames ∧ 8 + (5 + 11) + (zR k).locals ≤ R.locals) : CallW R s args own "PolynomialDeskModel" index yM_power bM_power 5 (some .int) wM_power (zR k) 0 0 2 :=
  cwV 2 hts (zG_V hl mi_M_power ms_M_power mn_M mk_M_power) rfl rfl rfl (by decide +kernel) hR
theorem kw_M_set {R : Room} {k : Nat} {s : State} {args : Array Value} {own : String} {index : Nat} {c0 : Cond} (hts : ∀ w ∈ c0 :: zT, w.before args s = true) (hl : Cond.methodLink own index yM_set ∈ zT) (hR : (zR k).frames + 1 ≤ R.frames ∧ 8 + (9 + 11) + (zR k).locals ≤ R.locals) : CallW R s args own "PolynomialDeskModel" index yM_set bM_set 9 none wM_set (zR k) 0 0 4 :=
  cwV 4 hts (zG_V hl mi_M_set ms_M_set mn_M mk_M_set) rfl rfl rfl (by decide +kernel) hR
theorem kw_M_value {R : Room} {k : Nat} {s : State} {args : Array Value} {own : String} {index : Nat} {c0 : Cond} (hts : ∀ w ∈ c0 :: zT, w.before args s = true) (hl : Cond.methodLink own index yM_value ∈ zT) (hR : (zR k).frames + 1 ≤ R.frames ∧ 8 + (10 + 11) + (zR k).locals ≤ R.locals) : CallW R s args own "PolynomialDeskModel" index yM_value bM_value 10 (some .int) wM_value (zR k) 0 0 5 :=
  cwV 5 hts (zG_V hl mi_M_value ms_M_value mn_M mk_M_value) rfl rfl rfl (by decide +kernel) hR
theorem kw_M_about {R : Room} {k : Nat} {s : State} {args : Array Value} {own : String} {index : Nat} {c0 : Cond} (hts : ∀ w ∈ c0 :: zT, w.before args s = true) (hl : Cond.methodLink own index yM_about ∈ zT) (hR : (zR k).frames + 1 ≤ R.frames ∧ 8 + (3 + 11) + (zR k).locals ≤ R.locals) : CallW R s args own "PolynomialDeskModel" index yM_about bM_about 3 (some .int) wM_about (zR k) 0 0 2 :=
  cwV 2 hts (zG_V hl mi_M_about ms_M_about mn_M mk_M_about) rfl rfl rfl (by decide +kernel) hR
theorem kw_M_placeOf {R : Room} {k : Nat} {s : State} {args : Array Value} {own : String} {index : Nat} {c0 : Cond} (hts : ∀ w ∈ c0 :: zT, w.before args s = true) (hl : Cond.methodLink own index yM_placeOf ∈ zT) (hR : (zR k).frames + 1 ≤ R.frames ∧ 8 + (5 + 11) + (zR k).locals ≤ R.locals) : CallW R s args own "PolynomialDeskModel" index yM_placeOf bM_placeOf 5 (some .int) wM_placeOf (zR k) 0 0 2 :=
  cwV 2 hts (zG_V hl mi_M_placeOf ms_M_placeOf mn_M mk_M_placeOf) rfl rfl rfl (by decide +kernel) hR
theorem kw_M_term {R : Room} {k : Nat} {s : State} {args : Array Value} {own : String} {index : Nat} {c0 : Cond} (hts : ∀ w ∈ c0 :: zT, w.before args s = true) (hl : Cond.methodLink own index yM_term ∈ zT) (hR : (zR k).frames + 1 ≤ R.frames ∧ 8 + (5 + 11) + (zR k).locals ≤ R.locals) : CallW R s args own "PolynomialDeskModel" index yM_term bM_term 5 (some .int) wM_term (zR k) 0 0 3 :=
  cwV 3 hts (zG_V hl mi_M_term ms_M_term mn_M mk_M_term) rfl rfl rfl (by decide +kernel) hR
theorem kw_M_say {R : Room} {k : Nat} {s : State} {args : Array Value} {own : String} {index : Nat} {c0 : Cond} (hts : ∀ w ∈ c0 :: zT, w.before args s = true) (hl : Cond.methodLink own index yM_say ∈ zT) (hR : (zR k).frames + 1 ≤ R.frames ∧ 8 + (2 + 11) + (zR k).locals ≤ R.locals) : CallW R s args own "PolynomialDeskModel" index yM_say bM_say 2 none wM_say (zR k) 0 0 1 :=
  cwV 1 hts (zG_V hl mi_M_say ms_M_say mn_M mk_M_say) rfl rfl rfl (by decide +kernel) hR
theorem kw_M_sayNumber {R : Room} {k : Nat} {s : State} {args : Array Value} {own : String} {index : Nat} {c0 : Cond} (hts : ∀ w ∈ c0 :: zT, w.before args s = true) (hl : Cond.methodLink own index yM_sayNumber ∈ zT) (hR : (zR k).frames + 1 ≤ R.frames ∧ 8 + (3 + 11) + (zR k).locals ≤ R.locals) : CallW R s args own "PolynomialDeskModel" index yM_sayNumber bM_sayNumber 3 none wM_sayNumber (zR k) 0 0 1 :=
  cwV 1 hts (zG_V hl mi_M_sayNumber ms_M_sayNumber mn_M mk_M_sayNumber) rfl rfl rfl (by decide +kernel) hR
theorem kw_M_sayTerm {R : Room} {k : Nat} {s : State} {args : Array Value} {own : String} {index : Nat} {c0 : Cond} (hts : ∀ w ∈ c0 :: zT, w.before args s = true) (hl : Cond.methodLink own index yM_sayTerm ∈ zT) (hR : (zR k).frames + 1 ≤ R.frames ∧ 8 + (7 + 11) + (zR k).locals ≤ R.locals) : CallW R s args own "PolynomialDeskModel" index yM_sayTerm bM_sayTerm 7 none wM_sayTerm (zR k) 0 0 2 :=
  cwV 2 hts (zG_V hl mi_M_sayTerm ms_M_sayTerm mn_M mk_M_sayTerm) rfl rfl rfl (by decide +kernel) hR
theorem kw_M_print {R : Room} {k : Nat} {s : State} {args : Array Value} {own : String} {index : Nat} {c0 : Cond} (hts : ∀ w ∈ c0 :: zT, w.before args s = true) (hl : Cond.methodLink own index yM_print ∈ zT) (hR : (zR k).frames + 1 ≤ R.frames ∧ 8 + (3 + 11) + (zR k).locals ≤ R.locals) : CallW R s args own "PolynomialDeskModel" index yM_print bM_print 3 (some .int) wM_print (zR k) 0 0 1 :=
  cwV 1 hts (zG_V hl mi_M_print ms_M_print mn_M mk_M_print) rfl rfl rfl (by decide +kernel) hR
theorem kw_M_output {R : Room} {k : Nat} {s : State} {args : Array Value} {own : String} {index : Nat} {c0 : Cond} (hts : ∀ w ∈ c0 :: zT, w.before args s = true) (hl : Cond.methodLink own index yM_output ∈ zT) (hR : (zR k).frames + 1 ≤ R.frames ∧ 8 + (2 + 11) + (zR k).locals ≤ R.locals) : CallW R s args own "PolynomialDeskModel" index yM_output bM_output 2 (some .int) wM_output (zR k) 0 0 1 :=
  cwV 1 hts (zG_V hl mi_M_output ms_M_output mn_M mk_M_output) rfl rfl rfl (by decide +kernel) hR
theorem kw_P_init {R rm : Room} {mc ms : Nat} {s : State} {args : Array Value} {own : String} {index : Nat} {c0 : Cond} (hts : ∀ w ∈ c0 :: zT, w.before args s = true) (hl : Cond.methodLink own index yP_init ∈ zT) (hrc : rm.cells = mc) (hrs : rm.slots = ms) (hR : rm.frames + 1 ≤ R.frames ∧ 8 + (2 + 11) + rm.locals ≤ R.locals) : CallB R s args own index yP_init bP_init 2 none wP_init rm mc ms 1 ∧ yP_init.name = "<init>" ∧ (Cond.instanceMethod yP_init).before args s = true :=
  cwI 1 hts (zG_c mk_P_init) rfl hrc hrs (hts _ (List.mem_cons_of_mem _ mn_P)) (hts _ (List.mem_cons_of_mem _ hl)) (hts _ (List.mem_cons_of_mem _ mi_P_init)) rfl (by decide +kernel) hR
theorem kw_P_clear {R : Room} {k : Nat} {s : State} {args : Array Value} {own : String} {index : Nat} {c0 : Cond} (hts : ∀ w ∈ c0 :: zT, w.before args s = true) (hl : Cond.methodLink own index yP_clear ∈ zT) (hR : (zR k).frames + 1 ≤ R.frames ∧ 8 + (1 + 11) + (zR k).locals ≤ R.locals) : CallW R s args own "PolynomialDesk$Printer" index yP_clear bP_clear 1 none wP_clear (zR k) 0 0 0 :=
  cwV 0 hts (zG_V hl mi_P_clear ms_P_clear mn_P mk_P_clear) rfl rfl rfl (by decide +kernel) hR
theorem kw_P_byteAt {R : Room} {k : Nat} {s : State} {args : Array Value} {own : String} {index : Nat} {c0 : Cond} (hts : ∀ w ∈ c0 :: zT, w.before args s = true) (hl : Cond.methodLink own index yP_byteAt ∈ zT) (hR : (zR k).frames + 1 ≤ R.frames ∧ 8 + (2 + 11) + (zR k).locals ≤ R.locals) : CallW R s args own "PolynomialDesk$Printer" index yP_byteAt bP_byteAt 2 (some .int) wP_byteAt (zR k) 0 0 1 :=
  cwV 1 hts (zG_V hl mi_P_byteAt ms_P_byteAt mn_P mk_P_byteAt) rfl rfl rfl (by decide +kernel) hR
theorem kw_P_writePolynomial {R : Room} {k : Nat} {s : State} {args : Array Value} {own : String} {index : Nat} {c0 : Cond} (hts : ∀ w ∈ c0 :: zT, w.before args s = true) (hl : Cond.methodLink own index yP_writePolynomial ∈ zT) (hR : (zR k).frames + 1 ≤ R.frames ∧ 8 + (3 + 11) + (zR k).locals ≤ R.locals) : CallW R s args own "PolynomialDesk$Printer" index yP_writePolynomial bP_writePolynomial 3 (some .int) wP_writePolynomial (zR k) 0 0 1 :=
  cwV 1 hts (zG_V hl mi_P_writePolynomial ms_P_writePolynomial mn_P mk_P_writePolynomial) rfl rfl rfl (by decide +kernel) hR
theorem kw_P_writeTerm {R : Room} {k : Nat} {s : State} {args : Array Value} {own : String} {index : Nat} {c0 : Cond} (hts : ∀ w ∈ c0 :: zT, w.before args s = true) (hl : Cond.methodLink own index yP_writeTerm ∈ zT) (hR : (zR k).frames + 1 ≤ R.frames ∧ 8 + (6 + 11) + (zR k).locals ≤ R.locals) : CallW R s args own "PolynomialDesk$Printer" index yP_writeTerm bP_writeTerm 6 none wP_writeTerm (zR k) 0 0 2 :=
  cwV 2 hts (zG_V hl mi_P_writeTerm ms_P_writeTerm mn_P mk_P_writeTerm) rfl rfl rfl (by decide +kernel) hR
theorem kw_P_writeNumber {R : Room} {k : Nat} {s : State} {args : Array Value} {own : String} {index : Nat} {c0 : Cond} (hts : ∀ w ∈ c0 :: zT, w.before args s = true) (hl : Cond.methodLink own index yP_writeNumber ∈ zT) (hR : (zR k).frames + 1 ≤ R.frames ∧ 8 + (5 + 11) + (zR k).locals ≤ R.locals) : CallW R s args own "PolynomialDesk$Printer" index yP_writeNumber bP_writeNumber 5 none wP_writeNumber (zR k) 0 0 1 :=
  cwV 1 hts (zG_V hl mi_P_writeNumber ms_P_writeNumber mn_P mk_P_writeNumber) rfl rfl rfl (by decide +kernel) hR
theorem kw_P_writeByte {R : Room} {k : Nat} {s : State} {args : Array Value} {own : String} {index : Nat} {c0 : Cond} (hts : ∀ w ∈ c0 :: zT, w.before args s = true) (hl : Cond.methodLink own index yP_writeByte ∈ zT) (hR : (zR k).frames + 1 ≤ R.frames ∧ 8 + (2 + 11) + (zR k).locals ≤ R.locals) : CallW R s args own "PolynomialDesk$Printer" index yP_writeByte bP_writeByte 2 none wP_writeByte (zR k) 0 0 1 :=
  cwV 1 hts (zG_V hl mi_P_writeByte ms_P_writeByte mn_P mk_P_writeByte) rfl rfl rfl (by decide +kernel) hR
theorem kw_E_init {R rm : Room} {mc ms : Nat} {s : State} {args : Array Value} {own : String} {index : Nat} {c0 : Cond} (hts : ∀ w ∈ c0 :: zT, w.before args s = true) (hl : Cond.methodLink own index yE_init ∈ zT) (hrc : rm.cells = mc) (hrs : rm.slots = ms) (hR : rm.frames + 1 ≤ R.frames ∧ 8 + (2 + 11) + rm.locals ≤ R.locals) : CallB R s args own index yE_init bE_init 2 none wE_init rm mc ms 1 ∧ yE_init.name = "<init>" ∧ (Cond.instanceMethod yE_init).before args s = true :=
  cwI 1 hts (zG_c mk_E_init) rfl hrc hrs (hts _ (List.mem_cons_of_mem _ mn_E)) (hts _ (List.mem_cons_of_mem _ hl)) (hts _ (List.mem_cons_of_mem _ mi_E_init)) rfl (by decide +kernel) hR
theorem kw_E_takeBytes {R : Room} {k : Nat} {s : State} {args : Array Value} {own : String} {index : Nat} {c0 : Cond} (hts : ∀ w ∈ c0 :: zT, w.before args s = true) (hl : Cond.methodLink own index yE_takeBytes ∈ zT) (hR : (zR k).frames + 1 ≤ R.frames ∧ 8 + (5 + 11) + (zR k).locals ≤ R.locals) : CallW R s args own "PolynomialDesk$Reader" index yE_takeBytes bE_takeBytes 5 (some .boolean) wE_takeBytes (zR k) 0 0 2 :=
  cwV 2 hts (zG_V hl mi_E_takeBytes ms_E_takeBytes mn_E mk_E_takeBytes) rfl rfl rfl (by decide +kernel) hR
theorem kw_E_latestFault {R : Room} {k : Nat} {s : State} {args : Array Value} {own : String} {index : Nat} {c0 : Cond} (hts : ∀ w ∈ c0 :: zT, w.before args s = true) (hl : Cond.methodLink own index yE_latestFault ∈ zT) (hR : (zR k).frames + 1 ≤ R.frames ∧ 8 + (1 + 11) + (zR k).locals ≤ R.locals) : CallW R s args own "PolynomialDesk$Reader" index yE_latestFault bE_latestFault 1 (some .int) wE_latestFault (zR k) 0 0 0 :=
  cwV 0 hts (zG_V hl mi_E_latestFault ms_E_latestFault mn_E mk_E_latestFault) rfl rfl rfl (by decide +kernel) hR
theorem kw_E_latestPlace {R : Room} {k : Nat} {s : State} {args : Array Value} {own : String} {index : Nat} {c0 : Cond} (hts : ∀ w ∈ c0 :: zT, w.before args s = true) (hl : Cond.methodLink own index yE_latestPlace ∈ zT) (hR : (zR k).frames + 1 ≤ R.frames ∧ 8 + (1 + 11) + (zR k).locals ≤ R.locals) : CallW R s args own "PolynomialDesk$Reader" index yE_latestPlace bE_latestPlace 1 (some .int) wE_latestPlace (zR k) 0 0 0 :=
  cwV 0 hts (zG_V hl mi_E_latestPlace ms_E_latestPlace mn_E mk_E_latestPlace) rfl rfl rfl (by decide +kernel) hR
theorem kw_E_readText {R : Room} {k : Nat} {s : State} {args : Array Value} {own : String} {index : Nat} {c0 : Cond} (hts : ∀ w ∈ c0 :: zT, w.before args s = true) (hl : Cond.methodLink own index yE_readText ∈ zT) (hR : (zR k).frames + 1 ≤ R.frames ∧ 8 + (2 + 11) + (zR k).locals ≤ R.locals) : CallW R s args own "PolynomialDesk$Reader" index yE_readText bE_readText 2 (some .boolean) wE_readText (zR k) 0 0 1 :=
  cwV 1 hts (zG_V hl mi_E_readText ms_E_readText mn_E mk_E_readText) rfl rfl rfl (by decide +kernel) hR
theorem kw_E_readSum {R : Room} {k : Nat} {s : State} {args : Array Value} {own : String} {index : Nat} {c0 : Cond} (hts : ∀ w ∈ c0 :: zT, w.before args s = true) (hl : Cond.methodLink own index yE_readSum ∈ zT) (hR : (zR k).frames + 1 ≤ R.frames ∧ 8 + (5 + 11) + (zR k).locals ≤ R.locals) : CallW R s args own "PolynomialDesk$Reader" index yE_readSum bE_readSum 5 none wE_readSum (zR k) 0 0 1 :=
  cwV 1 hts (zG_V hl mi_E_readSum ms_E_readSum mn_E mk_E_readSum) rfl rfl rfl (by decide +kernel) hR
theorem kw_E_readTerm {R : Room} {k : Nat} {s : State} {args : Array Value} {own : String} {index : Nat} {c0 : Cond} (hts : ∀ w ∈ c0 :: zT, w.before args s = true) (hl : Cond.methodLink own index yE_readTerm ∈ zT) (hR : (zR k).frames + 1 ≤ R.frames ∧ 8 + (5 + 11) + (zR k).locals ≤ R.locals) : CallW R s args own "PolynomialDesk$Reader" index yE_readTerm bE_readTerm 5 none wE_readTerm (zR k) 0 0 1 :=
  cwV 1 hts (zG_V hl mi_E_readTerm ms_E_readTerm mn_E mk_E_readTerm) rfl rfl rfl (by decide +kernel) hR
theorem kw_E_readFactor {R : Room} {k : Nat} {s : State} {args : Array Value} {own : String} {index : Nat} {c0 : Cond} (hts : ∀ w ∈ c0 :: zT, w.before args s = true) (hl : Cond.methodLink own index yE_readFactor ∈ zT) (hR : (zR k).frames + 1 ≤ R.frames ∧ 8 + (4 + 11) + (zR k).locals ≤ R.locals) : CallW R s args own "PolynomialDesk$Reader" index yE_readFactor bE_readFactor 4 none wE_readFactor (zR k) 0 0 1 :=
  cwV 1 hts (zG_V hl mi_E_readFactor ms_E_readFactor mn_E mk_E_readFactor) rfl rfl rfl (by decide +kernel) hR
theorem kw_E_readBareFactor {R : Room} {k : Nat} {s : State} {args : Array Value} {own : String} {index : Nat} {c0 : Cond} (hts : ∀ w ∈ c0 :: zT, w.before args s = true) (hl : Cond.methodLink own index yE_readBareFactor ∈ zT) (hR : (zR k).frames + 1 ≤ R.frames ∧ 8 + (4 + 11) + (zR k).locals ≤ R.locals) : CallW R s args own "PolynomialDesk$Reader" index yE_readBareFactor bE_readBareFactor 4 none wE_readBareFactor (zR k) 0 0 1 :=
  cwV 1 hts (zG_V hl mi_E_readBareFactor ms_E_readBareFactor mn_E mk_E_readBareFactor) rfl rfl rfl (by decide +kernel) hR
theorem kw_E_readGroup {R : Room} {k : Nat} {s : State} {args : Array Value} {own : String} {index : Nat} {c0 : Cond} (hts : ∀ w ∈ c0 :: zT, w.before args s = true) (hl : Cond.methodLink own index yE_readGroup ∈ zT) (hR : (zR k).frames + 1 ≤ R.frames ∧ 8 + (2 + 11) + (zR k).locals ≤ R.locals) : CallW R s args own "PolynomialDesk$Reader" index yE_readGroup bE_readGroup 2 none wE_readGroup (zR k) 0 0 1 :=
  cwV 1 hts (zG_V hl mi_E_readGroup ms_E_readGroup mn_E mk_E_readGroup) rfl rfl rfl (by decide +kernel) hR
theorem kw_E_readNumber {R : Room} {k : Nat} {s : State} {args : Array Value} {own : String} {index : Nat} {c0 : Cond} (hts : ∀ w ∈ c0 :: zT, w.before args s = true) (hl : Cond.methodLink own index yE_readNumber ∈ zT) (hR : (zR k).frames + 1 ≤ R.frames ∧ 8 + (4 + 11) + (zR k).locals ≤ R.locals) : CallW R s args own "PolynomialDesk$Reader" index yE_readNumber bE_readNumber 4 (some .int) wE_readNumber (zR k) 0 0 1 :=
  cwV 1 hts (zG_V hl mi_E_readNumber ms_E_readNumber mn_E mk_E_readNumber) rfl rfl rfl (by decide +kernel) hR
theorem kw_E_nextByte {R : Room} {k : Nat} {s : State} {args : Array Value} {own : String} {index : Nat} {c0 : Cond} (hts : ∀ w ∈ c0 :: zT, w.before args s = true) (hl : Cond.methodLink own index yE_nextByte ∈ zT) (hR : (zR k).frames + 1 ≤ R.frames ∧ 8 + (1 + 11) + (zR k).locals ≤ R.locals) : CallW R s args own "PolynomialDesk$Reader" index yE_nextByte bE_nextByte 1 (some .int) wE_nextByte (zR k) 0 0 0 :=
  cwV 0 hts (zG_V hl mi_E_nextByte ms_E_nextByte mn_E mk_E_nextByte) rfl rfl rfl (by decide +kernel) hR
theorem kw_E_noteFault {R : Room} {k : Nat} {s : State} {args : Array Value} {own : String} {index : Nat} {c0 : Cond} (hts : ∀ w ∈ c0 :: zT, w.before args s = true) (hl : Cond.methodLink own index yE_noteFault ∈ zT) (hR : (zR k).frames + 1 ≤ R.frames ∧ 8 + (3 + 11) + (zR k).locals ≤ R.locals) : CallW R s args own "PolynomialDesk$Reader" index yE_noteFault bE_noteFault 3 none wE_noteFault (zR k) 0 0 2 :=
  cwV 2 hts (zG_V hl mi_E_noteFault ms_E_noteFault mn_E mk_E_noteFault) rfl rfl rfl (by decide +kernel) hR
theorem kw_E_isSign {R : Room} {k : Nat} {s : State} {args : Array Value} {own : String} {index : Nat} {c0 : Cond} (hts : ∀ w ∈ c0 :: zT, w.before args s = true) (hl : Cond.methodLink own index yE_isSign ∈ zT) (hR : (zR k).frames + 1 ≤ R.frames ∧ 8 + (1 + 11) + (zR k).locals ≤ R.locals) : CallB R s args own index yE_isSign bE_isSign 1 (some .boolean) wE_isSign (zR k) 0 0 1 ∧ (Cond.static yE_isSign).before args s = true :=
  va_cwS 1 hts (zG_S hl mt_E_isSign mn_E mk_E_isSign) rfl rfl rfl (by decide +kernel) hR
theorem kw_E_isDigit {R : Room} {k : Nat} {s : State} {args : Array Value} {own : String} {index : Nat} {c0 : Cond} (hts : ∀ w ∈ c0 :: zT, w.before args s = true) (hl : Cond.methodLink own index yE_isDigit ∈ zT) (hR : (zR k).frames + 1 ≤ R.frames ∧ 8 + (1 + 11) + (zR k).locals ≤ R.locals) : CallB R s args own index yE_isDigit bE_isDigit 1 (some .boolean) wE_isDigit (zR k) 0 0 1 ∧ (Cond.static yE_isDigit).before args s = true :=
  va_cwS 1 hts (zG_S hl mt_E_isDigit mn_E mk_E_isDigit) rfl rfl rfl (by decide +kernel) hR
theorem kw_E_variableOf {R : Room} {k : Nat} {s : State} {args : Array Value} {own : String} {index : Nat} {c0 : Cond} (hts : ∀ w ∈ c0 :: zT, w.before args s = true) (hl : Cond.methodLink own index yE_variableOf ∈ zT) (hR : (zR k).frames + 1 ≤ R.frames ∧ 8 + (1 + 11) + (zR k).locals ≤ R.locals) : CallB R s args own index yE_variableOf bE_variableOf 1 (some .int) wE_variableOf (zR k) 0 0 1 ∧ (Cond.static yE_variableOf).before args s = true :=
  va_cwS 1 hts (zG_S hl mt_E_variableOf mn_E mk_E_variableOf) rfl rfl rfl (by decide +kernel) hR
theorem kw_R_init {R rm : Room} {mc ms : Nat} {s : State} {args : Array Value} {own : String} {index : Nat} {c0 : Cond} (hts : ∀ w ∈ c0 :: zT, w.before args s = true) (hl : Cond.methodLink own index yR_init ∈ zT) (hrc : rm.cells = mc) (hrs : rm.slots = ms) (hR : rm.frames + 1 ≤ R.frames ∧ 8 + (1 + 11) + rm.locals ≤ R.locals) : CallB R s args own index yR_init bR_init 1 none wR_init rm mc ms 0 ∧ yR_init.name = "<init>" ∧ (Cond.instanceMethod yR_init).before args s = true :=
  cwI 0 hts (zG_c mk_R_init) rfl hrc hrs (hts _ (List.mem_cons_of_mem _ mn_R)) (hts _ (List.mem_cons_of_mem _ hl)) (hts _ (List.mem_cons_of_mem _ mi_R_init)) rfl (by decide +kernel) hR
theorem kw_R_prepare {R : Room} {k : Nat} {s : State} {args : Array Value} {own : String} {index : Nat} {c0 : Cond} (hts : ∀ w ∈ c0 :: zT, w.before args s = true) (hl : Cond.methodLink own index yR_prepare ∈ zT) (hR : (zR k).frames + 1 ≤ R.frames ∧ 8 + (6 + 11) + (zR k).locals ≤ R.locals) : CallW R s args own "PolynomialDesk$Ring" index yR_prepare bR_prepare 6 none wR_prepare (zR k) 0 0 3 :=
  cwV 3 hts (zG_V hl mi_R_prepare ms_R_prepare mn_R mk_R_prepare) rfl rfl rfl (by decide +kernel) hR
theorem kw_R_listMonomials {R : Room} {k : Nat} {s : State} {args : Array Value} {own : String} {index : Nat} {c0 : Cond} (hts : ∀ w ∈ c0 :: zT, w.before args s = true) (hl : Cond.methodLink own index yR_listMonomials ∈ zT) (hR : (zR k).frames + 1 ≤ R.frames ∧ 8 + (7 + 11) + (zR k).locals ≤ R.locals) : CallW R s args own "PolynomialDesk$Ring" index yR_listMonomials bR_listMonomials 7 none wR_listMonomials (zR k) 0 0 3 :=
  cwV 3 hts (zG_V hl mi_R_listMonomials ms_R_listMonomials mn_R mk_R_listMonomials) rfl rfl rfl (by decide +kernel) hR
theorem kw_R_recordMonomial {R : Room} {k : Nat} {s : State} {args : Array Value} {own : String} {index : Nat} {c0 : Cond} (hts : ∀ w ∈ c0 :: zT, w.before args s = true) (hl : Cond.methodLink own index yR_recordMonomial ∈ zT) (hR : (zR k).frames + 1 ≤ R.frames ∧ 8 + (4 + 11) + (zR k).locals ≤ R.locals) : CallW R s args own "PolynomialDesk$Ring" index yR_recordMonomial bR_recordMonomial 4 none wR_recordMonomial (zR k) 0 0 1 :=
  cwV 1 hts (zG_V hl mi_R_recordMonomial ms_R_recordMonomial mn_R mk_R_recordMonomial) rfl rfl rfl (by decide +kernel) hR
theorem kw_R_variables {R : Room} {k : Nat} {s : State} {args : Array Value} {own : String} {index : Nat} {c0 : Cond} (hts : ∀ w ∈ c0 :: zT, w.before args s = true) (hl : Cond.methodLink own index yR_variables ∈ zT) (hR : (zR k).frames + 1 ≤ R.frames ∧ 8 + (1 + 11) + (zR k).locals ≤ R.locals) : CallW R s args own "PolynomialDesk$Ring" index yR_variables bR_variables 1 (some .int) wR_variables (zR k) 0 0 0 :=
  cwV 0 hts (zG_V hl mi_R_variables ms_R_variables mn_R mk_R_variables) rfl rfl rfl (by decide +kernel) hR
theorem kw_R_exponentOf {R : Room} {k : Nat} {s : State} {args : Array Value} {own : String} {index : Nat} {c0 : Cond} (hts : ∀ w ∈ c0 :: zT, w.before args s = true) (hl : Cond.methodLink own index yR_exponentOf ∈ zT) (hR : (zR k).frames + 1 ≤ R.frames ∧ 8 + (3 + 11) + (zR k).locals ≤ R.locals) : CallW R s args own "PolynomialDesk$Ring" index yR_exponentOf bR_exponentOf 3 (some .int) wR_exponentOf (zR k) 0 0 2 :=
  cwV 2 hts (zG_V hl mi_R_exponentOf ms_R_exponentOf mn_R mk_R_exponentOf) rfl rfl rfl (by decide +kernel) hR
theorem kw_R_countTerms {R : Room} {k : Nat} {s : State} {args : Array Value} {own : String} {index : Nat} {c0 : Cond} (hts : ∀ w ∈ c0 :: zT, w.before args s = true) (hl : Cond.methodLink own index yR_countTerms ∈ zT) (hR : (zR k).frames + 1 ≤ R.frames ∧ 8 + (4 + 11) + (zR k).locals ≤ R.locals) : CallW R s args own "PolynomialDesk$Ring" index yR_countTerms bR_countTerms 4 (some .int) wR_countTerms (zR k) 0 0 1 :=
  cwV 1 hts (zG_V hl mi_R_countTerms ms_R_countTerms mn_R mk_R_countTerms) rfl rfl rfl (by decide +kernel) hR
theorem kw_R_indexOfTerm {R : Room} {k : Nat} {s : State} {args : Array Value} {own : String} {index : Nat} {c0 : Cond} (hts : ∀ w ∈ c0 :: zT, w.before args s = true) (hl : Cond.methodLink own index yR_indexOfTerm ∈ zT) (hR : (zR k).frames + 1 ≤ R.frames ∧ 8 + (5 + 11) + (zR k).locals ≤ R.locals) : CallW R s args own "PolynomialDesk$Ring" index yR_indexOfTerm bR_indexOfTerm 5 (some .int) wR_indexOfTerm (zR k) 0 0 2 :=
  cwV 2 hts (zG_V hl mi_R_indexOfTerm ms_R_indexOfTerm mn_R mk_R_indexOfTerm) rfl rfl rfl (by decide +kernel) hR
theorem kw_R_degreeOf {R : Room} {k : Nat} {s : State} {args : Array Value} {own : String} {index : Nat} {c0 : Cond} (hts : ∀ w ∈ c0 :: zT, w.before args s = true) (hl : Cond.methodLink own index yR_degreeOf ∈ zT) (hR : (zR k).frames + 1 ≤ R.frames ∧ 8 + (3 + 11) + (zR k).locals ≤ R.locals) : CallW R s args own "PolynomialDesk$Ring" index yR_degreeOf bR_degreeOf 3 (some .int) wR_degreeOf (zR k) 0 0 1 :=
  cwV 1 hts (zG_V hl mi_R_degreeOf ms_R_degreeOf mn_R mk_R_degreeOf) rfl rfl rfl (by decide +kernel) hR
theorem kw_R_isProductTooHigh {R : Room} {k : Nat} {s : State} {args : Array Value} {own : String} {index : Nat} {c0 : Cond} (hts : ∀ w ∈ c0 :: zT, w.before args s = true) (hl : Cond.methodLink own index yR_isProductTooHigh ∈ zT) (hR : (zR k).frames + 1 ≤ R.frames ∧ 8 + (5 + 11) + (zR k).locals ≤ R.locals) : CallW R s args own "PolynomialDesk$Ring" index yR_isProductTooHigh bR_isProductTooHigh 5 (some .boolean) wR_isProductTooHigh (zR k) 0 0 2 :=
  cwV 2 hts (zG_V hl mi_R_isProductTooHigh ms_R_isProductTooHigh mn_R mk_R_isProductTooHigh) rfl rfl rfl (by decide +kernel) hR
theorem kw_R_isPowerTooHigh {R : Room} {k : Nat} {s : State} {args : Array Value} {own : String} {index : Nat} {c0 : Cond} (hts : ∀ w ∈ c0 :: zT, w.before args s = true) (hl : Cond.methodLink own index yR_isPowerTooHigh ∈ zT) (hR : (zR k).frames + 1 ≤ R.frames ∧ 8 + (4 + 11) + (zR k).locals ≤ R.locals) : CallW R s args own "PolynomialDesk$Ring" index yR_isPowerTooHigh bR_isPowerTooHigh 4 (some .boolean) wR_isPowerTooHigh (zR k) 0 0 2 :=
  cwV 2 hts (zG_V hl mi_R_isPowerTooHigh ms_R_isPowerTooHigh mn_R mk_R_isPowerTooHigh) rfl rfl rfl (by decide +kernel) hR
theorem kw_R_writeNumber {R : Room} {k : Nat} {s : State} {args : Array Value} {own : String} {index : Nat} {c0 : Cond} (hts : ∀ w ∈ c0 :: zT, w.before args s = true) (hl : Cond.methodLink own index yR_writeNumber ∈ zT) (hR : (zR k).frames + 1 ≤ R.frames ∧ 8 + (3 + 11) + (zR k).locals ≤ R.locals) : CallW R s args own "PolynomialDesk$Ring" index yR_writeNumber bR_writeNumber 3 none wR_writeNumber (zR k) 0 0 2 :=
  cwV 2 hts (zG_V hl mi_R_writeNumber ms_R_writeNumber mn_R mk_R_writeNumber) rfl rfl rfl (by decide +kernel) hR
theorem kw_R_writeVariable {R : Room} {k : Nat} {s : State} {args : Array Value} {own : String} {index : Nat} {c0 : Cond} (hts : ∀ w ∈ c0 :: zT, w.before args s = true) (hl : Cond.methodLink own index yR_writeVariable ∈ zT) (hR : (zR k).frames + 1 ≤ R.frames ∧ 8 + (3 + 11) + (zR k).locals ≤ R.locals) : CallW R s args own "PolynomialDesk$Ring" index yR_writeVariable bR_writeVariable 3 none wR_writeVariable (zR k) 0 0 2 :=
  cwV 2 hts (zG_V hl mi_R_writeVariable ms_R_writeVariable mn_R mk_R_writeVariable) rfl rfl rfl (by decide +kernel) hR
theorem kw_R_writeCopy {R : Room} {k : Nat} {s : State} {args : Array Value} {own : String} {index : Nat} {c0 : Cond} (hts : ∀ w ∈ c0 :: zT, w.before args s = true) (hl : Cond.methodLink own index yR_writeCopy ∈ zT) (hR : (zR k).frames + 1 ≤ R.frames ∧ 8 + (3 + 11) + (zR k).locals ≤ R.locals) : CallW R s args own "PolynomialDesk$Ring" index yR_writeCopy bR_writeCopy 3 none wR_writeCopy (zR k) 0 0 2 :=
  cwV 2 hts (zG_V hl mi_R_writeCopy ms_R_writeCopy mn_R mk_R_writeCopy) rfl rfl rfl (by decide +kernel) hR
theorem kw_R_writeSum {R : Room} {k : Nat} {s : State} {args : Array Value} {own : String} {index : Nat} {c0 : Cond} (hts : ∀ w ∈ c0 :: zT, w.before args s = true) (hl : Cond.methodLink own index yR_writeSum ∈ zT) (hR : (zR k).frames + 1 ≤ R.frames ∧ 8 + (7 + 11) + (zR k).locals ≤ R.locals) : CallW R s args own "PolynomialDesk$Ring" index yR_writeSum bR_writeSum 7 none wR_writeSum (zR k) 0 0 4 :=
  cwV 4 hts (zG_V hl mi_R_writeSum ms_R_writeSum mn_R mk_R_writeSum) rfl rfl rfl (by decide +kernel) hR
theorem kw_R_writeProduct {R : Room} {k : Nat} {s : State} {args : Array Value} {own : String} {index : Nat} {c0 : Cond} (hts : ∀ w ∈ c0 :: zT, w.before args s = true) (hl : Cond.methodLink own index yR_writeProduct ∈ zT) (hR : (zR k).frames + 1 ≤ R.frames ∧ 8 + (7 + 11) + (zR k).locals ≤ R.locals) : CallW R s args own "PolynomialDesk$Ring" index yR_writeProduct bR_writeProduct 7 none wR_writeProduct (zR k) 0 0 3 :=
  cwV 3 hts (zG_V hl mi_R_writeProduct ms_R_writeProduct mn_R mk_R_writeProduct) rfl rfl rfl (by decide +kernel) hR
theorem kw_R_writePower {R : Room} {k : Nat} {s : State} {args : Array Value} {own : String} {index : Nat} {c0 : Cond} (hts : ∀ w ∈ c0 :: zT, w.before args s = true) (hl : Cond.methodLink own index yR_writePower ∈ zT) (hR : (zR k).frames + 1 ≤ R.frames ∧ 8 + (5 + 11) + (zR k).locals ≤ R.locals) : CallW R s args own "PolynomialDesk$Ring" index yR_writePower bR_writePower 5 none wR_writePower (zR k) 0 0 3 :=
  cwV 3 hts (zG_V hl mi_R_writePower ms_R_writePower mn_R mk_R_writePower) rfl rfl rfl (by decide +kernel) hR
theorem kw_R_writeDerivative {R : Room} {k : Nat} {s : State} {args : Array Value} {own : String} {index : Nat} {c0 : Cond} (hts : ∀ w ∈ c0 :: zT, w.before args s = true) (hl : Cond.methodLink own index yR_writeDerivative ∈ zT) (hR : (zR k).frames + 1 ≤ R.frames ∧ 8 + (6 + 11) + (zR k).locals ≤ R.locals) : CallW R s args own "PolynomialDesk$Ring" index yR_writeDerivative bR_writeDerivative 6 none wR_writeDerivative (zR k) 0 0 3 :=
  cwV 3 hts (zG_V hl mi_R_writeDerivative ms_R_writeDerivative mn_R mk_R_writeDerivative) rfl rfl rfl (by decide +kernel) hR
theorem kw_R_writeSubstitute {R : Room} {k : Nat} {s : State} {args : Array Value} {own : String} {index : Nat} {c0 : Cond} (hts : ∀ w ∈ c0 :: zT, w.before args s = true) (hl : Cond.methodLink own index yR_writeSubstitute ∈ zT) (hR : (zR k).frames + 1 ≤ R.frames ∧ 8 + (8 + 11) + (zR k).locals ≤ R.locals) : CallW R s args own "PolynomialDesk$Ring" index yR_writeSubstitute bR_writeSubstitute 8 none wR_writeSubstitute (zR k) 0 0 4 :=
  cwV 4 hts (zG_V hl mi_R_writeSubstitute ms_R_writeSubstitute mn_R mk_R_writeSubstitute) rfl rfl rfl (by decide +kernel) hR
theorem kw_R_evaluate {R : Room} {k : Nat} {s : State} {args : Array Value} {own : String} {index : Nat} {c0 : Cond} (hts : ∀ w ∈ c0 :: zT, w.before args s = true) (hl : Cond.methodLink own index yR_evaluate ∈ zT) (hR : (zR k).frames + 1 ≤ R.frames ∧ 8 + (7 + 11) + (zR k).locals ≤ R.locals) : CallW R s args own "PolynomialDesk$Ring" index yR_evaluate bR_evaluate 7 (some .int) wR_evaluate (zR k) 0 0 2 :=
  cwV 2 hts (zG_V hl mi_R_evaluate ms_R_evaluate mn_R mk_R_evaluate) rfl rfl rfl (by decide +kernel) hR
theorem kw_R_timesPower {R : Room} {k : Nat} {s : State} {args : Array Value} {own : String} {index : Nat} {c0 : Cond} (hts : ∀ w ∈ c0 :: zT, w.before args s = true) (hl : Cond.methodLink own index yR_timesPower ∈ zT) (hR : (zR k).frames + 1 ≤ R.frames ∧ 8 + (6 + 11) + (zR k).locals ≤ R.locals) : CallW R s args own "PolynomialDesk$Ring" index yR_timesPower bR_timesPower 6 (some .int) wR_timesPower (zR k) 0 0 3 :=
  cwV 3 hts (zG_V hl mi_R_timesPower ms_R_timesPower mn_R mk_R_timesPower) rfl rfl rfl (by decide +kernel) hR
theorem kw_R_addAt {R : Room} {k : Nat} {s : State} {args : Array Value} {own : String} {index : Nat} {c0 : Cond} (hts : ∀ w ∈ c0 :: zT, w.before args s = true) (hl : Cond.methodLink own index yR_addAt ∈ zT) (hR : (zR k).frames + 1 ≤ R.frames ∧ 8 + (5 + 11) + (zR k).locals ≤ R.locals) : CallW R s args own "PolynomialDesk$Ring" index yR_addAt bR_addAt 5 none wR_addAt (zR k) 0 0 3 :=
  cwV 3 hts (zG_V hl mi_R_addAt ms_R_addAt mn_R mk_R_addAt) rfl rfl rfl (by decide +kernel) hR
theorem kw_R_leadingOf {R : Room} {k : Nat} {s : State} {args : Array Value} {own : String} {index : Nat} {c0 : Cond} (hts : ∀ w ∈ c0 :: zT, w.before args s = true) (hl : Cond.methodLink own index yR_leadingOf ∈ zT) (hR : (zR k).frames + 1 ≤ R.frames ∧ 8 + (3 + 11) + (zR k).locals ≤ R.locals) : CallW R s args own "PolynomialDesk$Ring" index yR_leadingOf bR_leadingOf 3 (some .int) wR_leadingOf (zR k) 0 0 1 :=
  cwV 1 hts (zG_V hl mi_R_leadingOf ms_R_leadingOf mn_R mk_R_leadingOf) rfl rfl rfl (by decide +kernel) hR
theorem kw_R_reduce {R : Room} {k : Nat} {s : State} {args : Array Value} {own : String} {index : Nat} {c0 : Cond} (hts : ∀ w ∈ c0 :: zT, w.before args s = true) (hl : Cond.methodLink own index yR_reduce ∈ zT) (hR : (zR k).frames + 1 ≤ R.frames ∧ 8 + (3 + 11) + (zR k).locals ≤ R.locals) : CallW R s args own "PolynomialDesk$Ring" index yR_reduce bR_reduce 3 (some .int) wR_reduce (zR k) 0 0 1 :=
  cwV 1 hts (zG_V hl mi_R_reduce ms_R_reduce mn_R mk_R_reduce) rfl rfl rfl (by decide +kernel) hR
theorem kw_J_fill {R : Room} {k : Nat} {s : State} {args : Array Value} {own : String} {index : Nat} {c0 : Cond} (hts : ∀ w ∈ c0 :: zT, w.before args s = true) (hl : Cond.methodLink own index yJ_fill ∈ zT) (hR : (zR k).frames + 1 ≤ R.frames ∧ 8 + (4 + 11) + (zR k).locals ≤ R.locals) : CallB R s args own index yJ_fill bJ_fill 4 none wJ_fill (zR k) 0 0 2 ∧ (Cond.static yJ_fill).before args s = true :=
  va_cwS 2 hts (zG_S hl mt_J_fill mn_J mk_J_fill) rfl rfl rfl (by decide +kernel) hR
end
section
/-! numbers: remainders, counts, the first that is not 0 -/
/-- what a number is in the field of P -/
def zred (P : Nat) (x : Int32) : Nat := (x.toInt % (P : Int)).toNat
theorem ztm {y : Int} {P : Nat} (h : 0 < P) (hy : 0 ≤ y) : y.tdiv P * P + y.tmod P = y ∧ 0 ≤ y.tmod P ∧ y.tmod P < P ∧ 0 ≤ y.tdiv P * P := by
  have h1 : (P : Int) * y.tdiv P + y.tmod P = y := Int.mul_tdiv_add_tmod y P
  have h2 : 0 ≤ y.tmod P := Int.tmod_nonneg _ hy
  have h3 : y.tmod P < P := Int.tmod_lt_of_pos _ (by omega)
  have h4 : 0 ≤ y.tdiv P := Int.tdiv_nonneg hy (by omega)
  refine ⟨by rw [Int.mul_comm]; exact h1, h2, h3, Int.mul_nonneg h4 (by omega)⟩
theorem ztmx (x : Int) {P : Nat} (h : 0 < P) : x.tdiv P * P + x.tmod P = x ∧ -(P : Int) < x.tmod P ∧ x.tmod P < P ∧ (0 ≤ x → 0 ≤ x.tmod P ∧ 0 ≤ x.tdiv P * P) ∧ (x < 0 → x.tmod P ≤ 0 ∧ x.tdiv P * P ≤ 0) := by
  by_cases hx : 0 ≤ x
  · obtain ⟨a, b, c, d⟩ := ztm h hx
    exact ⟨a, by omega, c, fun _ => ⟨b, d⟩, fun h9 => by omega⟩
  · obtain ⟨a, b, c, d⟩ := ztm (y := -x) h (by omega)
    rw [Int.neg_tdiv, Int.neg_tmod] at a
    rw [Int.neg_tmod] at b c
    rw [Int.neg_tdiv, Int.neg_mul] at d
    rw [Int.neg_mul] at a
    exact ⟨by omega, by omega, by omega, fun h9 => by omega, fun _ => ⟨by omega, by omega⟩⟩
theorem zrem32 (x : Int32) {P : Nat} (h0 : 0 < P) (hP : P < 2 ^ 31) : (x - x / nI P * nI P).toInt = x.toInt.tmod P := by
  have h1 : (nI P).toInt = (P : Int) := nI_toInt hP
  have hx1 := x.toInt_lt
  have hx2 := x.le_toInt
  have hq : (x / nI P).toInt = x.toInt.tdiv P := by
    rw [Int32.toInt_div_of_ne_right _ _ (by
      intro h
      have h2 := congrArg Int32.toInt h
      rw [h1] at h2
      have h3 : (-1 : Int32).toInt = -1 := by decide
      omega), h1]
  obtain ⟨a, b, c, d, e⟩ := ztmx x.toInt h0
  have hb : -(2 : Int) ^ 31 ≤ x.toInt.tdiv P * P ∧ x.toInt.tdiv P * P < 2 ^ 31 := by
    by_cases hx : 0 ≤ x.toInt
    · have := d hx
      omega
    · have := e (by omega)
      omega
  rw [Int32.toInt_sub, Int32.toInt_mul, hq, h1, Int.bmod_eq_of_le (n := x.toInt.tdiv P * P) (by omega) (by omega), Int.bmod_eq_of_le (by omega) (by omega)]
  omega
theorem zred_of (x : Int32) {P : Nat} (h0 : 0 < P) {r : Int} (hr : r = if x.toInt.tmod P < 0 then x.toInt.tmod P + P else x.toInt.tmod P) : r = (zred P x : Int) := by
  obtain ⟨a, b, c, d, e⟩ := ztmx x.toInt h0
  have hr0 : 0 ≤ r ∧ r < P := by
    by_cases h : x.toInt.tmod P < 0
    · rw [if_pos h] at hr
      omega
    · rw [if_neg h] at hr
      omega
  have hk : ∃ k : Int, x.toInt = r + P * k := by
    by_cases h : x.toInt.tmod P < 0
    · rw [if_pos h] at hr
      refine ⟨x.toInt.tdiv P - 1, ?_⟩
      rw [Int.mul_sub, Int.mul_comm]
      omega
    · rw [if_neg h] at hr
      refine ⟨x.toInt.tdiv P, ?_⟩
      rw [Int.mul_comm]
      omega
  obtain ⟨k, hk⟩ := hk
  have h1 : x.toInt % (P : Int) = r := by
    rw [hk, Int.add_mul_emod_self_left]
    exact Int.emod_eq_of_lt hr0.1 hr0.2
  unfold zred
  rw [h1]
  omega
theorem zred_lt (x : Int32) {P : Nat} (h0 : 0 < P) : zred P x < P := by
  have h1 := Int.emod_nonneg x.toInt (b := (P : Int)) (by omega)
  have h2 := Int.emod_lt_of_pos x.toInt (b := (P : Int)) (by omega)
  unfold zred
  omega
theorem zred_nI {P a : Nat} (ha : a < 2 ^ 31) : zred P (nI a) = a % P := by
  unfold zred
  rw [nI_toInt ha]
  rfl
/-- how many of the first n are not 0 -/
def zcnt (g : Nat → Int32) : Nat → Nat
  | 0 => 0
  | n + 1 => zcnt g n + (if g n = 0 then 0 else 1)
theorem zcnt_le (g : Nat → Int32) (n : Nat) : zcnt g n ≤ n := by
  induction n with
  | zero => exact Nat.le_refl 0
  | succ n ih =>
    simp only [zcnt]
    split <;> omega
theorem zcnt_congr {g g' : Nat → Int32} {n : Nat} (h : ∀ i, i < n → g i = g' i) : zcnt g n = zcnt g' n := by
  induction n with
  | zero => rfl
  | succ n ih =>
    simp only [zcnt]
    rw [ih (fun i hi => h i (by omega)), h n (by omega)]
/-- the first place from i on, of n places, where g is not 0; i + n if there is none -/
def zfst (g : Nat → Int32) : Nat → Nat → Nat
  | i, 0 => i
  | i, n + 1 => if g i = 0 then zfst g (i + 1) n else i
theorem zfst_in (g : Nat → Int32) : ∀ (n i : Nat), i ≤ zfst g i n ∧ zfst g i n ≤ i + n
  | 0, i => ⟨Nat.le_refl _, Nat.le_refl _⟩
  | n + 1, i => by
    simp only [zfst]
    split
    · have := zfst_in g n (i + 1)
      omega
    · omega
theorem zfst_congr {g g' : Nat → Int32} : ∀ (n i : Nat), (∀ j, i ≤ j → j < i + n → g j = g' j) → zfst g i n = zfst g' i n
  | 0, _, _ => rfl
  | n + 1, i, h => by
    simp only [zfst]
    rw [h i (Nat.le_refl i) (by omega), zfst_congr n (i + 1) (fun j h1 h2 => h j (by omega) (by omega))]
/-- where the term number t (counted from there on) stands, from i on, of n places -/
def zith (g : Nat → Int32) : Int → Nat → Nat → Option Nat
  | _, _, 0 => none
  | t, i, n + 1 => if g i = 0 then zith g t (i + 1) n else if t = 0 then some i else zith g (t - 1) (i + 1) n
theorem zith_congr {g g' : Nat → Int32} : ∀ (n i : Nat) (t : Int), (∀ j, i ≤ j → j < i + n → g j = g' j) → zith g t i n = zith g' t i n
  | 0, _, _, _ => rfl
  | n + 1, i, t, h => by
    simp only [zith]
    rw [h i (Nat.le_refl i) (by omega), zith_congr n (i + 1) t (fun j h1 h2 => h j (by omega) (by omega)), zith_congr n (i + 1) (t - 1) (fun j h1 h2 => h j (by omega) (by omega))]
theorem zith_in {g : Nat → Int32} : ∀ (n i : Nat) (t : Int) (k : Nat), zith g t i n = some k → i ≤ k ∧ k < i + n
  | 0, _, _, _, h => by cases h
  | n + 1, i, t, k, h => by
    simp only [zith] at h
    split at h
    · have := zith_in n (i + 1) t k h
      omega
    · split at h
      · cases h
        omega
      · have := zith_in n (i + 1) (t - 1) k h
        omega
theorem vin {i n : Nat} (h : i < n) (hn : n < 2 ^ 31) : vp_in (nI i) n := vp_in_nI h hn
theorem ncl {i : Nat} (h : i < 2 ^ 31) : (nI i).toNatClampNeg = i := nI_clamp h
end
section
theorem zred_hi {P : Nat} {x q : Int32} (h0 : 0 < P) (hP : P < 2 ^ 31) (hq : q = x - x / nI P * nI P) (h : 0 ≤ q) : q = nI (zred P x) := by
  have h1 : q.toInt = x.toInt.tmod P := by rw [hq]; exact zrem32 x h0 hP
  have h2 : 0 ≤ q.toInt := by simpa using Int32.le_iff_toInt_le.mp h
  have h3 := zred_of x h0 (r := q.toInt) (by rw [h1] at h2 ⊢; rw [if_neg (by omega)])
  have h4 := zred_lt x h0
  apply Int32.toInt_inj.mp
  rw [h3, nI_toInt (by omega)]
theorem zred_lo {P : Nat} {x q : Int32} (h0 : 0 < P) (hP : P < 2 ^ 31) (hq : q = x - x / nI P * nI P) (h : ¬ 0 ≤ q) : q + nI P = nI (zred P x) := by
  have h1 : q.toInt = x.toInt.tmod P := by rw [hq]; exact zrem32 x h0 hP
  have h2 : q.toInt < 0 := by
    have := Int32.le_iff_toInt_le (x := 0) (y := q)
    rw [this] at h
    simpa using h
  have h3 := zred_of x h0 (r := q.toInt + P) (by rw [h1] at h2 ⊢; rw [if_pos (by omega)])
  have h4 := zred_lt x h0
  obtain ⟨a, b, c, d, e⟩ := ztmx x.toInt h0
  apply Int32.toInt_inj.mp
  rw [Int32.toInt_add, nI_toInt hP, Int.bmod_eq_of_le (by omega) (by omega), h3, nI_toInt (by omega)]

set_option maxHeartbeats 4000000 in
set_option maxRecDepth 100000 in
theorem c_R_reduce (l : Launch) {G : zG} {ad : Nat → Nat} {w : Nat → Option va_E} (F : Nat → Int32) (h1 : w 1 = some (oR ad F)) (P : Nat) (x : Int32) (hF : F 0 = nI P) (hP : 2 ≤ P) (hP2 : P < 2 ^ 31) : Met l yR_reduce wR_reduce (zR (1)) (va_Pc [.ref (ad 1), .int x] (zw_U G ad w)) (va_Qi (S := Nat → Option va_E) (fun r w' => r = nI (zred P x) ∧ w' = w) (fun u t => zw_U G ((fun _ => ad) u) ((fun w' => w') u) t) (zA G)) 0 0 (zA G) := by
  refine zw_methi (S := Nat → Option va_E) (fa := fun _ => ad) (fw := fun w' => w') (by decide) rfl (Nat.le_of_ble_eq_true rfl) ?_
  intro p e s m below meth c Q ls C hname Z hl hret
  obtain ⟨hx, hb, hml, hown, hts, hlk⟩ := C
  have hT : ∀ w ∈ zT, w.before ([.ref (ad 1), .int x] : List Value).toArray s = true := fun w h => hts w (List.mem_cons_of_mem _ h)
  have hown : s.vm.findClass "PolynomialDesk$Ring" = some m.cls := hown
  have hl : lv_has ls 3 [(0, .ref (ad 1)), (1, .int x)] := hl
  refine lv_aload_n hx hb dR_reduce_0 rfl (lv_at hl 0 rfl) ?_
  refine zw_get (v := .int (F 0)) hx hb hT uR hown Z h1 rfl 0 (by decide) (hT _ mf_R_38) (fun _ h9 => h9) rfl dR_reduce_1 ?_
  refine lv_iconst (v := 2) hx hb dR_reduce_4 (by decide) ?_
  refine lv_icmp_ge (tgt := 10) hx hb dR_reduce_5 (by decide) (fun _ => ?_) (fun hc => absurd (show 2 ≤ (F 0) from by rw [hF]; exact nI_le (a := 2) hP hP2) hc)
  refine lv_iload_n hx hb dR_reduce_10 rfl (lv_at hl 1 rfl) ?_
  refine lv_aload_n hx hb dR_reduce_11 rfl (lv_at hl 0 rfl) ?_
  refine zw_get (v := .int (F 0)) hx hb hT uR hown Z h1 rfl 0 (by decide) (hT _ mf_R_38) (fun _ h9 => h9) rfl dR_reduce_12 ?_
  refine lv_irem hx hb dR_reduce_15 (by rw [hF]; exact nI_ne0 (by omega) hP2) ?_
  refine lv_topi (fun q hq => ?_)
  rw [hF] at hq
  refine lv_istore_n (lv' := [(2, .int q), (0, .ref (ad 1)), (1, .int x)]) hx hb dR_reduce_16 rfl hl (by decide) rfl (fun ls hl => ?_)
  refine lv_iload_n hx hb dR_reduce_17 rfl (lv_at hl 0 rfl) ?_
  refine lv_if_ge (tgt := 30) hx hb dR_reduce_18 (by decide) (fun hc => ?_) (fun hc => ?_)
  · refine lv_iload_n hx hb dR_reduce_30 rfl (lv_at hl 0 rfl) ?_
    exact hret _ _ _ _ _ _ dR_reduce_31 (⟨zred_hi (by omega) hP2 hq hc, rfl⟩) Z
  · refine lv_iload_n hx hb dR_reduce_21 rfl (lv_at hl 0 rfl) ?_
    refine lv_aload_n hx hb dR_reduce_22 rfl (lv_at hl 1 rfl) ?_
    refine zw_get (v := .int (F 0)) hx hb hT uR hown Z h1 rfl 0 (by decide) (hT _ mf_R_38) (fun _ h9 => h9) rfl dR_reduce_23 ?_
    refine lv_iadd hx hb dR_reduce_26 ?_
    refine lv_goto (tgt := 31) hx hb dR_reduce_27 (by decide) ?_
    refine zw_top (nI (zred P x)) (by rw [hF]; exact zred_lo (by omega) hP2 hq hc) ?_
    exact hret _ _ _ _ _ _ dR_reduce_31 (⟨rfl, rfl⟩) Z

set_option maxHeartbeats 4000000 in
set_option maxRecDepth 100000 in
theorem c_R_variables (l : Launch) {G : zG} {ad : Nat → Nat} {w : Nat → Option va_E} (F : Nat → Int32) (h1 : w 1 = some (oR ad F)) : Met l yR_variables wR_variables (zR (1)) (va_Pc [.ref (ad 1)] (zw_U G ad w)) (va_Qi (S := Nat → Option va_E) (fun r w' => r = F 1 ∧ w' = w) (fun u t => zw_U G ((fun _ => ad) u) ((fun w' => w') u) t) (zA G)) 0 0 (zA G) := by
  refine zw_methi (S := Nat → Option va_E) (fa := fun _ => ad) (fw := fun w' => w') (by decide) rfl (Nat.le_of_ble_eq_true rfl) ?_
  intro p e s m below meth c Q ls C hname Z hl hret
  obtain ⟨hx, hb, hml, hown, hts, hlk⟩ := C
  have hT : ∀ w ∈ zT, w.before ([.ref (ad 1)] : List Value).toArray s = true := fun w h => hts w (List.mem_cons_of_mem _ h)
  have hown : s.vm.findClass "PolynomialDesk$Ring" = some m.cls := hown
  have hl : lv_has ls 1 [(0, .ref (ad 1))] := hl
  refine lv_aload_n hx hb dR_variables_0 rfl (lv_at hl 0 rfl) ?_
  refine zw_get (v := .int (F 1)) hx hb hT uR hown Z h1 rfl 1 (by decide) (hT _ mf_R_42) (fun _ h9 => h9) rfl dR_variables_1 ?_
  exact hret _ _ _ _ _ _ dR_variables_4 (⟨rfl, rfl⟩) Z

set_option maxHeartbeats 4000000 in
set_option maxRecDepth 100000 in
theorem c_R_leadingOf (l : Launch) {G : zG} {ad : Nat → Nat} {w : Nat → Option va_E} (F : Nat → Int32) (h1 : w 1 = some (oR ad F)) (a : Nat) (g : Nat → Int32) (ct : Nat) (ha : w a = some (zi G 126 g)) (hF : F 4 = nI ct) (hc : ct ≤ 126) : Met l yR_leadingOf wR_leadingOf (zR (1)) (va_Pc [.ref (ad 1), .ref (ad a)] (zw_U G ad w)) (va_Qi (S := Nat → Option va_E) (fun r w' => r = nI (zfst g 0 ct) ∧ w' = w) (fun u t => zw_U G ((fun _ => ad) u) ((fun w' => w') u) t) (zA G)) 0 0 (zA G) := by
  refine zw_methi (S := Nat → Option va_E) (fa := fun _ => ad) (fw := fun w' => w') (by decide) rfl (Nat.le_of_ble_eq_true rfl) ?_
  intro p e s m below meth c Q ls C hname Z hl hret
  obtain ⟨hx, hb, hml, hown, hts, hlk⟩ := C
  have hT : ∀ w ∈ zT, w.before ([.ref (ad 1), .ref (ad a)] : List Value).toArray s = true := fun w h => hts w (List.mem_cons_of_mem _ h)
  have hown : s.vm.findClass "PolynomialDesk$Ring" = some m.cls := hown
  have hl : lv_has ls 3 [(0, .ref (ad 1)), (1, .ref (ad a))] := hl
  refine lv_iconst (v := 0) hx hb dR_leadingOf_0 (by decide) ?_
  refine lv_istore_n (lv' := [(2, .int 0), (0, .ref (ad 1)), (1, .ref (ad a))]) hx hb dR_leadingOf_1 rfl hl (by decide) rfl (fun ls hl => ?_)
  have loop : ∀ (n i : Nat) (ls : Array Slot), lv_has ls 3 [(2, .int (nI i)), (0, .ref (ad 1)), (1, .ref (ad a))] → i + n = ct → zfst g i n = zfst g 0 ct → W p l e (zR (1)) s m ([.ref (ad 1), .ref (ad a)] : List Value).toArray below meth c s.heap [] 0 0 Q (F0 m 2 ls []) := by
    intro n
    induction n with
    | zero =>
      intro i ls hl hi hz
      refine lv_iload_n hx hb dR_leadingOf_2 rfl (lv_at hl 0 rfl) ?_
      refine lv_aload_n hx hb dR_leadingOf_3 rfl (lv_at hl 1 rfl) ?_
      refine zw_get (v := .int (F 4)) hx hb hT uR hown Z h1 rfl 4 (by decide) (hT _ mf_R_54) (fun _ h9 => h9) rfl dR_leadingOf_4 ?_
      refine lv_icmp_ge (tgt := 22) hx hb dR_leadingOf_7 (by decide) (fun _ => ?_) (fun hc => absurd (show (F 4) ≤ (nI i) from by rw [hF]; exact nI_le (by omega) (by omega)) hc)
      refine lv_iload_n hx hb dR_leadingOf_22 rfl (lv_at hl 0 rfl) ?_
      exact hret _ _ _ _ _ _ dR_leadingOf_23 (⟨by rw [← hz]; rfl, rfl⟩) Z
    | succ n ih =>
      intro i ls hl hi hz
      refine lv_iload_n hx hb dR_leadingOf_2 rfl (lv_at hl 0 rfl) ?_
      refine lv_aload_n hx hb dR_leadingOf_3 rfl (lv_at hl 1 rfl) ?_
      refine zw_get (v := .int (F 4)) hx hb hT uR hown Z h1 rfl 4 (by decide) (hT _ mf_R_54) (fun _ h9 => h9) rfl dR_leadingOf_4 ?_
      refine lv_icmp_ge (tgt := 22) hx hb dR_leadingOf_7 (by decide) (fun hc => absurd hc (show ¬ ((F 4) ≤ (nI i)) from by rw [hF]; exact nI_ge (by omega) (by omega))) (fun _ => ?_)
      refine lv_aload_n hx hb dR_leadingOf_10 rfl (lv_at hl 2 rfl) ?_
      refine lv_iload_n hx hb dR_leadingOf_11 rfl (lv_at hl 0 rfl) ?_
      refine zw_iald hx hb Z ha (vin (by omega) (by omega)) dR_leadingOf_12 ?_
      refine zw_top (g i) (by rw [ncl (by omega)]) ?_
      refine lv_if_ne (tgt := 22) hx hb dR_leadingOf_13 (by decide) (fun hq => ?_) (fun hq => ?_)
      · refine lv_iload_n hx hb dR_leadingOf_22 rfl (lv_at hl 0 rfl) ?_
        exact hret _ _ _ _ _ _ dR_leadingOf_23 (⟨by rw [← hz, zfst, if_neg hq], rfl⟩) Z
      · refine lv_iinc (v := (nI (i + 1))) (lv' := [(2, .int (nI (i + 1))), (0, .ref (ad 1)), (1, .ref (ad a))]) hx hb dR_leadingOf_16 hl (k := 0) rfl (nI_1 i) (by decide) rfl (fun ls hl => ?_)
        refine lv_goto (tgt := 2) hx hb dR_leadingOf_19 (by decide) ?_
        exact ih (i + 1) ls hl (by omega) (by rw [← hz, zfst, if_pos hq])
  exact loop ct 0 ls hl (by omega) rfl
end
section
theorem upd_nI (A : Nat → Nat) (k v : Nat) : upd (fun j => nI (A j)) k (nI v) = fun j => nI (va_up A k v j) := by
  funext j
  by_cases h : j = k
  · subst h
    simp [upd, va_up]
  · simp [upd, va_up, h]
section ZWP
variable {p : Program} {l : Launch} {e : Env} {R : Room} {s : State} {m : MethodId} {args : Array Value} {below : List Frame} {meth : Method} {c : Code} {H : Heap} {locs : List Loc} {cells slots : Nat} {Q : State → Prop} {cc : ByteArray} {pc : Nat} {ls : Array Slot} {rest : List Value} {G : zG} {ad : Nat → Nat} {w : Nat → Option va_E}
/-- System.arraycopy of a whole int row to another -/
theorem zw_copy (hexec : p.tables.exec = Jvm.exec) (hb : c.code = cc) (hml : c.maxLocals = ls.size) {own : String} {index : Nat} (hown : s.vm.findClass own = some m.cls) (hlink : (Cond.methodLink own index arraycopyName).before args s = true) (hnat : (Cond.native arraycopyName).before args s = true) (hstat : (Cond.static arraycopyName).before args s = true) (hini : (Cond.initialized "java/lang/System").before args s = true)
    (Z : zw G ad w s H locs) {k0 k1 n : Nat} {f g : Nat → Int32} (h0 : w k0 = some (zi G n f)) (h1 : w k1 = some (zi G n g)) (hn : n < 2 ^ 31)
    (hframes : 1 ≤ R.frames) (hlocals : (rest.map fun v => v.category).sum + (nativeFrameWords "java/lang/System" "arraycopy" 5 + 11) ≤ R.locals) (hdg : decode cc pc = .ok (.invokestatic index, 3))
    (kk : ∀ (H1 : Heap) (locs1 : List Loc), zw G ad (va_up w k1 (some (zi G n f))) s H1 locs1 → W p l e R s m args below meth c H1 locs1 cells slots Q (F0 m (pc + 3) ls rest)) : W p l e R s m args below meth c H locs cells slots Q (F0 m pc ls (.int (nI n) :: .int 0 :: .ref (ad k1) :: .int 0 :: .ref (ad k0) :: rest)) := by
  intro T hT X
  have hc0 : H[ad k0]? = some (vp_cell (G.2.1 0) (n, .inl f)) := (Z.2.1.1 k0 _ h0).1
  have hc1 : H[ad k1]? = some (vp_cell (G.2.1 0) (n, .inl g)) := (Z.2.1.1 k1 _ h1).1
  obtain ⟨-, k0', hk0, cm0, hkk0⟩ := (Z.1.2 0 _ rfl).1 n (fun j => .int (f j))
  obtain ⟨-, k1', hk1, cm1, hkk1⟩ := (Z.1.2 0 _ rfl).1 n (fun j => .int (g j))
  have z0 : (0 : Int32).toNatClampNeg = 0 := by decide
  have zn : (nI n).toNatClampNeg = n := nI_clamp hn
  have y0 : (0 : Int32).toInt = 0 := by decide
  obtain ⟨vm', X', step⟩ := X.arraycopy hexec hown hlink hnat hstat hini (src := ad k0) (dst := ad k1) (cs := vp_cell (G.2.1 0) (n, .inl f)) (cd := vp_cell (G.2.1 0) (n, .inl g)) (srcPos := 0) (destPos := 0) (n := nI n) (by rw [hT]; exact hc0) (by rw [hT]; exact hc1)
    (fun _ h => by cases h) (fun _ h => by cases h) (fun h => by cases h) (fun h => by cases h) hk0 hk1 hkk0 hkk1 (by simp [refKind]) (by decide) (by decide) (nI_pos hn)
    (by rw [nI_toInt hn, y0]; show ¬ _ > ((arrV (G.2.1 0) n (fun j => .int (f j))).slots.size : Int); rw [arrV_size]; omega)
    (by rw [nI_toInt hn, y0]; show ¬ _ > ((arrV (G.2.1 0) n (fun j => .int (g j))).slots.size : Int); rw [arrV_size]; omega)
    (fun vm₁ _ i hi => by
      rw [zn] at hi
      have e : (vp_cell (G.2.1 0) (n, .inl f)).slots.getD ((0 : Int32).toNatClampNeg + i) .null = .int (f i) := by
        show (arrV (G.2.1 0) n (fun j => .int (f j))).slots.getD _ _ = _
        rw [z0, Nat.zero_add, Array.getD_eq_getD_getElem?, arrV_read _ _ hi]
        rfl
      refine ⟨?_, ?_⟩
      · rw [e]
        rfl
      · rw [e]
        exact trivial)
    (g := F0 m pc ls (.int (nI n) :: .int 0 :: .ref (ad k1) :: .int 0 :: .ref (ad k0) :: rest)) rfl (by rw [hml]) (rest := rest) rfl (by rw [hb]; exact hdg) hframes (by show 2 * 0 + _ + _ ≤ _; omega)
  have e1 : copied (vp_cell (G.2.1 0) (n, .inl f)) (vp_cell (G.2.1 0) (n, .inl g)) 0 0 (nI n) = vp_cell (G.2.1 0) (n, .inl f) := by
    have h := va_copied (fun z : Int32 => Value.int z) (G.2.1 0) (G.2.1 0) (n0 := n) (n1 := n) (sp := 0) (dp := 0) (n := n) f g (by omega)
    have h2 : copied (vp_cell (G.2.1 0) (n, .inl f)) (vp_cell (G.2.1 0) (n, .inl g)) 0 0 (nI n) = (arrV (G.2.1 0) n (fun j => .int (g j))).storeRun 0 ((arrV (G.2.1 0) n (fun j => .int (f j))).stretch 0 n) := by
      unfold copied
      rw [z0, zn]
      rfl
    rw [h2, h, vp_cell_i]
    exact arrV_ext_z (fun j hj => by simp [va_cpy, hj])
  rw [e1] at X' step
  have hl : ad k1 < H.size := (Array.getElem?_eq_some_iff.mp hc1).1
  have hheap : ((T.setVm vm').setCell (ad k1) (vp_cell (G.2.1 0) (n, .inl f))).heap = H.setIfInBounds (ad k1) (vp_cell (G.2.1 0) (n, .inl f)) := by rw [← hT]; rfl
  have oq : ∀ q : Nat, q ≠ ad k1 → (H.setIfInBounds (ad k1) (vp_cell (G.2.1 0) (n, .inl f)))[q]? = H[q]? := fun q hq => by simp [Array.getElem?_setIfInBounds, Ne.symm hq]
  obtain ⟨t, a1, b1⟩ := kk _ _ ⟨Z.1, Z.2.1.set h1 (show (H.setIfInBounds (ad k1) _)[ad k1]? = some _ by simp [Array.getElem?_setIfInBounds, hl]) oq, ⟨by simp; exact Z.2.2.1.1, fun q g1 g2 => by
      rw [oq q (fun e => g2 (by rw [e]; exact (Z.2.1.1 k1 _ h1).2))]
      exact Z.2.2.1.2.1 q g1 g2, fun q hq => by
      rcases List.mem_append.mp hq with h | h
      · exact Z.2.2.1.2.2 q h
      · obtain ⟨z, -, hz⟩ := List.mem_map.mp h
        rw [← hz]
        exact (Z.2.1.1 k1 _ h1).2⟩, Z.2.2.2⟩ _ hheap X'
  exact ⟨t, step t a1, b1⟩
end ZWP

set_option maxHeartbeats 4000000 in
set_option maxRecDepth 100000 in
theorem c_J_fill (l : Launch) {G : zG} {ad : Nat → Nat} {w : Nat → Option va_E} (a n : Nat) (f : Nat → Int32) (v : Int32) (ha : w a = some (zi G n f)) (hn : n < 2 ^ 31) : Met l yJ_fill wJ_fill (zR (1)) (va_Pc [.ref (ad a), .int v] (zw_U G ad w)) (va_Qv (S := Nat → Option va_E) (fun w' => w' = va_up w a (some (zi G n (fun _ => v)))) (fun u t => zw_U G ((fun _ => ad) u) ((fun w' => w') u) t) (zA G)) 0 0 (zA G) := by
  refine zw_methv (S := Nat → Option va_E) (fa := fun _ => ad) (fw := fun w' => w') (by decide) rfl (Nat.le_of_ble_eq_true rfl) ?_
  intro p e s m below meth c Q ls C hname Z hl hret
  obtain ⟨hx, hb, hml, hown, hts, hlk⟩ := C
  have hT : ∀ w ∈ zT, w.before ([.ref (ad a), .int v] : List Value).toArray s = true := fun w h => hts w (List.mem_cons_of_mem _ h)
  have hown : s.vm.findClass "java/util/Arrays" = some m.cls := hown
  have hl : lv_has ls 4 [(0, .ref (ad a)), (1, .int v)] := hl
  refine lv_iconst (v := 0) hx hb dJ_fill_0 (by decide) ?_
  refine lv_istore_n (lv' := [(2, .int 0), (0, .ref (ad a)), (1, .int v)]) hx hb dJ_fill_1 rfl hl (by decide) rfl (fun ls hl => ?_)
  refine lv_aload_n hx hb dJ_fill_2 rfl (lv_at hl 1 rfl) ?_
  refine zw_alen (v := nI n) hx hb Z 0 ha rfl rfl dJ_fill_3 ?_
  refine lv_istore_n (lv' := [(3, .int (nI n)), (2, .int 0), (0, .ref (ad a)), (1, .int v)]) hx hb dJ_fill_4 rfl hl (by decide) rfl (fun ls hl => ?_)
  have loop : ∀ (k i : Nat) (H : Heap) (locs : List Loc) (ls : Array Slot), i + k = n → zw G ad (va_up w a (some (zi G n (fun j => if j < i then v else f j)))) s H locs → lv_has ls 4 [(3, .int (nI n)), (2, .int (nI i)), (0, .ref (ad a)), (1, .int v)] → W p l e (zR (1)) s m ([.ref (ad a), .int v] : List Value).toArray below meth c H locs 0 0 Q (F0 m 5 ls []) := by
    intro k
    induction k with
    | zero =>
      intro i H locs ls hi Z hl
      have hw : (va_up w a (some (zi G n (fun j => if j < i then v else f j)))) a = some (zi G n (fun j => if j < i then v else f j)) := va_up_self _ _ _
      refine lv_iload_n hx hb dJ_fill_5 rfl (lv_at hl 1 rfl) ?_
      refine lv_iload_n hx hb dJ_fill_6 rfl (lv_at hl 0 rfl) ?_
      refine lv_icmp_ge (tgt := 20) hx hb dJ_fill_7 (by decide) (fun _ => ?_) (fun hc => absurd (show (nI n) ≤ (nI i) from nI_le (by omega) (by omega)) hc)
      have Z := Z.ext hw (f' := fun _ => v) (fun j hj => if_pos (by omega))
      rw [bx_uu] at Z
      exact hret _ _ _ _ _ dJ_fill_20 (rfl) Z
    | succ k ih =>
      intro i H locs ls hi Z hl
      have hw : (va_up w a (some (zi G n (fun j => if j < i then v else f j)))) a = some (zi G n (fun j => if j < i then v else f j)) := va_up_self _ _ _
      refine lv_iload_n hx hb dJ_fill_5 rfl (lv_at hl 1 rfl) ?_
      refine lv_iload_n hx hb dJ_fill_6 rfl (lv_at hl 0 rfl) ?_
      refine lv_icmp_ge (tgt := 20) hx hb dJ_fill_7 (by decide) (fun hc => absurd hc (show ¬ ((nI n) ≤ (nI i)) from nI_ge (by omega) (by omega))) (fun _ => ?_)
      refine lv_aload_n hx hb dJ_fill_10 rfl (lv_at hl 2 rfl) ?_
      refine lv_iload_n hx hb dJ_fill_11 rfl (lv_at hl 1 rfl) ?_
      refine lv_iload_n hx hb dJ_fill_12 rfl (lv_at hl 3 rfl) ?_
      refine zw_iast hx hb Z hw (vin (by omega) hn) dJ_fill_13 (fun H locs Z => ?_)
      have Z := Z.ext (va_up_self _ _ _) (f' := fun j => if j < i + 1 then v else f j) (fun j hj => by
        rw [ncl (by omega)]
        by_cases h : j = i
        · subst h
          simp [upd]
        · simp only [upd, h, if_false]
          by_cases h2 : j < i
          · rw [if_pos h2, if_pos (by omega)]
          · rw [if_neg h2, if_neg (by omega)])
      rw [bx_uu, bx_uu] at Z
      refine lv_iinc (v := (nI (i + 1))) (lv' := [(2, .int (nI (i + 1))), (3, .int (nI n)), (0, .ref (ad a)), (1, .int v)]) hx hb dJ_fill_14 hl (k := 1) rfl (nI_1 i) (by decide) rfl (fun ls hl => ?_)
      refine lv_goto (tgt := 5) hx hb dJ_fill_17 (by decide) ?_
      exact ih (i + 1) _ _ ls (by omega) Z (lv_sub hl [1, 0, 2, 3] rfl)
  have Z := Z.ext ha (f' := fun j => if j < 0 then v else f j) (fun j _ => (if_neg (Nat.not_lt_zero j)).symm)
  exact loop n 0 _ _ ls (by omega) Z hl

set_option maxHeartbeats 4000000 in
set_option maxRecDepth 100000 in
theorem c_R_countTerms (l : Launch) {G : zG} {ad : Nat → Nat} {w : Nat → Option va_E} (F : Nat → Int32) (h1 : w 1 = some (oR ad F)) (a : Nat) (g : Nat → Int32) (ct : Nat) (ha : w a = some (zi G 126 g)) (hF : F 4 = nI ct) (hc : ct ≤ 126) : Met l yR_countTerms wR_countTerms (zR (1)) (va_Pc [.ref (ad 1), .ref (ad a)] (zw_U G ad w)) (va_Qi (S := Nat → Option va_E) (fun r w' => r = nI (zcnt g ct) ∧ w' = w) (fun u t => zw_U G ((fun _ => ad) u) ((fun w' => w') u) t) (zA G)) 0 0 (zA G) := by
  refine zw_methi (S := Nat → Option va_E) (fa := fun _ => ad) (fw := fun w' => w') (by decide) rfl (Nat.le_of_ble_eq_true rfl) ?_
  intro p e s m below meth c Q ls C hname Z hl hret
  obtain ⟨hx, hb, hml, hown, hts, hlk⟩ := C
  have hT : ∀ w ∈ zT, w.before ([.ref (ad 1), .ref (ad a)] : List Value).toArray s = true := fun w h => hts w (List.mem_cons_of_mem _ h)
  have hown : s.vm.findClass "PolynomialDesk$Ring" = some m.cls := hown
  have hl : lv_has ls 4 [(0, .ref (ad 1)), (1, .ref (ad a))] := hl
  refine lv_iconst (v := 0) hx hb dR_countTerms_0 (by decide) ?_
  refine lv_istore_n (lv' := [(2, .int 0), (0, .ref (ad 1)), (1, .ref (ad a))]) hx hb dR_countTerms_1 rfl hl (by decide) rfl (fun ls hl => ?_)
  refine lv_iconst (v := 0) hx hb dR_countTerms_2 (by decide) ?_
  refine lv_istore_n (lv' := [(3, .int 0), (2, .int 0), (0, .ref (ad 1)), (1, .ref (ad a))]) hx hb dR_countTerms_3 rfl hl (by decide) rfl (fun ls hl => ?_)
  have loop : ∀ (n i : Nat) (ls : Array Slot), lv_has ls 4 [(3, .int (nI i)), (2, .int (nI (zcnt g i))), (0, .ref (ad 1)), (1, .ref (ad a))] → i + n = ct → W p l e (zR (1)) s m ([.ref (ad 1), .ref (ad a)] : List Value).toArray below meth c s.heap [] 0 0 Q (F0 m 4 ls []) := by
    intro n
    induction n with
    | zero =>
      intro i ls hl hi
      refine lv_iload_n hx hb dR_countTerms_4 rfl (lv_at hl 0 rfl) ?_
      refine lv_aload_n hx hb dR_countTerms_5 rfl (lv_at hl 2 rfl) ?_
      refine zw_get (v := .int (F 4)) hx hb hT uR hown Z h1 rfl 4 (by decide) (hT _ mf_R_54) (fun _ h9 => h9) rfl dR_countTerms_6 ?_
      refine lv_icmp_ge (tgt := 27) hx hb dR_countTerms_9 (by decide) (fun _ => ?_) (fun hc => absurd (show (F 4) ≤ (nI i) from by rw [hF]; exact nI_le (by omega) (by omega)) hc)
      refine lv_iload_n hx hb dR_countTerms_27 rfl (lv_at hl 1 rfl) ?_
      exact hret _ _ _ _ _ _ dR_countTerms_28 (⟨by rw [show i = ct by omega], rfl⟩) Z
    | succ n ih =>
      intro i ls hl hi
      refine lv_iload_n hx hb dR_countTerms_4 rfl (lv_at hl 0 rfl) ?_
      refine lv_aload_n hx hb dR_countTerms_5 rfl (lv_at hl 2 rfl) ?_
      refine zw_get (v := .int (F 4)) hx hb hT uR hown Z h1 rfl 4 (by decide) (hT _ mf_R_54) (fun _ h9 => h9) rfl dR_countTerms_6 ?_
      refine lv_icmp_ge (tgt := 27) hx hb dR_countTerms_9 (by decide) (fun hc => absurd hc (show ¬ ((F 4) ≤ (nI i)) from by rw [hF]; exact nI_ge (by omega) (by omega))) (fun _ => ?_)
      refine lv_aload_n hx hb dR_countTerms_12 rfl (lv_at hl 3 rfl) ?_
      refine lv_iload_n hx hb dR_countTerms_13 rfl (lv_at hl 0 rfl) ?_
      refine zw_iald hx hb Z ha (vin (by omega) (by omega)) dR_countTerms_14 ?_
      refine zw_top (g i) (by rw [ncl (by omega)]) ?_
      refine lv_if_eq (tgt := 21) hx hb dR_countTerms_15 (by decide) (fun hq => ?_) (fun hq => ?_)
      · refine lv_iinc (v := (nI (i + 1))) (lv' := [(3, .int (nI (i + 1))), (2, .int (nI (zcnt g i))), (0, .ref (ad 1)), (1, .ref (ad a))]) hx hb dR_countTerms_21 hl (k := 0) rfl (nI_1 i) (by decide) rfl (fun ls hl => ?_)
        refine lv_goto (tgt := 4) hx hb dR_countTerms_24 (by decide) ?_
        exact ih (i + 1) ls (by rw [show zcnt g (i + 1) = zcnt g i by simp [zcnt, hq]]; exact lv_sub hl [0, 1, 2, 3] rfl) (by omega)
      · refine lv_iinc (v := (nI ((zcnt g i) + 1))) (lv' := [(2, .int (nI ((zcnt g i) + 1))), (3, .int (nI i)), (0, .ref (ad 1)), (1, .ref (ad a))]) hx hb dR_countTerms_18 hl (k := 1) rfl (nI_1 (zcnt g i)) (by decide) rfl (fun ls hl => ?_)
        refine lv_iinc (v := (nI (i + 1))) (lv' := [(3, .int (nI (i + 1))), (2, .int (nI ((zcnt g i) + 1))), (0, .ref (ad 1)), (1, .ref (ad a))]) hx hb dR_countTerms_21 hl (k := 1) rfl (nI_1 i) (by decide) rfl (fun ls hl => ?_)
        refine lv_goto (tgt := 4) hx hb dR_countTerms_24 (by decide) ?_
        exact ih (i + 1) ls (by rw [show zcnt g (i + 1) = zcnt g i + 1 by simp [zcnt, hq]]; exact lv_sub hl [0, 1, 2, 3] rfl) (by omega)
  exact loop ct 0 ls hl (by omega)

set_option maxHeartbeats 4000000 in
set_option maxRecDepth 100000 in
theorem c_R_indexOfTerm (l : Launch) {G : zG} {ad : Nat → Nat} {w : Nat → Option va_E} (F : Nat → Int32) (h1 : w 1 = some (oR ad F)) (a : Nat) (g : Nat → Int32) (ct : Nat) (ha : w a = some (zi G 126 g)) (hF : F 4 = nI ct) (hc : ct ≤ 126) (x : Int32) : Met l yR_indexOfTerm wR_indexOfTerm (zR (1)) (va_Pc [.ref (ad 1), .ref (ad a), .int x] (zw_U G ad w)) (va_Qi (S := Nat → Option va_E) (fun r w' => r = (match zith g x.toInt 0 ct with | some k => nI k | none => -1) ∧ w' = w) (fun u t => zw_U G ((fun _ => ad) u) ((fun w' => w') u) t) (zA G)) 0 0 (zA G) := by
  refine zw_methi (S := Nat → Option va_E) (fa := fun _ => ad) (fw := fun w' => w') (by decide) rfl (Nat.le_of_ble_eq_true rfl) ?_
  intro p e s m below meth c Q ls C hname Z hl hret
  obtain ⟨hx, hb, hml, hown, hts, hlk⟩ := C
  have hT : ∀ w ∈ zT, w.before ([.ref (ad 1), .ref (ad a), .int x] : List Value).toArray s = true := fun w h => hts w (List.mem_cons_of_mem _ h)
  have hown : s.vm.findClass "PolynomialDesk$Ring" = some m.cls := hown
  have hl : lv_has ls 5 [(0, .ref (ad 1)), (1, .ref (ad a)), (2, .int x)] := hl
  refine lv_iconst (v := 0) hx hb dR_indexOfTerm_0 (by decide) ?_
  refine lv_istore_n (lv' := [(3, .int 0), (0, .ref (ad 1)), (1, .ref (ad a)), (2, .int x)]) hx hb dR_indexOfTerm_1 rfl hl (by decide) rfl (fun ls hl => ?_)
  refine lv_iconst (v := 0) hx hb dR_indexOfTerm_2 (by decide) ?_
  refine lv_istore (lv' := [(4, .int 0), (3, .int 0), (0, .ref (ad 1)), (1, .ref (ad a)), (2, .int x)]) hx hb dR_indexOfTerm_3 hl (by decide) rfl (fun ls hl => ?_)
  have loop : ∀ (n i t : Nat) (ls : Array Slot), lv_has ls 5 [(4, .int (nI i)), (3, .int (nI t)), (0, .ref (ad 1)), (1, .ref (ad a)), (2, .int x)] → i + n = ct → t ≤ i → zith g (x.toInt - t) i n = zith g x.toInt 0 ct → W p l e (zR (1)) s m ([.ref (ad 1), .ref (ad a), .int x] : List Value).toArray below meth c s.heap [] 0 0 Q (F0 m 5 ls []) := by
    intro n
    induction n with
    | zero =>
      intro i t ls hl hi ht hz
      refine lv_iload hx hb dR_indexOfTerm_5 (lv_at hl 0 rfl) ?_
      refine lv_aload_n hx hb dR_indexOfTerm_7 rfl (lv_at hl 2 rfl) ?_
      refine zw_get (v := .int (F 4)) hx hb hT uR hown Z h1 rfl 4 (by decide) (hT _ mf_R_54) (fun _ h9 => h9) rfl dR_indexOfTerm_8 ?_
      refine lv_icmp_ge (tgt := 38) hx hb dR_indexOfTerm_11 (by decide) (fun _ => ?_) (fun hc => absurd (show (F 4) ≤ (nI i) from by rw [hF]; exact nI_le (by omega) (by omega)) hc)
      refine lv_iconst (v := (-1)) hx hb dR_indexOfTerm_38 (by decide) ?_
      exact hret _ _ _ _ _ _ dR_indexOfTerm_39 (⟨by rw [← hz]; rfl, rfl⟩) Z
    | succ n ih =>
      intro i t ls hl hi ht hz
      refine lv_iload hx hb dR_indexOfTerm_5 (lv_at hl 0 rfl) ?_
      refine lv_aload_n hx hb dR_indexOfTerm_7 rfl (lv_at hl 2 rfl) ?_
      refine zw_get (v := .int (F 4)) hx hb hT uR hown Z h1 rfl 4 (by decide) (hT _ mf_R_54) (fun _ h9 => h9) rfl dR_indexOfTerm_8 ?_
      refine lv_icmp_ge (tgt := 38) hx hb dR_indexOfTerm_11 (by decide) (fun hc => absurd hc (show ¬ ((F 4) ≤ (nI i)) from by rw [hF]; exact nI_ge (by omega) (by omega))) (fun _ => ?_)
      refine lv_aload_n hx hb dR_indexOfTerm_14 rfl (lv_at hl 3 rfl) ?_
      refine lv_iload hx hb dR_indexOfTerm_15 (lv_at hl 0 rfl) ?_
      refine zw_iald hx hb Z ha (vin (by omega) (by omega)) dR_indexOfTerm_17 ?_
      refine zw_top (g i) (by rw [ncl (by omega)]) ?_
      refine lv_if_eq (tgt := 32) hx hb dR_indexOfTerm_18 (by decide) (fun hq => ?_) (fun hq => ?_)
      · refine lv_iinc (v := (nI (i + 1))) (lv' := [(4, .int (nI (i + 1))), (3, .int (nI t)), (0, .ref (ad 1)), (1, .ref (ad a)), (2, .int x)]) hx hb dR_indexOfTerm_32 hl (k := 0) rfl (nI_1 i) (by decide) rfl (fun ls hl => ?_)
        refine lv_goto (tgt := 5) hx hb dR_indexOfTerm_35 (by decide) ?_
        exact ih (i + 1) t ls (lv_sub hl [0, 1, 2, 3, 4] rfl) (by omega) (by omega) (by rw [← hz, zith, if_pos hq])
      · refine lv_iload_n hx hb dR_indexOfTerm_21 rfl (lv_at hl 1 rfl) ?_
        refine lv_iload_n hx hb dR_indexOfTerm_22 rfl (lv_at hl 4 rfl) ?_
        refine lv_icmp_ne (tgt := 29) hx hb dR_indexOfTerm_23 (by decide) (fun hr => ?_) (fun hr => ?_)
        · refine lv_iinc (v := (nI (t + 1))) (lv' := [(3, .int (nI (t + 1))), (4, .int (nI i)), (0, .ref (ad 1)), (1, .ref (ad a)), (2, .int x)]) hx hb dR_indexOfTerm_29 hl (k := 1) rfl (nI_1 t) (by decide) rfl (fun ls hl => ?_)
          refine lv_iinc (v := (nI (i + 1))) (lv' := [(4, .int (nI (i + 1))), (3, .int (nI (t + 1))), (0, .ref (ad 1)), (1, .ref (ad a)), (2, .int x)]) hx hb dR_indexOfTerm_32 hl (k := 1) rfl (nI_1 i) (by decide) rfl (fun ls hl => ?_)
          refine lv_goto (tgt := 5) hx hb dR_indexOfTerm_35 (by decide) ?_
          exact ih (i + 1) (t + 1) ls (lv_sub hl [0, 1, 2, 3, 4] rfl) (by omega) (by omega) (by rw [← hz, zith, if_neg hq, if_neg (fun h9 => hr (Int32.toInt_inj.mp (by rw [nI_toInt (by omega)]; omega)))]; congr 1; omega)
        · refine lv_iload hx hb dR_indexOfTerm_26 (lv_at hl 0 rfl) ?_
          exact hret _ _ _ _ _ _ dR_indexOfTerm_28 (⟨by rw [← hz, zith, if_neg hq, if_pos (by rw [← hr, nI_toInt (by omega)]; omega)], rfl⟩) Z
  exact loop ct 0 0 ls hl (by omega) (by omega) (by simp)

/-- the degree of a row: that of its first coefficient which isn't 0 -/
def zdeg (dg g : Nat → Int32) (ct : Nat) : Int32 := if zfst g 0 ct < ct then dg (zfst g 0 ct) else -1

set_option maxHeartbeats 4000000 in
set_option maxRecDepth 100000 in
theorem c_R_degreeOf (l : Launch) {G : zG} {ad : Nat → Nat} {w : Nat → Option va_E} (F : Nat → Int32) (h1 : w 1 = some (oR ad F)) (a : Nat) (g : Nat → Int32) (ct : Nat) (ha : w a = some (zi G 126 g)) (hF : F 4 = nI ct) (hc : ct ≤ 126) (dg : Nat → Int32) (h5 : w 5 = some (zi G 126 dg)) : Met l yR_degreeOf wR_degreeOf (zR (2)) (va_Pc [.ref (ad 1), .ref (ad a)] (zw_U G ad w)) (va_Qi (S := Nat → Option va_E) (fun r w' => r = zdeg dg g ct ∧ w' = w) (fun u t => zw_U G ((fun _ => ad) u) ((fun w' => w') u) t) (zA G)) 0 0 (zA G) := by
  refine zw_methi (S := Nat → Option va_E) (fa := fun _ => ad) (fw := fun w' => w') (by decide) rfl (Nat.le_of_ble_eq_true rfl) ?_
  intro p e s m below meth c Q ls C hname Z hl hret
  obtain ⟨hx, hb, hml, hown, hts, hlk⟩ := C
  have hT : ∀ w ∈ zT, w.before ([.ref (ad 1), .ref (ad a)] : List Value).toArray s = true := fun w h => hts w (List.mem_cons_of_mem _ h)
  have hown : s.vm.findClass "PolynomialDesk$Ring" = some m.cls := hown
  have hl : lv_has ls 3 [(0, .ref (ad 1)), (1, .ref (ad a))] := hl
  refine lv_aload_n hx hb dR_degreeOf_0 rfl (lv_at hl 0 rfl) ?_
  refine lv_aload_n hx hb dR_degreeOf_1 rfl (lv_at hl 1 rfl) ?_
  refine zw_calli (va_runV (As := [.ref (ad a)]) (rest := []) ⟨hx, hb, hml, hown, hts⟩ (c_R_leadingOf l F h1 a g ct ha hF hc) (kw_R_leadingOf hts ml_R_71 (zR_fit (by omega) (by omega))) (Z.preV h1 rfl _) rfl rfl hl.1 rfl (lv_room (Nat.le_of_ble_eq_true rfl)) dR_degreeOf_2 ⟨Nat.le_of_ble_eq_true rfl, Nat.le_of_ble_eq_true rfl⟩) Z (fun r w1 H locs hp Z => ?_)
  obtain ⟨rfl, hw1⟩ := hp
  rw [hw1] at Z
  clear hw1
  have hle := (zfst_in g ct 0).2
  refine lv_istore_n (lv' := [(2, .int (nI (zfst g 0 ct))), (0, .ref (ad 1)), (1, .ref (ad a))]) hx hb dR_degreeOf_5 rfl hl (by decide) rfl (fun ls hl => ?_)
  refine lv_iload_n hx hb dR_degreeOf_6 rfl (lv_at hl 0 rfl) ?_
  refine lv_aload_n hx hb dR_degreeOf_7 rfl (lv_at hl 1 rfl) ?_
  refine zw_get (v := .int (F 4)) hx hb hT uR hown Z h1 rfl 4 (by decide) (hT _ mf_R_54) (fun _ h9 => h9) rfl dR_degreeOf_8 ?_
  refine lv_icmp_ge (tgt := 23) hx hb dR_degreeOf_11 (by decide) (fun hq => ?_) (fun hq => ?_)
  · refine lv_iconst (v := (-1)) hx hb dR_degreeOf_23 (by decide) ?_
    exact hret _ _ _ _ _ _ dR_degreeOf_24 (⟨by rw [hF] at hq; rw [zdeg, if_neg (fun h9 => absurd hq (nI_ge h9 (by omega)))], rfl⟩) Z
  · have hlt : zfst g 0 ct < ct := by
      rw [hF] at hq
      exact Nat.not_le.mp (fun h9 => hq (nI_le h9 (by omega)))
    refine lv_aload_n hx hb dR_degreeOf_14 rfl (lv_at hl 1 rfl) ?_
    refine zw_get (v := .ref (ad 5)) hx hb hT uR hown Z h1 rfl 6 (by decide) (hT _ mf_R_16) (fun _ h9 => h9) rfl dR_degreeOf_15 ?_
    refine lv_iload_n hx hb dR_degreeOf_18 rfl (lv_at hl 0 rfl) ?_
    refine zw_iald hx hb Z h5 (vin (by omega) (by omega)) dR_degreeOf_19 ?_
    refine zw_top (dg (zfst g 0 ct)) (by rw [ncl (by omega)]) ?_
    refine lv_goto (tgt := 24) hx hb dR_degreeOf_20 (by decide) ?_
    exact hret _ _ _ _ _ _ dR_degreeOf_24 (⟨by rw [zdeg, if_pos hlt], rfl⟩) Z
end
section
/-! the monomials of n variables in the order o, as the class lists them; a monomial is its four exponents -/
def zHi (n : Nat) : Nat := if n = 1 then 30 else if n = 2 then 12 else if n = 3 then 7 else 5
def zCt (n : Nat) : Nat := if n = 1 then 31 else if n = 2 then 91 else if n = 3 then 120 else 126
/-- which variable is chosen at a depth, and which exponent at a step -/
def zV (o n d : Nat) : Nat := if o = 1 then d else n - 1 - d
def zE (o rest st : Nat) : Nat := if o = 1 then rest - st else st
/-- the monomials of a degree, with k variables still to be chosen -/
def zGen (o n : Nat) : Nat → Nat → List Nat → List (List Nat)
  | 0, _, _ => []
  | 1, rest, ch => [ch.set (zV o n (n - 1)) rest]
  | k + 2, rest, ch => (List.range (rest + 1)).flatMap fun st => zGen o n (k + 1) (rest - zE o rest st) (ch.set (zV o n (n - (k + 2))) (zE o rest st))
def zTab (n o : Nat) : List (List Nat) := (List.range (zHi n + 1)).flatMap fun d => zGen o n n (zHi n - d) [0, 0, 0, 0]
def zEx (n o v i : Nat) : Nat := ((zTab n o).getD i []).getD v 0
def zDg (n o i : Nat) : Nat := zEx n o 0 i + zEx n o 1 i + zEx n o 2 i + zEx n o 3 i
def zWt (n v : Nat) : Nat := if v < n then (zHi n + 1) ^ v else 0
def zKm (n : Nat) (e : List Nat) : Nat := e.getD 0 0 * zWt n 0 + e.getD 1 0 * zWt n 1 + e.getD 2 0 * zWt n 2 + e.getD 3 0 * zWt n 3
def zKy (n o i : Nat) : Nat := zKm n ((zTab n o).getD i [])
/-- what is decided, for one n and o -/
def zChk (n o : Nat) : Bool :=
  let T := zTab n o
  let K := T.map (zKm n)
  let D := T.map (fun e => e.getD 0 0 + e.getD 1 0 + e.getD 2 0 + e.getD 3 0)
  T.length == zCt n && T.all (fun e => e.length == 4 && (List.range 4).all (fun v => v < n || e.getD v 0 == 0)) && K.all (fun k => k < 1296) && D.all (fun d => d ≤ zHi n) &&
  (List.range (zCt n - 1)).all (fun i => D.getD (i + 1) 0 ≤ D.getD i 0)
theorem zChk_ok : ∀ n, n < 4 → ∀ o, o < 2 → zChk (n + 1) o = true := by decide +kernel
/-- all exponents up to the highest degree are listed -/
def zAll (n o : Nat) : Bool :=
  let T := zTab n o
  let h := zHi n
  (List.range (h + 1)).all fun a => (List.range (if 1 < n then h + 1 - a else 1)).all fun b => (List.range (if 2 < n then h + 1 - a - b else 1)).all fun c => (List.range (if 3 < n then h + 1 - a - b - c else 1)).all fun d => T.contains [a, b, c, d]
theorem zAll_ok : ∀ n, n < 4 → ∀ o, o < 2 → zAll (n + 1) o = true := by decide +kernel
/-- no key stands twice -/
def zNd : List Nat → Bool
  | [] => true
  | k :: l => !l.contains k && zNd l
theorem zNd_ok : ∀ n, n < 4 → ∀ o, o < 2 → zNd ((zTab (n + 1) o).map (zKm (n + 1))) = true := by decide +kernel
end
section
/-! what the tables say -/
def zCfg (n o : Nat) : Prop := 1 ≤ n ∧ n ≤ 4 ∧ o ≤ 1
theorem zCfg.chk {n o : Nat} (h : zCfg n o) : zChk n o = true := by
  obtain ⟨h1, h2, h3⟩ := h
  have := zChk_ok (n - 1) (by omega) o (by omega)
  rwa [show n - 1 + 1 = n by omega] at this
theorem zCfg.all {n o : Nat} (h : zCfg n o) : zAll n o = true := by
  obtain ⟨h1, h2, h3⟩ := h
  have := zAll_ok (n - 1) (by omega) o (by omega)
  rwa [show n - 1 + 1 = n by omega] at this
theorem zCfg.nd {n o : Nat} (h : zCfg n o) : zNd ((zTab n o).map (zKm n)) = true := by
  obtain ⟨h1, h2, h3⟩ := h
  have := zNd_ok (n - 1) (by omega) o (by omega)
  rwa [show n - 1 + 1 = n by omega] at this
theorem zCt_le {n : Nat} : zCt n ≤ 126 := by
  unfold zCt
  split
  · omega
  · split
    · omega
    · split <;> omega
theorem zCt_pos {n : Nat} : 31 ≤ zCt n := by
  unfold zCt
  split
  · omega
  · split
    · omega
    · split <;> omega
theorem zHi_le {n : Nat} : 5 ≤ zHi n ∧ zHi n ≤ 30 := by
  unfold zHi
  split
  · omega
  · split
    · omega
    · split <;> omega
theorem zCfg.split {n o : Nat} (h : zCfg n o) : (zTab n o).length = zCt n ∧ (∀ e ∈ zTab n o, e.length = 4 ∧ ∀ v, v < 4 → n ≤ v → e.getD v 0 = 0) ∧ (∀ e ∈ zTab n o, zKm n e < 1296) ∧ (∀ e ∈ zTab n o, e.getD 0 0 + e.getD 1 0 + e.getD 2 0 + e.getD 3 0 ≤ zHi n) ∧ ∀ i, i + 1 < zCt n → zDg n o (i + 1) ≤ zDg n o i := by
  have hc := h.chk
  unfold zChk at hc
  simp only [Bool.and_eq_true, List.all_eq_true, beq_iff_eq, decide_eq_true_eq, List.mem_map, forall_exists_index, and_imp, forall_apply_eq_imp_iff₂, List.mem_range, Bool.or_eq_true] at hc
  obtain ⟨⟨⟨⟨h1, h2⟩, h3⟩, h4⟩, h5⟩ := hc
  refine ⟨h1, fun e he => ⟨(h2 e he).1, fun v hv hn => ?_⟩, h3, h4, fun i hi => ?_⟩
  · rcases (h2 e he).2 v hv with h9 | h9
    · omega
    · exact h9
  · have h6 := h5 i (by omega)
    have key : ∀ j, j < zCt n → ((zTab n o).map (fun e : List Nat => e.getD 0 0 + e.getD 1 0 + e.getD 2 0 + e.getD 3 0)).getD j 0 = zDg n o j := by
      intro j hj
      unfold zDg zEx
      simp only [List.getD_eq_getElem?_getD, List.getElem?_map]
      rw [List.getElem?_eq_getElem (by omega)]
      rfl
    rw [key _ (by omega), key _ (by omega)] at h6
    exact h6
theorem zTab_mem {n o i : Nat} (h : zCfg n o) (hi : i < zCt n) : (zTab n o).getD i [] ∈ zTab n o := by
  have h1 := h.split.1
  rw [List.getD_eq_getElem?_getD, List.getElem?_eq_getElem (by omega)]
  exact List.getElem_mem _
theorem zKy_lt {n o i : Nat} (h : zCfg n o) (hi : i < zCt n) : zKy n o i < 1296 := h.split.2.2.1 _ (zTab_mem h hi)
theorem zDg_le {n o i : Nat} (h : zCfg n o) (hi : i < zCt n) : zDg n o i ≤ zHi n := h.split.2.2.2.1 _ (zTab_mem h hi)
theorem zEx_out {n o i v : Nat} (h : zCfg n o) (hi : i < zCt n) (hv : v < 4) (hn : n ≤ v) : zEx n o v i = 0 := (h.split.2.1 _ (zTab_mem h hi)).2 v hv hn
theorem zDg_anti {n o : Nat} (h : zCfg n o) : ∀ (k i : Nat), i + k < zCt n → zDg n o (i + k) ≤ zDg n o i
  | 0, _, _ => Nat.le_refl _
  | k + 1, i, hi => Nat.le_trans (h.split.2.2.2.2 (i + k) (by omega)) (zDg_anti h k i (by omega))
theorem zNd_inj : ∀ (l : List Nat), zNd l = true → ∀ (i j a : Nat), l[i]? = some a → l[j]? = some a → i = j
  | [], _, i, j, a, hi, _ => by simp at hi
  | k :: l, h, i, j, a, hi, hj => by
    simp only [zNd, Bool.and_eq_true, Bool.not_eq_true'] at h
    cases i with
    | zero =>
      cases j with
      | zero => rfl
      | succ j =>
        simp only [List.getElem?_cons_zero, Option.some.injEq, List.getElem?_cons_succ] at hi hj
        have hm : a ∈ l := List.mem_of_getElem? hj
        rw [← hi] at hm
        have := List.contains_iff_mem.mpr hm
        rw [h.1] at this
        cases this
    | succ i =>
      cases j with
      | zero =>
        simp only [List.getElem?_cons_zero, Option.some.injEq, List.getElem?_cons_succ] at hi hj
        have hm : a ∈ l := List.mem_of_getElem? hi
        rw [← hj] at hm
        have := List.contains_iff_mem.mpr hm
        rw [h.1] at this
        cases this
      | succ j =>
        simp only [List.getElem?_cons_succ] at hi hj
        exact congrArg (· + 1) (zNd_inj l h.2 i j a hi hj)
theorem zKy_get {n o i : Nat} (h : zCfg n o) (hi : i < zCt n) : ((zTab n o).map (zKm n))[i]? = some (zKy n o i) := by
  have h1 := h.split.1
  rw [List.getElem?_map]
  unfold zKy
  rw [List.getD_eq_getElem?_getD, List.getElem?_eq_getElem (by omega)]
  rfl
theorem zKy_inj {n o i j : Nat} (h : zCfg n o) (hi : i < zCt n) (hj : j < zCt n) (e : zKy n o i = zKy n o j) : i = j :=
  zNd_inj _ h.nd i j (zKy n o i) (zKy_get h hi) (by rw [e]; exact zKy_get h hj)
/-- four exponents that may be are listed -/
theorem zMem {n o a b c d : Nat} (h : zCfg n o) (hs : a + b + c + d ≤ zHi n) (hb : n ≤ 1 → b = 0) (hc : n ≤ 2 → c = 0) (hd : n ≤ 3 → d = 0) : ∃ i, i < zCt n ∧ zEx n o 0 i = a ∧ zEx n o 1 i = b ∧ zEx n o 2 i = c ∧ zEx n o 3 i = d := by
  have ha := h.all
  unfold zAll at ha
  simp only [List.all_eq_true, List.mem_range] at ha
  have h1 := ha a (by omega) b (by split <;> omega) c (by split <;> omega) d (by split <;> omega)
  have hm := List.contains_iff_mem.mp h1
  obtain ⟨i, hi⟩ := List.getElem?_of_mem hm
  have hl := (List.getElem?_eq_some_iff.mp hi).1
  have h2 := h.split.1
  refine ⟨i, by omega, ?_⟩
  have hg : (zTab n o).getD i [] = [a, b, c, d] := by
    rw [List.getD_eq_getElem?_getD, hi]
    rfl
  unfold zEx
  rw [hg]
  exact ⟨rfl, rfl, rfl, rfl⟩
theorem zKy_eq (n o i : Nat) : zKy n o i = zEx n o 0 i * zWt n 0 + zEx n o 1 i * zWt n 1 + zEx n o 2 i * zWt n 2 + zEx n o 3 i * zWt n 3 := rfl
/-- the product of two monomials, if its degree may be -/
theorem zAdd {n o i j : Nat} (h : zCfg n o) (hi : i < zCt n) (hj : j < zCt n) (hd : zDg n o i + zDg n o j ≤ zHi n) : ∃ k, k < zCt n ∧ zKy n o k = zKy n o i + zKy n o j ∧ zDg n o k = zDg n o i + zDg n o j := by
  have h0 : ∀ v, v < 4 → n ≤ v → zEx n o v i + zEx n o v j = 0 := fun v hv hn => by rw [zEx_out h hi hv hn, zEx_out h hj hv hn]
  obtain ⟨k, hk, e0, e1, e2, e3⟩ := zMem (n := n) (o := o) (a := zEx n o 0 i + zEx n o 0 j) (b := zEx n o 1 i + zEx n o 1 j) (c := zEx n o 2 i + zEx n o 2 j) (d := zEx n o 3 i + zEx n o 3 j) h (by unfold zDg at hd; omega) (h0 1 (by omega)) (h0 2 (by omega)) (h0 3 (by omega))
  refine ⟨k, hk, ?_, ?_⟩
  · rw [zKy_eq, zKy_eq, zKy_eq, e0, e1, e2, e3, Nat.add_mul, Nat.add_mul, Nat.add_mul, Nat.add_mul]
    omega
  · unfold zDg
    omega
/-- a monomial with a lower exponent of one variable -/
theorem zSub {n o i v q : Nat} (h : zCfg n o) (hi : i < zCt n) (hv : v < 4) (hq : q ≤ zEx n o v i) : ∃ k, k < zCt n ∧ zKy n o k + q * zWt n v = zKy n o i ∧ (∀ u, u < 4 → zEx n o u k = if u = v then zEx n o u i - q else zEx n o u i) := by
  have hD := zDg_le h hi
  have h0 : ∀ u, u < 4 → n ≤ u → (if u = v then zEx n o u i - q else zEx n o u i) = 0 := fun u hu hn => by
    have := zEx_out h hi hu hn
    split <;> omega
  have hv4 : v = 0 ∨ v = 1 ∨ v = 2 ∨ v = 3 := by omega
  unfold zDg at hD
  obtain ⟨k, hk, e0, e1, e2, e3⟩ := zMem (n := n) (o := o) (a := if 0 = v then zEx n o 0 i - q else zEx n o 0 i) (b := if 1 = v then zEx n o 1 i - q else zEx n o 1 i) (c := if 2 = v then zEx n o 2 i - q else zEx n o 2 i) (d := if 3 = v then zEx n o 3 i - q else zEx n o 3 i) h (by (repeat' split) <;> omega) (fun hn => h0 1 (by omega) hn) (fun hn => h0 2 (by omega) hn) (fun hn => h0 3 (by omega) hn)
  refine ⟨k, hk, ?_, fun u hu => ?_⟩
  · rw [zKy_eq, zKy_eq, e0, e1, e2, e3]
    have hs : ∀ x w9 : Nat, q ≤ x → (x - q) * w9 + q * w9 = x * w9 := fun x w9 hx => by rw [← Nat.add_mul]; congr 1; omega
    rcases hv4 with rfl | rfl | rfl | rfl
    · simp only [if_true, reduceIte, Nat.reduceEqDiff]
      have := hs _ (zWt n 0) hq
      omega
    · simp only [if_true, reduceIte, Nat.reduceEqDiff]
      have := hs _ (zWt n 1) hq
      omega
    · simp only [if_true, reduceIte, Nat.reduceEqDiff]
      have := hs _ (zWt n 2) hq
      omega
    · simp only [if_true, reduceIte, Nat.reduceEqDiff]
      have := hs _ (zWt n 3) hq
      omega
  · have hu4 : u = 0 ∨ u = 1 ∨ u = 2 ∨ u = 3 := by omega
    rcases hu4 with rfl | rfl | rfl | rfl
    · exact e0
    · exact e1
    · exact e2
    · exact e3
theorem zConst {n o : Nat} (h : zCfg n o) : ∃ k, k < zCt n ∧ zKy n o k = 0 ∧ zDg n o k = 0 := by
  obtain ⟨k, hk, e0, e1, e2, e3⟩ := zMem (n := n) (o := o) (a := 0) (b := 0) (c := 0) (d := 0) h (by have := zHi_le (n := n); omega) (fun _ => rfl) (fun _ => rfl) (fun _ => rfl)
  refine ⟨k, hk, ?_, ?_⟩
  · rw [zKy_eq, e0, e1, e2, e3]
    omega
  · unfold zDg
    omega
theorem zVar {n o v : Nat} (h : zCfg n o) (hv : v < n) : ∃ k, k < zCt n ∧ zKy n o k = zWt n v ∧ zDg n o k = 1 := by
  have h4 := h.2.1
  have hv4 : v = 0 ∨ v = 1 ∨ v = 2 ∨ v = 3 := by omega
  obtain ⟨k, hk, e0, e1, e2, e3⟩ := zMem (n := n) (o := o) (a := if v = 0 then 1 else 0) (b := if v = 1 then 1 else 0) (c := if v = 2 then 1 else 0) (d := if v = 3 then 1 else 0) h (by have := zHi_le (n := n); (repeat' split) <;> omega) (fun hn => if_neg (by omega)) (fun hn => if_neg (by omega)) (fun hn => if_neg (by omega))
  refine ⟨k, hk, ?_, ?_⟩
  · rw [zKy_eq, e0, e1, e2, e3]
    rcases hv4 with rfl | rfl | rfl | rfl <;> simp
  · unfold zDg
    rw [e0, e1, e2, e3]
    rcases hv4 with rfl | rfl | rfl | rfl <;> rfl
end
section
/-! the ring's tables in a world -/
def zRing (G : zG) (ad : Nat → Nat) (w : Nat → Option va_E) (P n o : Nat) (F : Nat → Int32) : Prop :=
  w 1 = some (oR ad F) ∧ (F 0 = nI P ∧ F 1 = nI n ∧ F 2 = nI o ∧ F 3 = nI (zHi n) ∧ F 4 = nI (zCt n)) ∧ (2 ≤ P ∧ P ≤ 32003) ∧ zCfg n o ∧
  w 4 = some (zq G 4 (fun v => some (ad (16 + v)))) ∧
  (∀ v, v < 4 → ∃ e : Nat → Int32, w (16 + v) = some (zi G 126 e) ∧ ∀ i, i < zCt n → e i = nI (zEx n o v i)) ∧
  (∃ d : Nat → Int32, w 5 = some (zi G 126 d) ∧ ∀ i, i < zCt n → d i = nI (zDg n o i)) ∧
  (∃ k : Nat → Int32, w 6 = some (zi G 126 k) ∧ ∀ i, i < zCt n → k i = nI (zKy n o i)) ∧
  (∃ u : Nat → Int32, w 7 = some (zi G 4 u) ∧ ∀ v, v < 4 → u v = nI (zWt n v)) ∧
  (∃ x : Nat → Int32, w 8 = some (zi G 1296 x) ∧ ∀ i, i < zCt n → x (zKy n o i) = nI i) ∧
  ∃ c : Nat → Int32, w 9 = some (zi G 4 c)
theorem zRing.cong {G : zG} {ad : Nat → Nat} {w w' : Nat → Option va_E} {P n o : Nat} {F : Nat → Int32} (h : zRing G ad w P n o F) (hw : ∀ k, 0 < k → k < 20 → w' k = w k) : zRing G ad w' P n o F := by
  obtain ⟨h1, h2, h3, h4, h5, h6, h7, h8, h9, h10, h11⟩ := h
  refine ⟨by rw [hw 1 (by omega) (by omega)]; exact h1, h2, h3, h4, by rw [hw 4 (by omega) (by omega)]; exact h5, fun v hv => ?_, ?_, ?_, ?_, ?_, ?_⟩
  · rw [hw (16 + v) (by omega) (by omega)]
    exact h6 v hv
  · rw [hw 5 (by omega) (by omega)]
    exact h7
  · rw [hw 6 (by omega) (by omega)]
    exact h8
  · rw [hw 7 (by omega) (by omega)]
    exact h9
  · rw [hw 8 (by omega) (by omega)]
    exact h10
  · rw [hw 9 (by omega) (by omega)]
    exact h11
theorem zRing.up {G : zG} {ad : Nat → Nat} {w : Nat → Option va_E} {P n o : Nat} {F : Nat → Int32} (h : zRing G ad w P n o F) {t : Nat} {x : Option va_E} (ht : 20 ≤ t) : zRing G ad (va_up w t x) P n o F :=
  h.cong (fun k h1 h2 => va_up_ne _ _ (by omega))
/-- a truth as an int -/
def zb (b : Bool) : Int32 := if b then 1 else 0
theorem zb_nar (b : Bool) : narrow .boolean (.int (zb b)) = .int (zb b) := by cases b <;> decide
/-- a row of the field's numbers -/
abbrev zrow (G : zG) (A : Nat → Nat) : va_E := zi G 126 (fun j => nI (A j))
/-- reading a place of a row that isn't written yet, where another row (perhaps the same) is being written -/
theorem zrd {G : zG} {w : Nat → Option va_E} {a t i : Nat} {ga gt h : Nat → Int32} (ha : w a = some (zi G 126 ga)) (ht : w t = some (zi G 126 gt)) (hi : h i = gt i) : ∃ f : Nat → Int32, va_up w t (some (zi G 126 h)) a = some (zi G 126 f) ∧ f i = ga i := by
  by_cases e : a = t
  · subst e
    have e2 : ga = gt := by
      have := ha.symm.trans ht
      injection this with h1
      injection h1 with h2
      injection h2 with h3 h4
      injection h4 with h5 h6
      injection h6
    exact ⟨h, va_up_self _ _ _, by rw [hi, e2]⟩
  · exact ⟨ga, by rw [va_up_ne _ _ e]; exact ha, rfl⟩
end
section
set_option maxHeartbeats 4000000 in
set_option maxRecDepth 100000 in
theorem c_R_exponentOf (l : Launch) {G : zG} {ad : Nat → Nat} {w : Nat → Option va_E} (P n o : Nat) (F : Nat → Int32) (hR : zRing G ad w P n o F) (i v : Nat) (hi : i < zCt n) (hv : v < 4) : Met l yR_exponentOf wR_exponentOf (zR (1)) (va_Pc [.ref (ad 1), .int (nI i), .int (nI v)] (zw_U G ad w)) (va_Qi (S := Nat → Option va_E) (fun r w' => r = nI (zEx n o v i) ∧ w' = w) (fun u t => zw_U G ((fun _ => ad) u) ((fun w' => w') u) t) (zA G)) 0 0 (zA G) := by
  refine zw_methi (S := Nat → Option va_E) (fa := fun _ => ad) (fw := fun w' => w') (by decide) rfl (Nat.le_of_ble_eq_true rfl) ?_
  intro p e s m below meth c Q ls C hname Z hl hret
  obtain ⟨hx, hb, hml, hown, hts, hlk⟩ := C
  have hT : ∀ w ∈ zT, w.before ([.ref (ad 1), .int (nI i), .int (nI v)] : List Value).toArray s = true := fun w h => hts w (List.mem_cons_of_mem _ h)
  have hown : s.vm.findClass "PolynomialDesk$Ring" = some m.cls := hown
  have hl : lv_has ls 3 [(0, .ref (ad 1)), (1, .int (nI i)), (2, .int (nI v))] := hl
  obtain ⟨h1, ⟨hF0, hF1, hF2, hF3, hF4⟩, ⟨hP1, hP2⟩, hcfg, h4, h16, ⟨dg, h5, hdg⟩, ⟨ky, h6, hky⟩, ⟨wt, h7, hwt⟩, ⟨ix, h8, hix⟩, ⟨ch, h9⟩⟩ := id hR
  have hct := zCt_le (n := n)
  have hn4 := hcfg.2.1
  obtain ⟨ex, hex, hexi⟩ := h16 v hv
  refine lv_iload_n hx hb dR_exponentOf_0 rfl (lv_at hl 1 rfl) ?_
  refine lv_if_lt (tgt := 21) hx hb dR_exponentOf_1 (by decide) (fun hc => absurd hc (show ¬ ((nI i) < 0) from nI_pos (by omega))) (fun _ => ?_)
  refine lv_iload_n hx hb dR_exponentOf_4 rfl (lv_at hl 1 rfl) ?_
  refine lv_aload_n hx hb dR_exponentOf_5 rfl (lv_at hl 0 rfl) ?_
  refine zw_get (v := .int (F 4)) hx hb hT uR hown Z h1 rfl 4 (by decide) (hT _ mf_R_54) (fun _ h9 => h9) rfl dR_exponentOf_6 ?_
  refine lv_icmp_ge (tgt := 21) hx hb dR_exponentOf_9 (by decide) (fun hc => absurd hc (show ¬ ((F 4) ≤ (nI i)) from by rw [hF4]; exact nI_ge hi (by omega))) (fun _ => ?_)
  refine lv_iload_n hx hb dR_exponentOf_12 rfl (lv_at hl 2 rfl) ?_
  refine lv_if_lt (tgt := 21) hx hb dR_exponentOf_13 (by decide) (fun hc => absurd hc (show ¬ ((nI v) < 0) from nI_pos (by omega))) (fun _ => ?_)
  refine lv_iload_n hx hb dR_exponentOf_16 rfl (lv_at hl 2 rfl) ?_
  refine lv_iconst (v := 4) hx hb dR_exponentOf_17 (by decide) ?_
  refine lv_icmp_lt (tgt := 23) hx hb dR_exponentOf_18 (by decide) (fun _ => ?_) (fun hc => absurd (show (nI v) < 4 from nI_lt (b := 4) hv (by decide)) hc)
  refine lv_aload_n hx hb dR_exponentOf_23 rfl (lv_at hl 0 rfl) ?_
  refine zw_get (v := .ref (ad 4)) hx hb hT uR hown Z h1 rfl 5 (by decide) (hT _ mf_R_13) (fun _ h9 => h9) rfl dR_exponentOf_24 ?_
  refine lv_iload_n hx hb dR_exponentOf_27 rfl (lv_at hl 2 rfl) ?_
  refine zw_aald (v := .ref (ad (16 + v))) hx hb Z h4 (vin hv (by decide)) (by rw [ncl (by omega)]; rfl) dR_exponentOf_28 ?_
  refine lv_iload_n hx hb dR_exponentOf_29 rfl (lv_at hl 1 rfl) ?_
  refine zw_iald hx hb Z hex (vin (by omega) (by decide)) dR_exponentOf_30 ?_
  refine zw_top (nI (zEx n o v i)) (by rw [ncl (by omega)]; exact hexi i hi) ?_
  exact hret _ _ _ _ _ _ dR_exponentOf_31 (⟨rfl, rfl⟩) Z

/-- the degree of a row of the ring, -1 without one -/
def zdgr (n o : Nat) (g : Nat → Int32) : Int32 := if zfst g 0 (zCt n) < zCt n then nI (zDg n o (zfst g 0 (zCt n))) else -1
theorem zdgr_of {n o : Nat} {dg g : Nat → Int32} (h : ∀ i, i < zCt n → dg i = nI (zDg n o i)) : zdeg dg g (zCt n) = zdgr n o g := by
  unfold zdeg zdgr
  split
  · next h9 => exact h _ h9
  · rfl
def zhigh2 (n o : Nat) (ga gb : Nat → Int32) : Bool := decide (0 ≤ zdgr n o ga) && (decide (0 ≤ zdgr n o gb) && decide (nI (zHi n) < zdgr n o ga + zdgr n o gb))

set_option maxHeartbeats 4000000 in
set_option maxRecDepth 100000 in
theorem c_R_isProductTooHigh (l : Launch) {G : zG} {ad : Nat → Nat} {w : Nat → Option va_E} (P n o : Nat) (F : Nat → Int32) (hR : zRing G ad w P n o F) (a b : Nat) (ga gb : Nat → Int32) (ha : w a = some (zi G 126 ga)) (hb9 : w b = some (zi G 126 gb)) : Met l yR_isProductTooHigh wR_isProductTooHigh (zR (3)) (va_Pc [.ref (ad 1), .ref (ad a), .ref (ad b)] (zw_U G ad w)) (va_Qi (S := Nat → Option va_E) (fun r w' => r = zb (zhigh2 n o ga gb) ∧ w' = w) (fun u t => zw_U G ((fun _ => ad) u) ((fun w' => w') u) t) (zA G)) 0 0 (zA G) := by
  refine zw_methz (S := Nat → Option va_E) (fa := fun _ => ad) (fw := fun w' => w') (by decide) rfl (Nat.le_of_ble_eq_true rfl) (fun r u h => by rw [h.1]; exact zb_nar _) ?_
  intro p e s m below meth c Q ls C hname Z hl hret
  obtain ⟨hx, hb, hml, hown, hts, hlk⟩ := C
  have hT : ∀ w ∈ zT, w.before ([.ref (ad 1), .ref (ad a), .ref (ad b)] : List Value).toArray s = true := fun w h => hts w (List.mem_cons_of_mem _ h)
  have hown : s.vm.findClass "PolynomialDesk$Ring" = some m.cls := hown
  have hl : lv_has ls 5 [(0, .ref (ad 1)), (1, .ref (ad a)), (2, .ref (ad b))] := hl
  obtain ⟨h1, ⟨hF0, hF1, hF2, hF3, hF4⟩, ⟨hP1, hP2⟩, hcfg, h4, h16, ⟨dg, h5, hdg⟩, ⟨ky, h6, hky⟩, ⟨wt, h7, hwt⟩, ⟨ix, h8, hix⟩, ⟨ch, h9⟩⟩ := id hR
  have hct := zCt_le (n := n)
  have hn4 := hcfg.2.1
  refine lv_aload_n hx hb dR_isProductTooHigh_0 rfl (lv_at hl 0 rfl) ?_
  refine lv_aload_n hx hb dR_isProductTooHigh_1 rfl (lv_at hl 1 rfl) ?_
  refine zw_calli (va_runV (As := [.ref (ad a)]) (rest := []) ⟨hx, hb, hml, hown, hts⟩ (c_R_degreeOf l F h1 a ga (zCt n) ha hF4 hct dg h5) (kw_R_degreeOf hts ml_R_75 (zR_fit (by omega) (by omega))) (Z.preV h1 rfl _) rfl rfl hl.1 rfl (lv_room (Nat.le_of_ble_eq_true rfl)) dR_isProductTooHigh_2 ⟨Nat.le_of_ble_eq_true rfl, Nat.le_of_ble_eq_true rfl⟩) Z (fun r w1 H locs hp Z => ?_)
  obtain ⟨rfl, hw1⟩ := hp
  rw [hw1] at Z
  clear hw1
  refine zw_top (zdgr n o ga) (zdgr_of hdg) ?_
  refine lv_istore_n (lv' := [(3, .int (zdgr n o ga)), (0, .ref (ad 1)), (1, .ref (ad a)), (2, .ref (ad b))]) hx hb dR_isProductTooHigh_5 rfl hl (by decide) rfl (fun ls hl => ?_)
  refine lv_aload_n hx hb dR_isProductTooHigh_6 rfl (lv_at hl 1 rfl) ?_
  refine lv_aload_n hx hb dR_isProductTooHigh_7 rfl (lv_at hl 3 rfl) ?_
  refine zw_calli (va_runV (As := [.ref (ad b)]) (rest := []) ⟨hx, hb, hml, hown, hts⟩ (c_R_degreeOf l F h1 b gb (zCt n) hb9 hF4 hct dg h5) (kw_R_degreeOf hts ml_R_75 (zR_fit (by omega) (by omega))) (Z.preV h1 rfl _) rfl rfl hl.1 rfl (lv_room (Nat.le_of_ble_eq_true rfl)) dR_isProductTooHigh_8 ⟨Nat.le_of_ble_eq_true rfl, Nat.le_of_ble_eq_true rfl⟩) Z (fun r w1 H locs hp Z => ?_)
  obtain ⟨rfl, hw1⟩ := hp
  rw [hw1] at Z
  clear hw1
  refine zw_top (zdgr n o gb) (zdgr_of hdg) ?_
  obtain ⟨x, hxx⟩ : ∃ x, x = zdgr n o ga := ⟨_, rfl⟩
  refine lv_istore (lv' := [(4, .int (zdgr n o gb)), (3, .int (zdgr n o ga)), (0, .ref (ad 1)), (1, .ref (ad a)), (2, .ref (ad b))]) hx hb dR_isProductTooHigh_11 hl (by decide) rfl (fun ls hl => ?_)
  refine lv_iload_n hx hb dR_isProductTooHigh_13 rfl (lv_at hl 1 rfl) ?_
  refine lv_if_lt (tgt := 37) hx hb dR_isProductTooHigh_14 (by decide) (fun hq => ?_) (fun hq => ?_)
  · refine lv_iconst (v := 0) hx hb dR_isProductTooHigh_37 (by decide) ?_
    exact hret _ _ _ _ _ _ dR_isProductTooHigh_38 (⟨by rw [zhigh2, decide_eq_false (Int32.not_le.mpr hq)]; rfl, rfl⟩) Z
  · refine lv_iload hx hb dR_isProductTooHigh_17 (lv_at hl 0 rfl) ?_
    refine lv_if_lt (tgt := 37) hx hb dR_isProductTooHigh_19 (by decide) (fun hq2 => ?_) (fun hq2 => ?_)
    · refine lv_iconst (v := 0) hx hb dR_isProductTooHigh_37 (by decide) ?_
      exact hret _ _ _ _ _ _ dR_isProductTooHigh_38 (⟨by rw [zhigh2, decide_eq_false (p := 0 ≤ zdgr n o gb) (Int32.not_le.mpr hq2), Bool.false_and, Bool.and_false]; rfl, rfl⟩) Z
    · refine lv_iload_n hx hb dR_isProductTooHigh_22 rfl (lv_at hl 1 rfl) ?_
      refine lv_iload hx hb dR_isProductTooHigh_23 (lv_at hl 0 rfl) ?_
      refine lv_iadd hx hb dR_isProductTooHigh_25 ?_
      refine lv_aload_n hx hb dR_isProductTooHigh_26 rfl (lv_at hl 2 rfl) ?_
      refine zw_get (v := .int (F 3)) hx hb hT uR hown Z h1 rfl 3 (by decide) (hT _ mf_R_51) (fun _ h9 => h9) rfl dR_isProductTooHigh_27 ?_
      refine lv_icmp_le (tgt := 37) hx hb dR_isProductTooHigh_30 (by decide) (fun hq3 => ?_) (fun hq3 => ?_)
      · refine lv_iconst (v := 0) hx hb dR_isProductTooHigh_37 (by decide) ?_
        exact hret _ _ _ _ _ _ dR_isProductTooHigh_38 (⟨by rw [hF3] at hq3; rw [zhigh2, decide_eq_false (p := nI (zHi n) < _) (Int32.not_lt.mpr hq3), Bool.and_false, Bool.and_false]; rfl, rfl⟩) Z
      · refine lv_iconst (v := 1) hx hb dR_isProductTooHigh_33 (by decide) ?_
        refine lv_goto (tgt := 38) hx hb dR_isProductTooHigh_34 (by decide) ?_
        exact hret _ _ _ _ _ _ dR_isProductTooHigh_38 (⟨by rw [hF3] at hq3; rw [zhigh2, decide_eq_true (Int32.not_lt.mp hq), decide_eq_true (Int32.not_lt.mp hq2), decide_eq_true (Int32.not_le.mp hq3)]; rfl, rfl⟩) Z

def zhighp (n o : Nat) (g : Nat → Int32) (e : Nat) : Bool := decide (0 ≤ zdgr n o g) && decide (nI (zHi n) < zdgr n o g * nI e)

set_option maxHeartbeats 4000000 in
set_option maxRecDepth 100000 in
theorem c_R_isPowerTooHigh (l : Launch) {G : zG} {ad : Nat → Nat} {w : Nat → Option va_E} (P n o : Nat) (F : Nat → Int32) (hR : zRing G ad w P n o F) (a : Nat) (ga : Nat → Int32) (ha : w a = some (zi G 126 ga)) (e9 : Nat) : Met l yR_isPowerTooHigh wR_isPowerTooHigh (zR (3)) (va_Pc [.ref (ad 1), .ref (ad a), .int (nI e9)] (zw_U G ad w)) (va_Qi (S := Nat → Option va_E) (fun r w' => r = zb (zhighp n o ga e9) ∧ w' = w) (fun u t => zw_U G ((fun _ => ad) u) ((fun w' => w') u) t) (zA G)) 0 0 (zA G) := by
  refine zw_methz (S := Nat → Option va_E) (fa := fun _ => ad) (fw := fun w' => w') (by decide) rfl (Nat.le_of_ble_eq_true rfl) (fun r u h => by rw [h.1]; exact zb_nar _) ?_
  intro p e s m below meth c Q ls C hname Z hl hret
  obtain ⟨hx, hb, hml, hown, hts, hlk⟩ := C
  have hT : ∀ w ∈ zT, w.before ([.ref (ad 1), .ref (ad a), .int (nI e9)] : List Value).toArray s = true := fun w h => hts w (List.mem_cons_of_mem _ h)
  have hown : s.vm.findClass "PolynomialDesk$Ring" = some m.cls := hown
  have hl : lv_has ls 4 [(0, .ref (ad 1)), (1, .ref (ad a)), (2, .int (nI e9))] := hl
  obtain ⟨h1, ⟨hF0, hF1, hF2, hF3, hF4⟩, ⟨hP1, hP2⟩, hcfg, h4, h16, ⟨dg, h5, hdg⟩, ⟨ky, h6, hky⟩, ⟨wt, h7, hwt⟩, ⟨ix, h8, hix⟩, ⟨ch, h9⟩⟩ := id hR
  have hct := zCt_le (n := n)
  have hn4 := hcfg.2.1
  refine lv_aload_n hx hb dR_isPowerTooHigh_0 rfl (lv_at hl 0 rfl) ?_
  refine lv_aload_n hx hb dR_isPowerTooHigh_1 rfl (lv_at hl 1 rfl) ?_
  refine zw_calli (va_runV (As := [.ref (ad a)]) (rest := []) ⟨hx, hb, hml, hown, hts⟩ (c_R_degreeOf l F h1 a ga (zCt n) ha hF4 hct dg h5) (kw_R_degreeOf hts ml_R_75 (zR_fit (by omega) (by omega))) (Z.preV h1 rfl _) rfl rfl hl.1 rfl (lv_room (Nat.le_of_ble_eq_true rfl)) dR_isPowerTooHigh_2 ⟨Nat.le_of_ble_eq_true rfl, Nat.le_of_ble_eq_true rfl⟩) Z (fun r w1 H locs hp Z => ?_)
  obtain ⟨rfl, hw1⟩ := hp
  rw [hw1] at Z
  clear hw1
  refine zw_top (zdgr n o ga) (zdgr_of hdg) ?_
  refine lv_istore_n (lv' := [(3, .int (zdgr n o ga)), (0, .ref (ad 1)), (1, .ref (ad a)), (2, .int (nI e9))]) hx hb dR_isPowerTooHigh_5 rfl hl (by decide) rfl (fun ls hl => ?_)
  refine lv_iload_n hx hb dR_isPowerTooHigh_6 rfl (lv_at hl 0 rfl) ?_
  refine lv_if_lt (tgt := 24) hx hb dR_isPowerTooHigh_7 (by decide) (fun hq => ?_) (fun hq => ?_)
  · refine lv_iconst (v := 0) hx hb dR_isPowerTooHigh_24 (by decide) ?_
    exact hret _ _ _ _ _ _ dR_isPowerTooHigh_25 (⟨by rw [zhighp, decide_eq_false (Int32.not_le.mpr hq)]; rfl, rfl⟩) Z
  · refine lv_iload_n hx hb dR_isPowerTooHigh_10 rfl (lv_at hl 0 rfl) ?_
    refine lv_iload_n hx hb dR_isPowerTooHigh_11 rfl (lv_at hl 3 rfl) ?_
    refine lv_imul hx hb dR_isPowerTooHigh_12 ?_
    refine lv_aload_n hx hb dR_isPowerTooHigh_13 rfl (lv_at hl 1 rfl) ?_
    refine zw_get (v := .int (F 3)) hx hb hT uR hown Z h1 rfl 3 (by decide) (hT _ mf_R_51) (fun _ h9 => h9) rfl dR_isPowerTooHigh_14 ?_
    refine lv_icmp_le (tgt := 24) hx hb dR_isPowerTooHigh_17 (by decide) (fun hq3 => ?_) (fun hq3 => ?_)
    · refine lv_iconst (v := 0) hx hb dR_isPowerTooHigh_24 (by decide) ?_
      exact hret _ _ _ _ _ _ dR_isPowerTooHigh_25 (⟨by rw [hF3] at hq3; rw [zhighp, decide_eq_false (p := nI (zHi n) < _) (Int32.not_lt.mpr hq3), Bool.and_false]; rfl, rfl⟩) Z
    · refine lv_iconst (v := 1) hx hb dR_isPowerTooHigh_20 (by decide) ?_
      refine lv_goto (tgt := 25) hx hb dR_isPowerTooHigh_21 (by decide) ?_
      exact hret _ _ _ _ _ _ dR_isPowerTooHigh_25 (⟨by rw [hF3] at hq3; rw [zhighp, decide_eq_true (Int32.not_lt.mp hq), decide_eq_true (Int32.not_le.mp hq3)]; rfl, rfl⟩) Z

/-- c times x to the e, step by step -/
def ztp (P c x : Nat) : Nat → Nat
  | 0 => c
  | e + 1 => ztp P c x e * x % P
theorem ztp_lt {P c x : Nat} (hc : c < P) : ∀ e, ztp P c x e < P
  | 0 => hc
  | e + 1 => Nat.mod_lt _ (by omega)
theorem zmul_lt {P a b : Nat} (hP : P ≤ 32003) (ha : a < P) (hb : b < P) : a * b ≤ 1024128004 := by
  have h1 : a * b ≤ 32002 * 32002 := Nat.mul_le_mul (by omega) (by omega)
  omega

set_option maxHeartbeats 4000000 in
set_option maxRecDepth 100000 in
theorem c_R_timesPower (l : Launch) {G : zG} {ad : Nat → Nat} {w : Nat → Option va_E} (P n o : Nat) (F : Nat → Int32) (hR : zRing G ad w P n o F) (c9 x e9 : Nat) (hc9 : c9 < P) (hx9 : x < P) (he9 : e9 < 2 ^ 31) : Met l yR_timesPower wR_timesPower (zR (2)) (va_Pc [.ref (ad 1), .int (nI c9), .int (nI x), .int (nI e9)] (zw_U G ad w)) (va_Qi (S := Nat → Option va_E) (fun r w' => r = nI (ztp P c9 x e9) ∧ w' = w) (fun u t => zw_U G ((fun _ => ad) u) ((fun w' => w') u) t) (zA G)) 0 0 (zA G) := by
  refine zw_methi (S := Nat → Option va_E) (fa := fun _ => ad) (fw := fun w' => w') (by decide) rfl (Nat.le_of_ble_eq_true rfl) ?_
  intro p e s m below meth c Q ls C hname Z hl hret
  obtain ⟨hx, hb, hml, hown, hts, hlk⟩ := C
  have hT : ∀ w ∈ zT, w.before ([.ref (ad 1), .int (nI c9), .int (nI x), .int (nI e9)] : List Value).toArray s = true := fun w h => hts w (List.mem_cons_of_mem _ h)
  have hown : s.vm.findClass "PolynomialDesk$Ring" = some m.cls := hown
  have hl : lv_has ls 6 [(0, .ref (ad 1)), (1, .int (nI c9)), (2, .int (nI x)), (3, .int (nI e9))] := hl
  obtain ⟨h1, ⟨hF0, hF1, hF2, hF3, hF4⟩, ⟨hP1, hP2⟩, hcfg, h4, h16, ⟨dg, h5, hdg⟩, ⟨ky, h6, hky⟩, ⟨wt, h7, hwt⟩, ⟨ix, h8, hix⟩, ⟨ch, h9⟩⟩ := id hR
  have hct := zCt_le (n := n)
  have hn4 := hcfg.2.1
  refine lv_iload_n hx hb dR_timesPower_0 rfl (lv_at hl 1 rfl) ?_
  refine lv_istore (lv' := [(4, .int (nI c9)), (0, .ref (ad 1)), (1, .int (nI c9)), (2, .int (nI x)), (3, .int (nI e9))]) hx hb dR_timesPower_1 hl (by decide) rfl (fun ls hl => ?_)
  refine lv_iconst (v := 0) hx hb dR_timesPower_3 (by decide) ?_
  refine lv_istore (lv' := [(5, .int 0), (4, .int (nI c9)), (0, .ref (ad 1)), (1, .int (nI c9)), (2, .int (nI x)), (3, .int (nI e9))]) hx hb dR_timesPower_4 hl (by decide) rfl (fun ls hl => ?_)
  have loop : ∀ (k i : Nat) (H : Heap) (locs : List Loc) (ls : Array Slot), i + k = e9 → zw G ad w s H locs → lv_has ls 6 [(5, .int (nI i)), (4, .int (nI (ztp P c9 x i))), (0, .ref (ad 1)), (1, .int (nI c9)), (2, .int (nI x)), (3, .int (nI e9))] → W p l e (zR (2)) s m ([.ref (ad 1), .int (nI c9), .int (nI x), .int (nI e9)] : List Value).toArray below meth c H locs 0 0 Q (F0 m 6 ls []) := by
    intro k
    induction k with
    | zero =>
      intro i H locs ls hi Z hl
      refine lv_iload hx hb dR_timesPower_6 (lv_at hl 0 rfl) ?_
      refine lv_iload_n hx hb dR_timesPower_8 rfl (lv_at hl 5 rfl) ?_
      refine lv_icmp_ge (tgt := 28) hx hb dR_timesPower_9 (by decide) (fun _ => ?_) (fun hc => absurd (show (nI e9) ≤ (nI i) from nI_le (by omega) (by omega)) hc)
      refine lv_iload hx hb dR_timesPower_28 (lv_at hl 1 rfl) ?_
      exact hret _ _ _ _ _ _ dR_timesPower_30 (⟨by rw [show i = e9 by omega], rfl⟩) Z
    | succ k ih =>
      intro i H locs ls hi Z hl
      refine lv_iload hx hb dR_timesPower_6 (lv_at hl 0 rfl) ?_
      refine lv_iload_n hx hb dR_timesPower_8 rfl (lv_at hl 5 rfl) ?_
      refine lv_icmp_ge (tgt := 28) hx hb dR_timesPower_9 (by decide) (fun hc => absurd hc (show ¬ ((nI e9) ≤ (nI i)) from nI_ge (by omega) (by omega))) (fun _ => ?_)
      have hb9 := zmul_lt hP2 (ztp_lt (P := P) (x := x) hc9 i) hx9
      refine lv_aload_n hx hb dR_timesPower_12 rfl (lv_at hl 2 rfl) ?_
      refine lv_iload hx hb dR_timesPower_13 (lv_at hl 1 rfl) ?_
      refine lv_iload_n hx hb dR_timesPower_15 rfl (lv_at hl 4 rfl) ?_
      refine lv_imul hx hb dR_timesPower_16 ?_
      refine zw_top (nI (ztp P c9 x i * x)) (pk_mul _ _) ?_
      refine zw_calli (va_runV (As := [.int (nI (ztp P c9 x i * x))]) (rest := []) ⟨hx, hb, hml, hown, hts⟩ (c_R_reduce l F h1 P (nI (ztp P c9 x i * x)) hF0 hP1 (by omega)) (kw_R_reduce hts ml_R_78 (zR_fit (by omega) (by omega))) (Z.preV h1 rfl _) rfl rfl hl.1 rfl (lv_room (Nat.le_of_ble_eq_true rfl)) dR_timesPower_17 ⟨Nat.le_of_ble_eq_true rfl, Nat.le_of_ble_eq_true rfl⟩) Z (fun r w1 H locs hp Z => ?_)
      obtain ⟨rfl, hw1⟩ := hp
      rw [hw1] at Z
      clear hw1
      refine zw_top (nI (ztp P c9 x (i + 1))) (by rw [zred_nI (by omega)]; rfl) ?_
      refine lv_istore (lv' := [(4, .int (nI (ztp P c9 x (i + 1)))), (5, .int (nI i)), (0, .ref (ad 1)), (1, .int (nI c9)), (2, .int (nI x)), (3, .int (nI e9))]) hx hb dR_timesPower_20 hl (by decide) rfl (fun ls hl => ?_)
      refine lv_iinc (v := (nI (i + 1))) (lv' := [(5, .int (nI (i + 1))), (4, .int (nI (ztp P c9 x (i + 1)))), (0, .ref (ad 1)), (1, .int (nI c9)), (2, .int (nI x)), (3, .int (nI e9))]) hx hb dR_timesPower_22 hl (k := 1) rfl (nI_1 i) (by decide) rfl (fun ls hl => ?_)
      refine lv_goto (tgt := 6) hx hb dR_timesPower_25 (by decide) ?_
      exact ih (i + 1) _ _ ls (by omega) Z (lv_sub hl [0, 1, 2, 3, 4, 5] rfl)
  exact loop e9 0 _ _ ls (by omega) Z hl

set_option maxHeartbeats 4000000 in
set_option maxRecDepth 100000 in
theorem c_R_addAt (l : Launch) {G : zG} {ad : Nat → Nat} {w : Nat → Option va_E} (P n o : Nat) (F : Nat → Int32) (hR : zRing G ad w P n o F) (k i x t : Nat) (A : Nat → Nat) (hi : i < zCt n) (hk : k = zKy n o i) (ht : w t = some (zrow G A)) (hs : A i + x < 2 ^ 31) : Met l yR_addAt wR_addAt (zR (1)) (va_Pc [.ref (ad 1), .int (nI k), .int (nI x), .ref (ad t)] (zw_U G ad w)) (va_Qv (S := Nat → Option va_E) (fun w' => w' = va_up w t (some (zrow G (va_up A i ((A i + x) % P))))) (fun u t => zw_U G ((fun _ => ad) u) ((fun w' => w') u) t) (zA G)) 0 0 (zA G) := by
  refine zw_methv (S := Nat → Option va_E) (fa := fun _ => ad) (fw := fun w' => w') (by decide) rfl (Nat.le_of_ble_eq_true rfl) ?_
  intro p e s m below meth c Q ls C hname Z hl hret
  obtain ⟨hx, hb, hml, hown, hts, hlk⟩ := C
  have hT : ∀ w ∈ zT, w.before ([.ref (ad 1), .int (nI k), .int (nI x), .ref (ad t)] : List Value).toArray s = true := fun w h => hts w (List.mem_cons_of_mem _ h)
  have hown : s.vm.findClass "PolynomialDesk$Ring" = some m.cls := hown
  have hl : lv_has ls 5 [(0, .ref (ad 1)), (1, .int (nI k)), (2, .int (nI x)), (3, .ref (ad t))] := hl
  obtain ⟨h1, ⟨hF0, hF1, hF2, hF3, hF4⟩, ⟨hP1, hP2⟩, hcfg, h4, h16, ⟨dg, h5, hdg⟩, ⟨ky, h6, hky⟩, ⟨wt, h7, hwt⟩, ⟨ix, h8, hix⟩, ⟨ch, h9⟩⟩ := id hR
  have hct := zCt_le (n := n)
  have hn4 := hcfg.2.1
  have hk2 : k < 1296 := by rw [hk]; exact zKy_lt hcfg hi
  refine lv_iload_n hx hb dR_addAt_0 rfl (lv_at hl 1 rfl) ?_
  refine lv_if_lt (tgt := 20) hx hb dR_addAt_1 (by decide) (fun hc => absurd hc (show ¬ ((nI k) < 0) from nI_pos (by omega))) (fun _ => ?_)
  refine lv_iload_n hx hb dR_addAt_4 rfl (lv_at hl 1 rfl) ?_
  refine lv_sipush (v := 1296) hx hb dR_addAt_5 (by decide) ?_
  refine lv_icmp_ge (tgt := 20) hx hb dR_addAt_8 (by decide) (fun hc => absurd hc (show ¬ (1296 ≤ (nI k)) from nI_ge (b := 1296) hk2 (by decide))) (fun _ => ?_)
  refine lv_aload_n hx hb dR_addAt_11 rfl (lv_at hl 0 rfl) ?_
  refine zw_get (v := .ref (ad 8)) hx hb hT uR hown Z h1 rfl 9 (by decide) (hT _ mf_R_26) (fun _ h9 => h9) rfl dR_addAt_12 ?_
  refine lv_iload_n hx hb dR_addAt_15 rfl (lv_at hl 1 rfl) ?_
  refine zw_iald hx hb Z h8 (vin hk2 (by decide)) dR_addAt_16 ?_
  refine zw_top (nI i) (by rw [ncl (by omega), hk]; exact hix i hi) ?_
  refine lv_goto (tgt := 21) hx hb dR_addAt_17 (by decide) ?_
  refine lv_istore (lv' := [(4, .int (nI i)), (0, .ref (ad 1)), (1, .int (nI k)), (2, .int (nI x)), (3, .ref (ad t))]) hx hb dR_addAt_21 hl (by decide) rfl (fun ls hl => ?_)
  refine lv_iload hx hb dR_addAt_23 (lv_at hl 0 rfl) ?_
  refine lv_if_lt (tgt := 58) hx hb dR_addAt_25 (by decide) (fun hc => absurd hc (show ¬ ((nI i) < 0) from nI_pos (by omega))) (fun _ => ?_)
  refine lv_iload hx hb dR_addAt_28 (lv_at hl 0 rfl) ?_
  refine lv_bipush (v := 126) hx hb dR_addAt_30 (by decide) ?_
  refine lv_icmp_ge (tgt := 58) hx hb dR_addAt_32 (by decide) (fun hc => absurd hc (show ¬ (126 ≤ (nI i)) from nI_ge (b := 126) (by omega) (by decide))) (fun _ => ?_)
  refine lv_aload_n hx hb dR_addAt_35 rfl (lv_at hl 1 rfl) ?_
  refine zw_get (v := .int (F 0)) hx hb hT uR hown Z h1 rfl 0 (by decide) (hT _ mf_R_38) (fun _ h9 => h9) rfl dR_addAt_36 ?_
  refine lv_iconst (v := 1) hx hb dR_addAt_39 (by decide) ?_
  refine lv_icmp_le (tgt := 58) hx hb dR_addAt_40 (by decide) (fun hc => absurd hc (show ¬ ((F 0) ≤ 1) from by rw [hF0]; exact nI_ge (a := 1) (by omega) (by omega))) (fun _ => ?_)
  refine lv_aload_n hx hb dR_addAt_43 rfl (lv_at hl 4 rfl) ?_
  refine lv_iload hx hb dR_addAt_44 (lv_at hl 0 rfl) ?_
  refine lv_aload_n hx hb dR_addAt_46 rfl (lv_at hl 4 rfl) ?_
  refine lv_iload hx hb dR_addAt_47 (lv_at hl 0 rfl) ?_
  refine zw_iald hx hb Z ht (vin (by omega) (by decide)) dR_addAt_49 ?_
  refine zw_top (nI (A i)) (by rw [ncl (by omega)]) ?_
  refine lv_iload_n hx hb dR_addAt_50 rfl (lv_at hl 3 rfl) ?_
  refine lv_iadd hx hb dR_addAt_51 ?_
  refine zw_top (nI (A i + x)) (nI_add _ _) ?_
  refine lv_aload_n hx hb dR_addAt_52 rfl (lv_at hl 1 rfl) ?_
  refine zw_get (v := .int (F 0)) hx hb hT uR hown Z h1 rfl 0 (by decide) (hT _ mf_R_38) (fun _ h9 => h9) rfl dR_addAt_53 ?_
  refine lv_irem hx hb dR_addAt_56 (by rw [hF0]; exact nI_ne0 (by omega) (by omega)) ?_
  refine zw_top (nI ((A i + x) % P)) (by rw [hF0]; exact pk_rem hs (by omega) (by omega)) ?_
  refine zw_iast hx hb Z ht (vin (by omega) (by decide)) dR_addAt_57 (fun H locs Z => ?_)
  exact hret _ _ _ _ _ dR_addAt_58 (by rw [ncl (by omega), upd_nI]) Z

set_option maxHeartbeats 4000000 in
set_option maxRecDepth 100000 in
theorem c_R_writeCopy (l : Launch) {G : zG} {ad : Nat → Nat} {w : Nat → Option va_E} (a t : Nat) (f g : Nat → Int32) (ha : w a = some (zi G 126 f)) (ht : w t = some (zi G 126 g)) : Met l yR_writeCopy wR_writeCopy (zR (1)) (va_Pc [.ref (ad 1), .ref (ad a), .ref (ad t)] (zw_U G ad w)) (va_Qv (S := Nat → Option va_E) (fun w' => w' = va_up w t (some (zi G 126 f))) (fun u t => zw_U G ((fun _ => ad) u) ((fun w' => w') u) t) (zA G)) 0 0 (zA G) := by
  refine zw_methv (S := Nat → Option va_E) (fa := fun _ => ad) (fw := fun w' => w') (by decide) rfl (Nat.le_of_ble_eq_true rfl) ?_
  intro p e s m below meth c Q ls C hname Z hl hret
  obtain ⟨hx, hb, hml, hown, hts, hlk⟩ := C
  have hT : ∀ w ∈ zT, w.before ([.ref (ad 1), .ref (ad a), .ref (ad t)] : List Value).toArray s = true := fun w h => hts w (List.mem_cons_of_mem _ h)
  have hown : s.vm.findClass "PolynomialDesk$Ring" = some m.cls := hown
  have hl : lv_has ls 3 [(0, .ref (ad 1)), (1, .ref (ad a)), (2, .ref (ad t))] := hl
  refine lv_aload_n hx hb dR_writeCopy_0 rfl (lv_at hl 1 rfl) ?_
  refine lv_iconst (v := 0) hx hb dR_writeCopy_1 (by decide) ?_
  refine lv_aload_n hx hb dR_writeCopy_2 rfl (lv_at hl 2 rfl) ?_
  refine lv_iconst (v := 0) hx hb dR_writeCopy_3 (by decide) ?_
  refine lv_bipush (v := 126) hx hb dR_writeCopy_4 (by decide) ?_
  refine zw_copy hx hb (hml.trans hl.1.symm) hown (hT _ ml_R_86) (hT _ mx_copy) (hT _ mt_copy) (hT _ mn_System) Z (n := 126) ha ht (by decide) (Nat.le_of_ble_eq_true rfl) (Nat.le_of_ble_eq_true rfl) dR_writeCopy_6 (fun H locs Z => ?_)
  exact hret _ _ _ _ _ dR_writeCopy_9 (rfl) Z

/-- the constant x, its place i0 -/
def zcon (i0 x : Nat) : Nat → Nat := va_up (fun _ => 0) i0 x

set_option maxHeartbeats 4000000 in
set_option maxRecDepth 100000 in
theorem c_R_writeNumber (l : Launch) {G : zG} {ad : Nat → Nat} {w : Nat → Option va_E} (P n o : Nat) (F : Nat → Int32) (hR : zRing G ad w P n o F) (x : Int32) (t i0 : Nat) (g : Nat → Int32) (ht0 : 20 ≤ t) (hi0 : i0 < zCt n) (hk0 : zKy n o i0 = 0) (ht : w t = some (zi G 126 g)) : Met l yR_writeNumber wR_writeNumber (zR (2)) (va_Pc [.ref (ad 1), .int x, .ref (ad t)] (zw_U G ad w)) (va_Qv (S := Nat → Option va_E) (fun w' => w' = va_up w t (some (zrow G (zcon i0 (zred P x))))) (fun u t => zw_U G ((fun _ => ad) u) ((fun w' => w') u) t) (zA G)) 0 0 (zA G) := by
  refine zw_methv (S := Nat → Option va_E) (fa := fun _ => ad) (fw := fun w' => w') (by decide) rfl (Nat.le_of_ble_eq_true rfl) ?_
  intro p e s m below meth c Q ls C hname Z hl hret
  obtain ⟨hx, hb, hml, hown, hts, hlk⟩ := C
  have hT : ∀ w ∈ zT, w.before ([.ref (ad 1), .int x, .ref (ad t)] : List Value).toArray s = true := fun w h => hts w (List.mem_cons_of_mem _ h)
  have hown : s.vm.findClass "PolynomialDesk$Ring" = some m.cls := hown
  have hl : lv_has ls 3 [(0, .ref (ad 1)), (1, .int x), (2, .ref (ad t))] := hl
  obtain ⟨h1, ⟨hF0, hF1, hF2, hF3, hF4⟩, ⟨hP1, hP2⟩, hcfg, h4, h16, ⟨dg, h5, hdg⟩, ⟨ky, h6, hky⟩, ⟨wt, h7, hwt⟩, ⟨ix, h8, hix⟩, ⟨ch, h9⟩⟩ := id hR
  have hct := zCt_le (n := n)
  have hn4 := hcfg.2.1
  refine lv_aload_n hx hb dR_writeNumber_0 rfl (lv_at hl 2 rfl) ?_
  refine lv_iconst (v := 0) hx hb dR_writeNumber_1 (by decide) ?_
  refine zw_callv (va_runS (As := [.ref (ad t), .int 0]) (rest := []) ⟨hx, hb, hml, hown, hts⟩ (c_J_fill l t 126 g 0 ht (by decide)) (kw_J_fill hts ml_R_57 (zR_fit (by omega) (by omega))) (Z.preS _) rfl rfl hl.1 rfl (lv_room (Nat.le_of_ble_eq_true rfl)) dR_writeNumber_2 ⟨Nat.le_of_ble_eq_true rfl, Nat.le_of_ble_eq_true rfl⟩) Z (fun w1 H locs hp Z => ?_)
  subst hp
  have hR1 : zRing G ad (va_up w t (some (zi G 126 (fun _ => 0)))) P n o F := hR.up ht0
  refine lv_aload_n hx hb dR_writeNumber_5 rfl (lv_at hl 0 rfl) ?_
  refine lv_iconst (v := 0) hx hb dR_writeNumber_6 (by decide) ?_
  refine lv_aload_n hx hb dR_writeNumber_7 rfl (lv_at hl 0 rfl) ?_
  refine lv_iload_n hx hb dR_writeNumber_8 rfl (lv_at hl 1 rfl) ?_
  refine zw_calli (va_runV (As := [.int x]) (rest := [.int 0, .ref (ad 1)]) ⟨hx, hb, hml, hown, hts⟩ (c_R_reduce l F hR1.1 P x hF0 hP1 (by omega)) (kw_R_reduce hts ml_R_78 (zR_fit (by omega) (by omega))) (Z.preV hR1.1 rfl _) rfl rfl hl.1 rfl (lv_room (Nat.le_of_ble_eq_true rfl)) dR_writeNumber_9 ⟨Nat.le_of_ble_eq_true rfl, Nat.le_of_ble_eq_true rfl⟩) Z (fun r w1 H locs hp Z => ?_)
  obtain ⟨rfl, hw1⟩ := hp
  rw [hw1] at Z
  clear hw1
  have hz := zred_lt x (P := P) (by omega)
  refine lv_aload_n hx hb dR_writeNumber_12 rfl (lv_at hl 2 rfl) ?_
  refine zw_callv (va_runV (As := [.int 0, .int (nI (zred P x)), .ref (ad t)]) (rest := []) ⟨hx, hb, hml, hown, hts⟩ (c_R_addAt l P n o F hR1 0 i0 (zred P x) t (fun _ => 0) hi0 hk0.symm (va_up_self _ _ _) (by omega)) (kw_R_addAt hts ml_R_82 (zR_fit (by omega) (by omega))) (Z.preV hR1.1 rfl _) rfl rfl hl.1 rfl (lv_room (Nat.le_of_ble_eq_true rfl)) dR_writeNumber_13 ⟨Nat.le_of_ble_eq_true rfl, Nat.le_of_ble_eq_true rfl⟩) Z (fun w1 H locs hp Z => ?_)
  subst hp
  rw [bx_uu, Nat.zero_add, Nat.mod_eq_of_lt hz] at Z
  exact hret _ _ _ _ _ dR_writeNumber_16 (rfl) Z

set_option maxHeartbeats 4000000 in
set_option maxRecDepth 100000 in
theorem c_R_writeVariable (l : Launch) {G : zG} {ad : Nat → Nat} {w : Nat → Option va_E} (P n o : Nat) (F : Nat → Int32) (hR : zRing G ad w P n o F) (v t iv : Nat) (g : Nat → Int32) (hv : v < n) (ht0 : 20 ≤ t) (hiv : iv < zCt n) (hkv : zKy n o iv = zWt n v) (ht : w t = some (zi G 126 g)) : Met l yR_writeVariable wR_writeVariable (zR (2)) (va_Pc [.ref (ad 1), .int (nI v), .ref (ad t)] (zw_U G ad w)) (va_Qv (S := Nat → Option va_E) (fun w' => w' = va_up w t (some (zrow G (zcon iv 1)))) (fun u t => zw_U G ((fun _ => ad) u) ((fun w' => w') u) t) (zA G)) 0 0 (zA G) := by
  refine zw_methv (S := Nat → Option va_E) (fa := fun _ => ad) (fw := fun w' => w') (by decide) rfl (Nat.le_of_ble_eq_true rfl) ?_
  intro p e s m below meth c Q ls C hname Z hl hret
  obtain ⟨hx, hb, hml, hown, hts, hlk⟩ := C
  have hT : ∀ w ∈ zT, w.before ([.ref (ad 1), .int (nI v), .ref (ad t)] : List Value).toArray s = true := fun w h => hts w (List.mem_cons_of_mem _ h)
  have hown : s.vm.findClass "PolynomialDesk$Ring" = some m.cls := hown
  have hl : lv_has ls 3 [(0, .ref (ad 1)), (1, .int (nI v)), (2, .ref (ad t))] := hl
  obtain ⟨h1, ⟨hF0, hF1, hF2, hF3, hF4⟩, ⟨hP1, hP2⟩, hcfg, h4, h16, ⟨dg, h5, hdg⟩, ⟨ky, h6, hky⟩, ⟨wt, h7, hwt⟩, ⟨ix, h8, hix⟩, ⟨ch, h9⟩⟩ := id hR
  have hct := zCt_le (n := n)
  have hn4 := hcfg.2.1
  refine lv_aload_n hx hb dR_writeVariable_0 rfl (lv_at hl 2 rfl) ?_
  refine lv_iconst (v := 0) hx hb dR_writeVariable_1 (by decide) ?_
  refine zw_callv (va_runS (As := [.ref (ad t), .int 0]) (rest := []) ⟨hx, hb, hml, hown, hts⟩ (c_J_fill l t 126 g 0 ht (by decide)) (kw_J_fill hts ml_R_57 (zR_fit (by omega) (by omega))) (Z.preS _) rfl rfl hl.1 rfl (lv_room (Nat.le_of_ble_eq_true rfl)) dR_writeVariable_2 ⟨Nat.le_of_ble_eq_true rfl, Nat.le_of_ble_eq_true rfl⟩) Z (fun w1 H locs hp Z => ?_)
  subst hp
  have hR1 : zRing G ad (va_up w t (some (zi G 126 (fun _ => 0)))) P n o F := hR.up ht0
  have h71 : va_up w t (some (zi G 126 (fun _ => 0))) 7 = some (zi G 4 wt) := by rw [va_up_ne _ _ (by omega)]; exact h7
  refine lv_iload_n hx hb dR_writeVariable_5 rfl (lv_at hl 1 rfl) ?_
  refine lv_if_lt (tgt := 29) hx hb dR_writeVariable_6 (by decide) (fun hc => absurd hc (show ¬ ((nI v) < 0) from nI_pos (by omega))) (fun _ => ?_)
  refine lv_iload_n hx hb dR_writeVariable_9 rfl (lv_at hl 1 rfl) ?_
  refine lv_aload_n hx hb dR_writeVariable_10 rfl (lv_at hl 0 rfl) ?_
  refine zw_get (v := .int (F 1)) hx hb hT uR hown Z hR1.1 rfl 1 (by decide) (hT _ mf_R_42) (fun _ h9 => h9) rfl dR_writeVariable_11 ?_
  refine lv_icmp_ge (tgt := 29) hx hb dR_writeVariable_14 (by decide) (fun hc => absurd hc (show ¬ ((F 1) ≤ (nI v)) from by rw [hF1]; exact nI_ge hv (by omega))) (fun _ => ?_)
  refine lv_aload_n hx hb dR_writeVariable_17 rfl (lv_at hl 0 rfl) ?_
  refine lv_aload_n hx hb dR_writeVariable_18 rfl (lv_at hl 0 rfl) ?_
  refine zw_get (v := .ref (ad 7)) hx hb hT uR hown Z hR1.1 rfl 8 (by decide) (hT _ mf_R_23) (fun _ h9 => h9) rfl dR_writeVariable_19 ?_
  refine lv_iload_n hx hb dR_writeVariable_22 rfl (lv_at hl 1 rfl) ?_
  refine zw_iald hx hb Z h71 (vin (by omega) (by decide)) dR_writeVariable_23 ?_
  refine zw_top (nI (zWt n v)) (by rw [ncl (by omega)]; exact hwt v (by omega)) ?_
  refine lv_iconst (v := 1) hx hb dR_writeVariable_24 (by decide) ?_
  refine lv_aload_n hx hb dR_writeVariable_25 rfl (lv_at hl 2 rfl) ?_
  refine zw_callv (va_runV (As := [.int (nI (zWt n v)), .int 1, .ref (ad t)]) (rest := []) ⟨hx, hb, hml, hown, hts⟩ (c_R_addAt l P n o F hR1 (zWt n v) iv 1 t (fun _ => 0) hiv hkv.symm (va_up_self _ _ _) (by omega)) (kw_R_addAt hts ml_R_82 (zR_fit (by omega) (by omega))) (Z.preV hR1.1 rfl _) rfl rfl hl.1 rfl (lv_room (Nat.le_of_ble_eq_true rfl)) dR_writeVariable_26 ⟨Nat.le_of_ble_eq_true rfl, Nat.le_of_ble_eq_true rfl⟩) Z (fun w1 H locs hp Z => ?_)
  subst hp
  rw [bx_uu, Nat.zero_add, Nat.mod_eq_of_lt (by omega)] at Z
  exact hret _ _ _ _ _ dR_writeVariable_29 (rfl) Z

/-- a + f b in the field, place by place, up to n places -/
def zsum (P : Nat) (n : Nat) (ga : Nat → Int32) (f : Int32) (gb gt : Nat → Int32) : Nat → Int32 := fun j => if j < n then nI (zred P (ga j + nI (zred P f) * gb j)) else gt j

set_option maxHeartbeats 4000000 in
set_option maxRecDepth 100000 in
theorem c_R_writeSum (l : Launch) {G : zG} {ad : Nat → Nat} {w : Nat → Option va_E} (P n o : Nat) (F : Nat → Int32) (hR : zRing G ad w P n o F) (a b t : Nat) (f : Int32) (ga gb gt : Nat → Int32) (ht0 : 20 ≤ t) (ha : w a = some (zi G 126 ga)) (hb9 : w b = some (zi G 126 gb)) (ht : w t = some (zi G 126 gt)) : Met l yR_writeSum wR_writeSum (zR (2)) (va_Pc [.ref (ad 1), .ref (ad a), .int f, .ref (ad b), .ref (ad t)] (zw_U G ad w)) (va_Qv (S := Nat → Option va_E) (fun w' => w' = va_up w t (some (zi G 126 (zsum P (zCt n) ga f gb gt)))) (fun u t => zw_U G ((fun _ => ad) u) ((fun w' => w') u) t) (zA G)) 0 0 (zA G) := by
  refine zw_methv (S := Nat → Option va_E) (fa := fun _ => ad) (fw := fun w' => w') (by decide) rfl (Nat.le_of_ble_eq_true rfl) ?_
  intro p e s m below meth c Q ls C hname Z hl hret
  obtain ⟨hx, hb, hml, hown, hts, hlk⟩ := C
  have hT : ∀ w ∈ zT, w.before ([.ref (ad 1), .ref (ad a), .int f, .ref (ad b), .ref (ad t)] : List Value).toArray s = true := fun w h => hts w (List.mem_cons_of_mem _ h)
  have hown : s.vm.findClass "PolynomialDesk$Ring" = some m.cls := hown
  have hl : lv_has ls 7 [(0, .ref (ad 1)), (1, .ref (ad a)), (2, .int f), (3, .ref (ad b)), (4, .ref (ad t))] := hl
  obtain ⟨h1, ⟨hF0, hF1, hF2, hF3, hF4⟩, ⟨hP1, hP2⟩, hcfg, h4, h16, ⟨dg, h5, hdg⟩, ⟨ky, h6, hky⟩, ⟨wt, h7, hwt⟩, ⟨ix, h8, hix⟩, ⟨ch, h9⟩⟩ := id hR
  have hct := zCt_le (n := n)
  have hn4 := hcfg.2.1
  refine lv_aload_n hx hb dR_writeSum_0 rfl (lv_at hl 0 rfl) ?_
  refine lv_iload_n hx hb dR_writeSum_1 rfl (lv_at hl 2 rfl) ?_
  refine zw_calli (va_runV (As := [.int f]) (rest := []) ⟨hx, hb, hml, hown, hts⟩ (c_R_reduce l F h1 P f hF0 hP1 (by omega)) (kw_R_reduce hts ml_R_78 (zR_fit (by omega) (by omega))) (Z.preV h1 rfl _) rfl rfl hl.1 rfl (lv_room (Nat.le_of_ble_eq_true rfl)) dR_writeSum_2 ⟨Nat.le_of_ble_eq_true rfl, Nat.le_of_ble_eq_true rfl⟩) Z (fun r w1 H locs hp Z => ?_)
  obtain ⟨rfl, hw1⟩ := hp
  rw [hw1] at Z
  clear hw1
  refine lv_istore (lv' := [(5, .int (nI (zred P f))), (0, .ref (ad 1)), (1, .ref (ad a)), (2, .int f), (3, .ref (ad b)), (4, .ref (ad t))]) hx hb dR_writeSum_5 hl (by decide) rfl (fun ls hl => ?_)
  refine lv_iconst (v := 0) hx hb dR_writeSum_7 (by decide) ?_
  refine lv_istore (lv' := [(6, .int 0), (5, .int (nI (zred P f))), (0, .ref (ad 1)), (1, .ref (ad a)), (2, .int f), (3, .ref (ad b)), (4, .ref (ad t))]) hx hb dR_writeSum_8 hl (by decide) rfl (fun ls hl => ?_)
  have loop : ∀ (k i : Nat) (H : Heap) (locs : List Loc) (ls : Array Slot), i + k = zCt n → zw G ad (va_up w t (some (zi G 126 (zsum P i ga f gb gt)))) s H locs → lv_has ls 7 [(6, .int (nI i)), (5, .int (nI (zred P f))), (0, .ref (ad 1)), (1, .ref (ad a)), (2, .int f), (3, .ref (ad b)), (4, .ref (ad t))] → W p l e (zR (2)) s m ([.ref (ad 1), .ref (ad a), .int f, .ref (ad b), .ref (ad t)] : List Value).toArray below meth c H locs 0 0 Q (F0 m 10 ls []) := by
    intro k
    induction k with
    | zero =>
      intro i H locs ls hi Z hl
      have hR1 : zRing G ad (va_up w t (some (zi G 126 (zsum P i ga f gb gt)))) P n o F := hR.up ht0
      refine lv_iload hx hb dR_writeSum_10 (lv_at hl 0 rfl) ?_
      refine lv_aload_n hx hb dR_writeSum_12 rfl (lv_at hl 2 rfl) ?_
      refine zw_get (v := .int (F 4)) hx hb hT uR hown Z hR1.1 rfl 4 (by decide) (hT _ mf_R_54) (fun _ h9 => h9) rfl dR_writeSum_13 ?_
      refine lv_icmp_ge (tgt := 46) hx hb dR_writeSum_16 (by decide) (fun _ => ?_) (fun hc => absurd (show (F 4) ≤ (nI i) from by rw [hF4]; exact nI_le (by omega) (by omega)) hc)
      exact hret _ _ _ _ _ dR_writeSum_46 (by rw [show i = zCt n by omega]) Z
    | succ k ih =>
      intro i H locs ls hi Z hl
      have hR1 : zRing G ad (va_up w t (some (zi G 126 (zsum P i ga f gb gt)))) P n o F := hR.up ht0
      obtain ⟨fa, hfa, ea⟩ := zrd (i := i) (h := zsum P i ga f gb gt) ha ht (if_neg (Nat.lt_irrefl i))
      obtain ⟨fb, hfb, eb⟩ := zrd (i := i) (h := zsum P i ga f gb gt) hb9 ht (if_neg (Nat.lt_irrefl i))
      refine lv_iload hx hb dR_writeSum_10 (lv_at hl 0 rfl) ?_
      refine lv_aload_n hx hb dR_writeSum_12 rfl (lv_at hl 2 rfl) ?_
      refine zw_get (v := .int (F 4)) hx hb hT uR hown Z hR1.1 rfl 4 (by decide) (hT _ mf_R_54) (fun _ h9 => h9) rfl dR_writeSum_13 ?_
      refine lv_icmp_ge (tgt := 46) hx hb dR_writeSum_16 (by decide) (fun hc => absurd hc (show ¬ ((F 4) ≤ (nI i)) from by rw [hF4]; exact nI_ge (by omega) (by omega))) (fun _ => ?_)
      refine lv_aload hx hb dR_writeSum_19 (lv_at hl 6 rfl) ?_
      refine lv_iload hx hb dR_writeSum_21 (lv_at hl 0 rfl) ?_
      refine lv_aload_n hx hb dR_writeSum_23 rfl (lv_at hl 2 rfl) ?_
      refine lv_aload_n hx hb dR_writeSum_24 rfl (lv_at hl 3 rfl) ?_
      refine lv_iload hx hb dR_writeSum_25 (lv_at hl 0 rfl) ?_
      refine zw_iald hx hb Z hfa (vin (by omega) (by decide)) dR_writeSum_27 ?_
      refine zw_top (ga i) (by rw [ncl (by omega)]; exact ea) ?_
      refine lv_iload hx hb dR_writeSum_28 (lv_at hl 1 rfl) ?_
      refine lv_aload_n hx hb dR_writeSum_30 rfl (lv_at hl 5 rfl) ?_
      refine lv_iload hx hb dR_writeSum_31 (lv_at hl 0 rfl) ?_
      refine zw_iald hx hb Z hfb (vin (by omega) (by decide)) dR_writeSum_33 ?_
      refine zw_top (gb i) (by rw [ncl (by omega)]; exact eb) ?_
      refine lv_imul hx hb dR_writeSum_34 ?_
      refine lv_iadd hx hb dR_writeSum_35 ?_
      refine zw_calli (va_runV (As := [.int ((ga i) + ((nI (zred P f)) * (gb i)))]) (rest := [.int (nI i), .ref (ad t)]) ⟨hx, hb, hml, hown, hts⟩ (c_R_reduce l F hR1.1 P (ga i + nI (zred P f) * gb i) hF0 hP1 (by omega)) (kw_R_reduce hts ml_R_78 (zR_fit (by omega) (by omega))) (Z.preV hR1.1 rfl _) rfl rfl hl.1 rfl (lv_room (Nat.le_of_ble_eq_true rfl)) dR_writeSum_36 ⟨Nat.le_of_ble_eq_true rfl, Nat.le_of_ble_eq_true rfl⟩) Z (fun r w1 H locs hp Z => ?_)
      obtain ⟨rfl, hw1⟩ := hp
      rw [hw1] at Z
      clear hw1
      refine zw_iast hx hb Z (va_up_self _ _ _) (vin (by omega) (by decide)) dR_writeSum_39 (fun H locs Z => ?_)
      have Z := Z.ext (va_up_self _ _ _) (f' := zsum P (i + 1) ga f gb gt) (fun j hj => by
        rw [ncl (by omega)]
        by_cases h : j = i
        · subst h
          simp [upd, zsum]
        · simp only [upd, h, if_false, zsum]
          by_cases h2 : j < i
          · rw [if_pos h2, if_pos (by omega)]
          · rw [if_neg h2, if_neg (by omega)])
      rw [bx_uu, bx_uu] at Z
      refine lv_iinc (v := (nI (i + 1))) (lv' := [(6, .int (nI (i + 1))), (5, .int (nI (zred P f))), (0, .ref (ad 1)), (1, .ref (ad a)), (2, .int f), (3, .ref (ad b)), (4, .ref (ad t))]) hx hb dR_writeSum_40 hl (k := 0) rfl (nI_1 i) (by decide) rfl (fun ls hl => ?_)
      refine lv_goto (tgt := 10) hx hb dR_writeSum_43 (by decide) ?_
      exact ih (i + 1) _ _ ls (by omega) Z (lv_sub hl [0, 1, 2, 3, 4, 5, 6] rfl)
  have Z := Z.ext ht (f' := zsum P 0 ga f gb gt) (fun j _ => (if_neg (Nat.not_lt_zero j)).symm)
  exact loop (zCt n) 0 _ _ ls (by omega) Z hl
end
section
/-! sums, and the product of two rows, place by place -/
def zs (f : Nat → Nat) : Nat → Nat
  | 0 => 0
  | n + 1 => zs f n + f n
theorem zs_zero {f : Nat → Nat} : ∀ n, (∀ i, i < n → f i = 0) → zs f n = 0
  | 0, _ => rfl
  | n + 1, h => by
    rw [zs, zs_zero n (fun i hi => h i (by omega)), h n (by omega)]
theorem zs_congr {f g : Nat → Nat} : ∀ n, (∀ i, i < n → f i = g i) → zs f n = zs g n
  | 0, _ => rfl
  | n + 1, h => by
    rw [zs, zs, zs_congr n (fun i hi => h i (by omega)), h n (by omega)]
/-- what the pairs (i, j), j up to a bound, bring to the place k -/
def zpp (n o : Nat) (A B : Nat → Nat) (i k : Nat) : Nat → Nat := zs (fun j => if zKy n o i + zKy n o j = zKy n o k then A i * B j else 0)
def zpi (n o : Nat) (A B : Nat → Nat) (k : Nat) : Nat → Nat := zs (fun i => zpp n o A B i k (zCt n))
/-- the product -/
def zmul (n o P : Nat) (A B : Nat → Nat) : Nat → Nat := fun k => if k < zCt n then zpi n o A B k (zCt n) % P else 0
def zS0 (n o P : Nat) (A B : Nat → Nat) (i : Nat) : Nat → Nat := fun k => if k < zCt n then zpi n o A B k i % P else 0
def zS1 (n o P : Nat) (A B : Nat → Nat) (i j : Nat) : Nat → Nat := fun k => if k < zCt n then (zpi n o A B k i + zpp n o A B i k j) % P else 0
theorem zmul_lt' {n o P : Nat} (hP : 0 < P) (A B : Nat → Nat) (k : Nat) : zmul n o P A B k < P := by
  unfold zmul
  split
  · exact Nat.mod_lt _ hP
  · exact hP
theorem zS1_lt {n o P : Nat} (hP : 0 < P) (A B : Nat → Nat) (i j k : Nat) : zS1 n o P A B i j k < P := by
  unfold zS1
  split
  · exact Nat.mod_lt _ hP
  · exact hP
theorem zS1_end (n o P : Nat) (A B : Nat → Nat) (i : Nat) : zS1 n o P A B i (zCt n) = zS0 n o P A B (i + 1) := rfl
theorem zpp_z {n o : Nat} {A B : Nat → Nat} {i k : Nat} (h : A i = 0) (j : Nat) : zpp n o A B i k j = 0 := zs_zero j (fun j' _ => by rw [h, Nat.zero_mul]; split <;> rfl)
theorem zpp_b {n o : Nat} {A B : Nat → Nat} {i k j : Nat} (h : ∀ j', j' < j → B j' = 0) : zpp n o A B i k j = 0 := zs_zero j (fun j' hj => by rw [h j' hj, Nat.mul_zero]; split <;> rfl)
theorem zS1_skip {n o P : Nat} {A B : Nat → Nat} {i : Nat} (h : A i = 0) : zS0 n o P A B i = zS0 n o P A B (i + 1) := by
  funext k
  unfold zS0
  rw [show zpi n o A B k (i + 1) = zpi n o A B k i + zpp n o A B i k (zCt n) from rfl, zpp_z h, Nat.add_zero]
theorem zS1_first {n o P : Nat} {A B : Nat → Nat} {i j : Nat} (h : ∀ j', j' < j → B j' = 0) : zS1 n o P A B i j = zS0 n o P A B i := by
  funext k
  unfold zS0 zS1
  rw [zpp_b h, Nat.add_zero]
theorem zS0_first {n o P : Nat} {A B : Nat → Nat} {i : Nat} (h : ∀ i', i' < i → A i' = 0) : zS0 n o P A B i = fun _ => 0 := by
  funext k
  unfold zS0
  rw [show zpi n o A B k i = 0 from zs_zero i (fun i' hi => zpp_z (h i' hi) _), Nat.zero_mod]
  split <;> rfl
theorem zS1_nob {n o P : Nat} {A B : Nat → Nat} {i j : Nat} (h : B j = 0) : zS1 n o P A B i (j + 1) = zS1 n o P A B i j := by
  funext k
  unfold zS1
  rw [show zpp n o A B i k (j + 1) = zpp n o A B i k j + (if zKy n o i + zKy n o j = zKy n o k then A i * B j else 0) from rfl, h, Nat.mul_zero]
  split <;> simp
theorem zS1_step {n o P : Nat} {A B : Nat → Nat} {i j q : Nat} (hc : zCfg n o) (hq : q < zCt n) (hk : zKy n o q = zKy n o i + zKy n o j) : va_up (zS1 n o P A B i j) q ((zS1 n o P A B i j q + A i * B j) % P) = zS1 n o P A B i (j + 1) := by
  funext k
  by_cases h : k = q
  · subst h
    rw [va_up_self]
    unfold zS1
    rw [if_pos hq, if_pos hq, show zpp n o A B i k (j + 1) = zpp n o A B i k j + (if zKy n o i + zKy n o j = zKy n o k then A i * B j else 0) from rfl, if_pos hk.symm, Nat.mod_add_mod, Nat.add_assoc]
  · rw [va_up_ne _ _ h]
    unfold zS1
    by_cases hk2 : k < zCt n
    · rw [if_pos hk2, if_pos hk2, show zpp n o A B i k (j + 1) = zpp n o A B i k j + (if zKy n o i + zKy n o j = zKy n o k then A i * B j else 0) from rfl, if_neg (fun e => h (zKy_inj hc hk2 hq (by rw [hk, e]))), Nat.add_zero]
    · rw [if_neg hk2, if_neg hk2]
theorem zfst_zero (g : Nat → Int32) : ∀ (n i j : Nat), i ≤ j → j < zfst g i n → g j = 0
  | 0, i, j, h1, h2 => by
    simp only [zfst] at h2
    omega
  | n + 1, i, j, h1, h2 => by
    simp only [zfst] at h2
    split at h2
    · next h =>
      by_cases e : j = i
      · rw [e]; exact h
      · exact zfst_zero g n (i + 1) j (by omega) h2
    · omega
theorem nI_z {a : Nat} (ha : a < 2 ^ 31) (h : nI a = 0) : a = 0 := by
  by_cases h0 : a = 0
  · exact h0
  · exact absurd h (nI_ne0 (by omega) ha)
theorem zfst_nz {A : Nat → Nat} {P ct : Nat} (hA : ∀ i, A i < P) (hP : P ≤ 32003) : ∀ j, j < zfst (fun i => nI (A i)) 0 ct → A j = 0 := fun j hj => nI_z (by have := hA j; omega) (zfst_zero _ ct 0 j (Nat.zero_le j) hj)
end
section
set_option maxHeartbeats 4000000 in
set_option maxRecDepth 100000 in
theorem c_R_writeProduct (l : Launch) {G : zG} {ad : Nat → Nat} {w : Nat → Option va_E} (P n o : Nat) (F : Nat → Int32) (hR : zRing G ad w P n o F) (a b t : Nat) (A B : Nat → Nat) (gs gt : Nat → Int32) (ha0 : a ≠ 71) (hb0 : b ≠ 71) (ht0 : 20 ≤ t) (hA : ∀ i, A i < P) (hB : ∀ i, B i < P) (ha : w a = some (zrow G A)) (hb9 : w b = some (zrow G B)) (hs : w 71 = some (zi G 126 gs)) (ht : w t = some (zi G 126 gt)) (hdeg : ∀ i j, i < zCt n → j < zCt n → A i ≠ 0 → B j ≠ 0 → zDg n o i + zDg n o j ≤ zHi n) : Met l yR_writeProduct wR_writeProduct (zR (2)) (va_Pc [.ref (ad 1), .ref (ad a), .ref (ad b), .ref (ad t)] (zw_U G ad w)) (va_Qv (S := Nat → Option va_E) (fun w' => w' = va_up (va_up w 71 (some (zrow G (zmul n o P A B)))) t (some (zrow G (zmul n o P A B)))) (fun u t => zw_U G ((fun _ => ad) u) ((fun w' => w') u) t) (zA G)) 0 0 (zA G) := by
  refine zw_methv (S := Nat → Option va_E) (fa := fun _ => ad) (fw := fun w' => w') (by decide) rfl (Nat.le_of_ble_eq_true rfl) ?_
  intro p e s m below meth c Q ls C hname Z hl hret
  obtain ⟨hx, hb, hml, hown, hts, hlk⟩ := C
  have hT : ∀ w ∈ zT, w.before ([.ref (ad 1), .ref (ad a), .ref (ad b), .ref (ad t)] : List Value).toArray s = true := fun w h => hts w (List.mem_cons_of_mem _ h)
  have hown : s.vm.findClass "PolynomialDesk$Ring" = some m.cls := hown
  have hl : lv_has ls 7 [(0, .ref (ad 1)), (1, .ref (ad a)), (2, .ref (ad b)), (3, .ref (ad t))] := hl
  obtain ⟨h1, ⟨hF0, hF1, hF2, hF3, hF4⟩, ⟨hP1, hP2⟩, hcfg, h4, h16, ⟨dg, h5, hdg⟩, ⟨ky, h6, hky⟩, ⟨wt, h7, hwt⟩, ⟨ix, h8, hix⟩, ⟨ch, h9⟩⟩ := id hR
  have hct := zCt_le (n := n)
  have hn4 := hcfg.2.1
  refine lv_aload_n hx hb dR_writeProduct_0 rfl (lv_at hl 0 rfl) ?_
  refine zw_get (v := .ref (ad 71)) hx hb hT uR hown Z h1 rfl 11 (by decide) (hT _ mf_R_32) (fun _ h9 => h9) rfl dR_writeProduct_1 ?_
  refine lv_iconst (v := 0) hx hb dR_writeProduct_4 (by decide) ?_
  refine zw_callv (va_runS (As := [.ref (ad 71), .int 0]) (rest := []) ⟨hx, hb, hml, hown, hts⟩ (c_J_fill l 71 126 gs 0 hs (by decide)) (kw_J_fill hts ml_R_57 (zR_fit (by omega) (by omega))) (Z.preS _) rfl rfl hl.1 rfl (lv_room (Nat.le_of_ble_eq_true rfl)) dR_writeProduct_5 ⟨Nat.le_of_ble_eq_true rfl, Nat.le_of_ble_eq_true rfl⟩) Z (fun w1 H locs hp Z => ?_)
  subst hp
  have hR1 : zRing G ad (va_up w 71 (some (zi G 126 (fun _ => 0)))) P n o F := hR.up (by decide)
  have ha1 : va_up w 71 (some (zi G 126 (fun _ => 0))) a = some (zrow G A) := by rw [va_up_ne _ _ ha0]; exact ha
  have hb1 : va_up w 71 (some (zi G 126 (fun _ => 0))) b = some (zrow G B) := by rw [va_up_ne _ _ hb0]; exact hb9
  refine lv_aload_n hx hb dR_writeProduct_8 rfl (lv_at hl 0 rfl) ?_
  refine lv_aload_n hx hb dR_writeProduct_9 rfl (lv_at hl 2 rfl) ?_
  refine zw_calli (va_runV (As := [.ref (ad b)]) (rest := []) ⟨hx, hb, hml, hown, hts⟩ (c_R_leadingOf l F hR1.1 b _ (zCt n) hb1 hF4 hct) (kw_R_leadingOf hts ml_R_71 (zR_fit (by omega) (by omega))) (Z.preV hR1.1 rfl _) rfl rfl hl.1 rfl (lv_room (Nat.le_of_ble_eq_true rfl)) dR_writeProduct_10 ⟨Nat.le_of_ble_eq_true rfl, Nat.le_of_ble_eq_true rfl⟩) Z (fun r w1 H locs hp Z => ?_)
  obtain ⟨rfl, hw1⟩ := hp
  rw [hw1] at Z
  clear hw1
  refine lv_istore (lv' := [(4, .int (nI (zfst (fun i => nI (B i)) 0 (zCt n)))), (0, .ref (ad 1)), (1, .ref (ad a)), (2, .ref (ad b)), (3, .ref (ad t))]) hx hb dR_writeProduct_13 hl (by decide) rfl (fun ls hl => ?_)
  refine lv_aload_n hx hb dR_writeProduct_15 rfl (lv_at hl 1 rfl) ?_
  refine lv_aload_n hx hb dR_writeProduct_16 rfl (lv_at hl 2 rfl) ?_
  refine zw_calli (va_runV (As := [.ref (ad a)]) (rest := []) ⟨hx, hb, hml, hown, hts⟩ (c_R_leadingOf l F hR1.1 a _ (zCt n) ha1 hF4 hct) (kw_R_leadingOf hts ml_R_71 (zR_fit (by omega) (by omega))) (Z.preV hR1.1 rfl _) rfl rfl hl.1 rfl (lv_room (Nat.le_of_ble_eq_true rfl)) dR_writeProduct_17 ⟨Nat.le_of_ble_eq_true rfl, Nat.le_of_ble_eq_true rfl⟩) Z (fun r w1 H locs hp Z => ?_)
  obtain ⟨rfl, hw1⟩ := hp
  rw [hw1] at Z
  clear hw1
  refine lv_istore (lv' := [(5, .int (nI (zfst (fun i => nI (A i)) 0 (zCt n)))), (4, .int (nI (zfst (fun i => nI (B i)) 0 (zCt n)))), (0, .ref (ad 1)), (1, .ref (ad a)), (2, .ref (ad b)), (3, .ref (ad t))]) hx hb dR_writeProduct_20 hl (by decide) rfl (fun ls hl => ?_)
  have hla := zfst_nz (ct := zCt n) hA hP2
  have hlb := zfst_nz (ct := zCt n) hB hP2
  have hla2 := (zfst_in (fun i => nI (A i)) (zCt n) 0).2
  have hlb2 := (zfst_in (fun i => nI (B i)) (zCt n) 0).2
  generalize zfst (fun i => nI (A i)) 0 (zCt n) = la at hl hla hla2 ⊢
  generalize zfst (fun i => nI (B i)) 0 (zCt n) = lb at hl hlb hlb2 ⊢
  have inner : ∀ (i : Nat), i < zCt n → ¬ A i = 0 → (∀ (H : Heap) (locs : List Loc) (ls : Array Slot), zw G ad (va_up w 71 (some (zrow G (zS0 n o P A B (i + 1))))) s H locs → lv_has ls 7 [(5, .int (nI i)), (4, .int (nI lb)), (0, .ref (ad 1)), (1, .ref (ad a)), (2, .ref (ad b)), (3, .ref (ad t))] → W p l e (zR (2)) s m ([.ref (ad 1), .ref (ad a), .ref (ad b), .ref (ad t)] : List Value).toArray below meth c H locs 0 0 Q (F0 m 96 ls [])) → ∀ (k j : Nat) (H : Heap) (locs : List Loc) (ls : Array Slot), j + k = zCt n → zw G ad (va_up w 71 (some (zrow G (zS1 n o P A B i j)))) s H locs → lv_has ls 7 [(6, .int (nI j)), (5, .int (nI i)), (4, .int (nI lb)), (0, .ref (ad 1)), (1, .ref (ad a)), (2, .ref (ad b)), (3, .ref (ad t))] → W p l e (zR (2)) s m ([.ref (ad 1), .ref (ad a), .ref (ad b), .ref (ad t)] : List Value).toArray below meth c H locs 0 0 Q (F0 m 35 ls []) := by
    intro i hi hAi cont k
    induction k with
    | zero =>
      intro j H locs ls hj Z hl
      have hR1 : zRing G ad (va_up w 71 (some (zrow G (zS1 n o P A B i j)))) P n o F := hR.up (by decide)
      have ha1 : (va_up w 71 (some (zrow G (zS1 n o P A B i j)))) a = some (zrow G A) := by rw [va_up_ne _ _ ha0]; exact ha
      have hb1 : (va_up w 71 (some (zrow G (zS1 n o P A B i j)))) b = some (zrow G B) := by rw [va_up_ne _ _ hb0]; exact hb9
      have h61 : (va_up w 71 (some (zrow G (zS1 n o P A B i j)))) 6 = some (zi G 126 ky) := by rw [va_up_ne _ _ (by decide)]; exact h6
      refine lv_aload_n hx hb dR_writeProduct_35 rfl (lv_at hl 4 rfl) ?_
      refine lv_iload hx hb dR_writeProduct_36 (lv_at hl 1 rfl) ?_
      refine zw_iald hx hb Z ha1 (vin (by omega) (by decide)) dR_writeProduct_38 ?_
      refine zw_top (nI (A i)) (by rw [ncl (by omega)]) ?_
      refine lv_if_eq (tgt := 96) hx hb dR_writeProduct_39 (by decide) (fun hc => absurd hc (show ¬ ((nI (A i)) = 0) from fun h9 => hAi (nI_z (by have := hA i; omega) h9))) (fun _ => ?_)
      refine lv_iload hx hb dR_writeProduct_42 (lv_at hl 0 rfl) ?_
      refine lv_aload_n hx hb dR_writeProduct_44 rfl (lv_at hl 3 rfl) ?_
      refine zw_get (v := .int (F 4)) hx hb hT uR hown Z hR1.1 rfl 4 (by decide) (hT _ mf_R_54) (fun _ h9 => h9) rfl dR_writeProduct_45 ?_
      refine lv_icmp_ge (tgt := 96) hx hb dR_writeProduct_48 (by decide) (fun _ => ?_) (fun hc => absurd (show (F 4) ≤ (nI j) from by rw [hF4]; exact nI_le (by omega) (by omega)) hc)
      rw [show j = zCt n by omega, zS1_end] at Z
      exact cont _ _ ls Z (lv_sub hl [1, 2, 3, 4, 5, 6] rfl)
    | succ k ih =>
      intro j H locs ls hj Z hl
      have hR1 : zRing G ad (va_up w 71 (some (zrow G (zS1 n o P A B i j)))) P n o F := hR.up (by decide)
      have ha1 : (va_up w 71 (some (zrow G (zS1 n o P A B i j)))) a = some (zrow G A) := by rw [va_up_ne _ _ ha0]; exact ha
      have hb1 : (va_up w 71 (some (zrow G (zS1 n o P A B i j)))) b = some (zrow G B) := by rw [va_up_ne _ _ hb0]; exact hb9
      have h61 : (va_up w 71 (some (zrow G (zS1 n o P A B i j)))) 6 = some (zi G 126 ky) := by rw [va_up_ne _ _ (by decide)]; exact h6
      refine lv_aload_n hx hb dR_writeProduct_35 rfl (lv_at hl 4 rfl) ?_
      refine lv_iload hx hb dR_writeProduct_36 (lv_at hl 1 rfl) ?_
      refine zw_iald hx hb Z ha1 (vin (by omega) (by decide)) dR_writeProduct_38 ?_
      refine zw_top (nI (A i)) (by rw [ncl (by omega)]) ?_
      refine lv_if_eq (tgt := 96) hx hb dR_writeProduct_39 (by decide) (fun hc => absurd hc (show ¬ ((nI (A i)) = 0) from fun h9 => hAi (nI_z (by have := hA i; omega) h9))) (fun _ => ?_)
      refine lv_iload hx hb dR_writeProduct_42 (lv_at hl 0 rfl) ?_
      refine lv_aload_n hx hb dR_writeProduct_44 rfl (lv_at hl 3 rfl) ?_
      refine zw_get (v := .int (F 4)) hx hb hT uR hown Z hR1.1 rfl 4 (by decide) (hT _ mf_R_54) (fun _ h9 => h9) rfl dR_writeProduct_45 ?_
      refine lv_icmp_ge (tgt := 96) hx hb dR_writeProduct_48 (by decide) (fun hc => absurd hc (show ¬ ((F 4) ≤ (nI j)) from by rw [hF4]; exact nI_ge (by omega) (by omega))) (fun _ => ?_)
      refine lv_aload_n hx hb dR_writeProduct_51 rfl (lv_at hl 5 rfl) ?_
      refine lv_iload hx hb dR_writeProduct_52 (lv_at hl 0 rfl) ?_
      refine zw_iald hx hb Z hb1 (vin (by omega) (by decide)) dR_writeProduct_54 ?_
      refine zw_top (nI (B j)) (by rw [ncl (by omega)]) ?_
      refine lv_if_eq (tgt := 90) hx hb dR_writeProduct_55 (by decide) (fun hq => ?_) (fun hq => ?_)
      · refine lv_iinc (v := (nI (j + 1))) (lv' := [(6, .int (nI (j + 1))), (5, .int (nI i)), (4, .int (nI lb)), (0, .ref (ad 1)), (1, .ref (ad a)), (2, .ref (ad b)), (3, .ref (ad t))]) hx hb dR_writeProduct_90 hl (k := 0) rfl (nI_1 j) (by decide) rfl (fun ls hl => ?_)
        refine lv_goto (tgt := 35) hx hb dR_writeProduct_93 (by decide) ?_
        exact ih (j + 1) _ _ ls (by omega) (by rw [zS1_nob (nI_z (by have := hB j; omega) hq)]; exact Z) (lv_sub hl [0, 1, 2, 3, 4, 5, 6] rfl)
      · have hBj : B j ≠ 0 := fun h9 => hq (by rw [h9]; rfl)
        obtain ⟨q, hq1, hq2, -⟩ := zAdd hcfg hi (show j < zCt n by omega) (hdeg i j hi (by omega) hAi hBj)
        have hm9 := zmul_lt hP2 (hA i) (hB j)
        have hs9 := zS1_lt (n := n) (o := o) (show 0 < P by omega) A B i j q
        refine lv_aload_n hx hb dR_writeProduct_58 rfl (lv_at hl 3 rfl) ?_
        refine lv_aload_n hx hb dR_writeProduct_59 rfl (lv_at hl 3 rfl) ?_
        refine zw_get (v := .ref (ad 6)) hx hb hT uR hown Z hR1.1 rfl 7 (by decide) (hT _ mf_R_20) (fun _ h9 => h9) rfl dR_writeProduct_60 ?_
        refine lv_iload hx hb dR_writeProduct_63 (lv_at hl 1 rfl) ?_
        refine zw_iald hx hb Z h61 (vin (by omega) (by decide)) dR_writeProduct_65 ?_
        refine zw_top (nI (zKy n o i)) (by rw [ncl (by omega)]; exact hky i hi) ?_
        refine lv_aload_n hx hb dR_writeProduct_66 rfl (lv_at hl 3 rfl) ?_
        refine zw_get (v := .ref (ad 6)) hx hb hT uR hown Z hR1.1 rfl 7 (by decide) (hT _ mf_R_20) (fun _ h9 => h9) rfl dR_writeProduct_67 ?_
        refine lv_iload hx hb dR_writeProduct_70 (lv_at hl 0 rfl) ?_
        refine zw_iald hx hb Z h61 (vin (by omega) (by decide)) dR_writeProduct_72 ?_
        refine zw_top (nI (zKy n o j)) (by rw [ncl (by omega)]; exact hky j (by omega)) ?_
        refine lv_iadd hx hb dR_writeProduct_73 ?_
        refine zw_top (nI (zKy n o i + zKy n o j)) (nI_add _ _) ?_
        refine lv_aload_n hx hb dR_writeProduct_74 rfl (lv_at hl 4 rfl) ?_
        refine lv_iload hx hb dR_writeProduct_75 (lv_at hl 1 rfl) ?_
        refine zw_iald hx hb Z ha1 (vin (by omega) (by decide)) dR_writeProduct_77 ?_
        refine zw_top (nI (A i)) (by rw [ncl (by omega)]) ?_
        refine lv_aload_n hx hb dR_writeProduct_78 rfl (lv_at hl 5 rfl) ?_
        refine lv_iload hx hb dR_writeProduct_79 (lv_at hl 0 rfl) ?_
        refine zw_iald hx hb Z hb1 (vin (by omega) (by decide)) dR_writeProduct_81 ?_
        refine zw_top (nI (B j)) (by rw [ncl (by omega)]) ?_
        refine lv_imul hx hb dR_writeProduct_82 ?_
        refine zw_top (nI (A i * B j)) (pk_mul _ _) ?_
        refine lv_aload_n hx hb dR_writeProduct_83 rfl (lv_at hl 3 rfl) ?_
        refine zw_get (v := .ref (ad 71)) hx hb hT uR hown Z hR1.1 rfl 11 (by decide) (hT _ mf_R_32) (fun _ h9 => h9) rfl dR_writeProduct_84 ?_
        refine zw_callv (va_runV (As := [.int (nI (zKy n o i + zKy n o j)), .int (nI (A i * B j)), .ref (ad 71)]) (rest := []) ⟨hx, hb, hml, hown, hts⟩ (c_R_addAt l P n o F hR1 (zKy n o i + zKy n o j) q (A i * B j) 71 (zS1 n o P A B i j) hq1 hq2.symm (va_up_self _ _ _) (by omega)) (kw_R_addAt hts ml_R_82 (zR_fit (by omega) (by omega))) (Z.preV hR1.1 rfl _) rfl rfl hl.1 rfl (lv_room (Nat.le_of_ble_eq_true rfl)) dR_writeProduct_87 ⟨Nat.le_of_ble_eq_true rfl, Nat.le_of_ble_eq_true rfl⟩) Z (fun w1 H locs hp Z => ?_)
        subst hp
        rw [bx_uu, zS1_step hcfg hq1 hq2] at Z
        refine lv_iinc (v := (nI (j + 1))) (lv' := [(6, .int (nI (j + 1))), (5, .int (nI i)), (4, .int (nI lb)), (0, .ref (ad 1)), (1, .ref (ad a)), (2, .ref (ad b)), (3, .ref (ad t))]) hx hb dR_writeProduct_90 hl (k := 0) rfl (nI_1 j) (by decide) rfl (fun ls hl => ?_)
        refine lv_goto (tgt := 35) hx hb dR_writeProduct_93 (by decide) ?_
        exact ih (j + 1) _ _ ls (by omega) Z (lv_sub hl [0, 1, 2, 3, 4, 5, 6] rfl)
  have outer : ∀ (k i : Nat) (H : Heap) (locs : List Loc) (ls : Array Slot), i + k = zCt n → zw G ad (va_up w 71 (some (zrow G (zS0 n o P A B i)))) s H locs → lv_has ls 7 [(5, .int (nI i)), (4, .int (nI lb)), (0, .ref (ad 1)), (1, .ref (ad a)), (2, .ref (ad b)), (3, .ref (ad t))] → W p l e (zR (2)) s m ([.ref (ad 1), .ref (ad a), .ref (ad b), .ref (ad t)] : List Value).toArray below meth c H locs 0 0 Q (F0 m 22 ls []) := by
    intro k
    induction k with
    | zero =>
      intro i H locs ls hi Z hl
      have hR1 : zRing G ad (va_up w 71 (some (zrow G (zS0 n o P A B i)))) P n o F := hR.up (by decide)
      have ha1 : (va_up w 71 (some (zrow G (zS0 n o P A B i)))) a = some (zrow G A) := by rw [va_up_ne _ _ ha0]; exact ha
      have hb1 : (va_up w 71 (some (zrow G (zS0 n o P A B i)))) b = some (zrow G B) := by rw [va_up_ne _ _ hb0]; exact hb9
      have h61 : (va_up w 71 (some (zrow G (zS0 n o P A B i)))) 6 = some (zi G 126 ky) := by rw [va_up_ne _ _ (by decide)]; exact h6
      refine lv_iload hx hb dR_writeProduct_22 (lv_at hl 0 rfl) ?_
      refine lv_aload_n hx hb dR_writeProduct_24 rfl (lv_at hl 2 rfl) ?_
      refine zw_get (v := .int (F 4)) hx hb hT uR hown Z hR1.1 rfl 4 (by decide) (hT _ mf_R_54) (fun _ h9 => h9) rfl dR_writeProduct_25 ?_
      refine lv_icmp_ge (tgt := 102) hx hb dR_writeProduct_28 (by decide) (fun _ => ?_) (fun hc => absurd (show (F 4) ≤ (nI i) from by rw [hF4]; exact nI_le (by omega) (by omega)) hc)
      rw [show i = zCt n by omega] at Z
      have ht1 : ∃ g9 : Nat → Int32, va_up w 71 (some (zrow G (zmul n o P A B))) t = some (zi G 126 g9) := by
        by_cases h : t = 71
        · subst h
          exact ⟨_, va_up_self _ _ _⟩
        · exact ⟨gt, by rw [va_up_ne _ _ h]; exact ht⟩
      obtain ⟨g9, ht1⟩ := ht1
      have Z : zw G ad (va_up w 71 (some (zrow G (zmul n o P A B)))) s H locs := Z
      have hR1 : zRing G ad (va_up w 71 (some (zrow G (zmul n o P A B)))) P n o F := hR.up (by decide)
      refine lv_aload_n hx hb dR_writeProduct_102 rfl (lv_at hl 2 rfl) ?_
      refine zw_get (v := .ref (ad 71)) hx hb hT uR hown Z hR1.1 rfl 11 (by decide) (hT _ mf_R_32) (fun _ h9 => h9) rfl dR_writeProduct_103 ?_
      refine lv_iconst (v := 0) hx hb dR_writeProduct_106 (by decide) ?_
      refine lv_aload_n hx hb dR_writeProduct_107 rfl (lv_at hl 5 rfl) ?_
      refine lv_iconst (v := 0) hx hb dR_writeProduct_108 (by decide) ?_
      refine lv_bipush (v := 126) hx hb dR_writeProduct_109 (by decide) ?_
      refine zw_copy hx hb (hml.trans hl.1.symm) hown (hT _ ml_R_86) (hT _ mx_copy) (hT _ mt_copy) (hT _ mn_System) Z (n := 126) (va_up_self _ _ _) ht1 (by decide) (Nat.le_of_ble_eq_true rfl) (Nat.le_of_ble_eq_true rfl) dR_writeProduct_111 (fun H locs Z => ?_)
      exact hret _ _ _ _ _ dR_writeProduct_114 (rfl) Z
    | succ k ih =>
      intro i H locs ls hi Z hl
      have hR1 : zRing G ad (va_up w 71 (some (zrow G (zS0 n o P A B i)))) P n o F := hR.up (by decide)
      have ha1 : (va_up w 71 (some (zrow G (zS0 n o P A B i)))) a = some (zrow G A) := by rw [va_up_ne _ _ ha0]; exact ha
      have hb1 : (va_up w 71 (some (zrow G (zS0 n o P A B i)))) b = some (zrow G B) := by rw [va_up_ne _ _ hb0]; exact hb9
      have h61 : (va_up w 71 (some (zrow G (zS0 n o P A B i)))) 6 = some (zi G 126 ky) := by rw [va_up_ne _ _ (by decide)]; exact h6
      refine lv_iload hx hb dR_writeProduct_22 (lv_at hl 0 rfl) ?_
      refine lv_aload_n hx hb dR_writeProduct_24 rfl (lv_at hl 2 rfl) ?_
      refine zw_get (v := .int (F 4)) hx hb hT uR hown Z hR1.1 rfl 4 (by decide) (hT _ mf_R_54) (fun _ h9 => h9) rfl dR_writeProduct_25 ?_
      refine lv_icmp_ge (tgt := 102) hx hb dR_writeProduct_28 (by decide) (fun hc => absurd hc (show ¬ ((F 4) ≤ (nI i)) from by rw [hF4]; exact nI_ge (by omega) (by omega))) (fun _ => ?_)
      refine lv_iload hx hb dR_writeProduct_31 (lv_at hl 1 rfl) ?_
      refine lv_istore (lv' := [(6, .int (nI lb)), (5, .int (nI i)), (4, .int (nI lb)), (0, .ref (ad 1)), (1, .ref (ad a)), (2, .ref (ad b)), (3, .ref (ad t))]) hx hb dR_writeProduct_33 hl (by decide) rfl (fun ls hl => ?_)
      have cont : ∀ (H : Heap) (locs : List Loc) (ls : Array Slot), zw G ad (va_up w 71 (some (zrow G (zS0 n o P A B (i + 1))))) s H locs → lv_has ls 7 [(5, .int (nI i)), (4, .int (nI lb)), (0, .ref (ad 1)), (1, .ref (ad a)), (2, .ref (ad b)), (3, .ref (ad t))] → W p l e (zR (2)) s m ([.ref (ad 1), .ref (ad a), .ref (ad b), .ref (ad t)] : List Value).toArray below meth c H locs 0 0 Q (F0 m 96 ls []) := by
        intro H locs ls Z hl
        refine lv_iinc (v := (nI (i + 1))) (lv' := [(5, .int (nI (i + 1))), (4, .int (nI lb)), (0, .ref (ad 1)), (1, .ref (ad a)), (2, .ref (ad b)), (3, .ref (ad t))]) hx hb dR_writeProduct_96 hl (k := 0) rfl (nI_1 i) (by decide) rfl (fun ls hl => ?_)
        refine lv_goto (tgt := 22) hx hb dR_writeProduct_99 (by decide) ?_
        exact ih (i + 1) _ _ ls (by omega) Z (lv_sub hl [0, 1, 2, 3, 4, 5] rfl)
      by_cases hAi : A i = 0
      · have Z0 := Z
        refine lv_aload_n hx hb dR_writeProduct_35 rfl (lv_at hl 4 rfl) ?_
        refine lv_iload hx hb dR_writeProduct_36 (lv_at hl 1 rfl) ?_
        refine zw_iald hx hb Z ha1 (vin (by omega) (by decide)) dR_writeProduct_38 ?_
        refine zw_top (nI (A i)) (by rw [ncl (by omega)]) ?_
        refine lv_if_eq (tgt := 96) hx hb dR_writeProduct_39 (by decide) (fun _ => ?_) (fun hc => absurd (show (nI (A i)) = 0 from by rw [hAi]; rfl) hc)
        rw [zS1_skip hAi] at Z
        exact cont _ _ ls Z (lv_sub hl [1, 2, 3, 4, 5, 6] rfl)
      · exact inner i (by omega) hAi cont (zCt n - lb) lb _ _ ls (by omega) (by rw [zS1_first hlb]; exact Z) hl
  exact outer (zCt n - la) la _ _ ls (by omega) (by rw [zS0_first hla]; exact Z) hl
end
section
/-! sums of sums, and the product's laws -/
theorem zs_add {f g : Nat → Nat} : ∀ n, zs (fun i => f i + g i) n = zs f n + zs g n
  | 0 => rfl
  | n + 1 => by
    simp only [zs]
    rw [zs_add n]
    omega
theorem zs_mulr {f : Nat → Nat} {c : Nat} : ∀ n, zs (fun i => f i * c) n = zs f n * c
  | 0 => by simp [zs]
  | n + 1 => by
    simp only [zs]
    rw [zs_mulr n, Nat.add_mul]
theorem zs_mull {f : Nat → Nat} {c : Nat} : ∀ n, zs (fun i => c * f i) n = c * zs f n
  | 0 => by simp [zs]
  | n + 1 => by
    simp only [zs]
    rw [zs_mull n, Nat.mul_add]
theorem zs_comm {f : Nat → Nat → Nat} (m : Nat) : ∀ n, zs (fun i => zs (fun j => f i j) m) n = zs (fun j => zs (fun i => f i j) n) m
  | 0 => by
    simp only [zs]
    exact (zs_zero m (fun _ _ => rfl)).symm
  | n + 1 => by
    simp only [zs]
    rw [zs_comm m n, ← zs_add]
theorem zs_mod {f g : Nat → Nat} {P : Nat} : ∀ n, (∀ i, i < n → f i % P = g i % P) → zs f n % P = zs g n % P
  | 0, _ => rfl
  | n + 1, h => by
    simp only [zs]
    rw [Nat.add_mod, zs_mod n (fun i hi => h i (by omega)), h n (by omega), ← Nat.add_mod]
theorem zs_one {f : Nat → Nat} {i0 : Nat} : ∀ n, i0 < n → (∀ i, i < n → i ≠ i0 → f i = 0) → zs f n = f i0
  | 0, h, _ => by omega
  | n + 1, h, hz => by
    simp only [zs]
    by_cases e : n = i0
    · subst e
      rw [zs_zero n (fun i hi => hz i (by omega) (by omega)), Nat.zero_add]
    · rw [zs_one n (by omega) (fun i hi hne => hz i (by omega) hne), hz n (by omega) e, Nat.add_zero]
/-- no coefficient of a higher degree than d -/
def zdle (n o : Nat) (A : Nat → Nat) (d : Nat) : Prop := ∀ i, i < zCt n → A i ≠ 0 → zDg n o i ≤ d
/-- a polynomial of the field: numbers below P, nothing behind the last monomial -/
def zpol (n P : Nat) (A : Nat → Nat) : Prop := (∀ i, A i < P) ∧ ∀ i, zCt n ≤ i → A i = 0
theorem zmul_pol {n o P : Nat} (hP : 0 < P) (A B : Nat → Nat) : zpol n P (zmul n o P A B) := ⟨zmul_lt' hP A B, fun i hi => if_neg (by omega)⟩
theorem zcon_pol {n P i0 x : Nat} (hi : i0 < zCt n) (hx : x < P) : zpol n P (zcon i0 x) := by
  refine ⟨fun i => ?_, fun i h => ?_⟩
  · unfold zcon
    by_cases e : i = i0
    · subst e; rw [va_up_self]; exact hx
    · rw [va_up_ne _ _ e]; omega
  · unfold zcon
    rw [va_up_ne _ _ (by omega)]
theorem zmul_dle {n o P : Nat} {A B : Nat → Nat} {d e : Nat} (hc : zCfg n o) (hA : zdle n o A d) (hB : zdle n o B e) (hde : d + e ≤ zHi n) : zdle n o (zmul n o P A B) (d + e) := by
  intro k hk hne
  apply Classical.byContradiction
  intro hgt
  apply hne
  unfold zmul
  rw [if_pos hk, show zpi n o A B k (zCt n) = 0 from zs_zero _ (fun i hi => zs_zero _ (fun j hj => ?_)), Nat.zero_mod]
  by_cases hz : A i * B j = 0
  · rw [hz]; split <;> rfl
  · have h1 : A i ≠ 0 := fun h => hz (by rw [h, Nat.zero_mul])
    have h2 : B j ≠ 0 := fun h => hz (by rw [h, Nat.mul_zero])
    have h3 := hA i hi h1
    have h4 := hB j hj h2
    rw [if_neg]
    intro he
    obtain ⟨q, hq1, hq2, hq3⟩ := zAdd hc hi hj (by omega)
    have : q = k := zKy_inj hc hq1 hk (by rw [hq2, he])
    subst this
    omega
/-- the three-fold product, before the remainder -/
def ztri (n o : Nat) (A B C : Nat → Nat) (k : Nat) : Nat := zs (fun i => zs (fun j => zs (fun l => if zKy n o i + zKy n o j + zKy n o l = zKy n o k then A i * B j * C l else 0) (zCt n)) (zCt n)) (zCt n)
theorem zmul_eq {n o P : Nat} (A B : Nat → Nat) {k : Nat} (hk : k < zCt n) : zmul n o P A B k = zs (fun i => zs (fun j => if zKy n o i + zKy n o j = zKy n o k then A i * B j else 0) (zCt n)) (zCt n) % P := if_pos hk
theorem zif_mul {c : Prop} [Decidable c] {x y : Nat} : (if c then x else 0) * y = if c then x * y else 0 := by
  split
  · rfl
  · exact Nat.zero_mul y
theorem zmul_if {c : Prop} [Decidable c] {x y : Nat} : y * (if c then x else 0) = if c then y * x else 0 := by
  split
  · rfl
  · exact Nat.mul_zero y
/-- a pair's place is one -/
theorem zpair {n o i j : Nat} (hc : zCfg n o) (hi : i < zCt n) (hj : j < zCt n) (hd : zDg n o i + zDg n o j ≤ zHi n) (f : Nat → Nat) (X : Nat) : zs (fun q => if zKy n o i + zKy n o j = zKy n o q then (if f (zKy n o q) = X then 1 else 0) else 0) (zCt n) = if f (zKy n o i + zKy n o j) = X then 1 else 0 := by
  obtain ⟨q, hq1, hq2, -⟩ := zAdd hc hi hj hd
  rw [zs_one _ hq1 (fun r hr hne => if_neg (fun h => hne (zKy_inj hc hr hq1 (by rw [hq2, h])))), if_pos hq2.symm, hq2]
theorem zassoc1 {n o P : Nat} {A B C : Nat → Nat} (hc : zCfg n o) (hd : ∀ i j, i < zCt n → j < zCt n → A i ≠ 0 → B j ≠ 0 → zDg n o i + zDg n o j ≤ zHi n) {k : Nat} (hk : k < zCt n) : zmul n o P (zmul n o P A B) C k = ztri n o A B C k % P := by
  rw [zmul_eq _ _ hk]
  have h1 : ∀ q, q < zCt n → zs (fun l => if zKy n o q + zKy n o l = zKy n o k then zmul n o P A B q * C l else 0) (zCt n) % P = zs (fun l => if zKy n o q + zKy n o l = zKy n o k then zs (fun i => zs (fun j => if zKy n o i + zKy n o j = zKy n o q then A i * B j else 0) (zCt n)) (zCt n) * C l else 0) (zCt n) % P := by
    intro q hq
    refine zs_mod _ (fun l hl => ?_)
    split
    · rw [zmul_eq A B hq]
      exact Nat.mod_mul_mod ..
    · rfl
  rw [zs_mod _ h1]
  congr 1
  have h2 : ∀ q l : Nat, (if zKy n o q + zKy n o l = zKy n o k then zs (fun i => zs (fun j => if zKy n o i + zKy n o j = zKy n o q then A i * B j else 0) (zCt n)) (zCt n) * C l else 0) = zs (fun i => zs (fun j => (if zKy n o i + zKy n o j = zKy n o q then (if zKy n o q + zKy n o l = zKy n o k then 1 else 0) else 0) * (A i * B j * C l)) (zCt n)) (zCt n) := by
    intro q l
    split
    · rw [← zs_mulr]
      refine zs_congr _ (fun i hi => ?_)
      rw [← zs_mulr]
      refine zs_congr _ (fun j hj => ?_)
      split
      · rw [Nat.one_mul]
      · rw [Nat.zero_mul, Nat.zero_mul]
    · exact (zs_zero _ (fun i hi => zs_zero _ (fun j hj => by split <;> simp))).symm
  have h3 : zs (fun q => zs (fun l => if zKy n o q + zKy n o l = zKy n o k then zs (fun i => zs (fun j => if zKy n o i + zKy n o j = zKy n o q then A i * B j else 0) (zCt n)) (zCt n) * C l else 0) (zCt n)) (zCt n)
      = zs (fun q => zs (fun l => zs (fun i => zs (fun j => (if zKy n o i + zKy n o j = zKy n o q then (if zKy n o q + zKy n o l = zKy n o k then 1 else 0) else 0) * (A i * B j * C l)) (zCt n)) (zCt n)) (zCt n)) (zCt n) :=
    zs_congr _ (fun q _ => zs_congr _ (fun l _ => h2 q l))
  rw [h3]
  -- bring q innermost: q l i j -> i j l q
  have h4 : ∀ q, zs (fun l => zs (fun i => zs (fun j => (if zKy n o i + zKy n o j = zKy n o q then (if zKy n o q + zKy n o l = zKy n o k then 1 else 0) else 0) * (A i * B j * C l)) (zCt n)) (zCt n)) (zCt n)
      = zs (fun i => zs (fun j => zs (fun l => (if zKy n o i + zKy n o j = zKy n o q then (if zKy n o q + zKy n o l = zKy n o k then 1 else 0) else 0) * (A i * B j * C l)) (zCt n)) (zCt n)) (zCt n) := by
    intro q
    rw [zs_comm]
    exact zs_congr _ (fun i _ => zs_comm _ _)
  rw [zs_congr _ (fun q _ => h4 q), zs_comm]
  unfold ztri
  refine zs_congr _ (fun i hi => ?_)
  rw [zs_comm]
  refine zs_congr _ (fun j hj => ?_)
  rw [zs_comm]
  refine zs_congr _ (fun l hl => ?_)
  rw [zs_mulr]
  by_cases hz : A i * B j = 0
  · rw [hz, Nat.zero_mul, Nat.mul_zero]
    split <;> rfl
  · have h5 := zpair hc hi hj (hd i j hi hj (fun h => hz (by rw [h, Nat.zero_mul])) (fun h => hz (by rw [h, Nat.mul_zero]))) (fun x => x + zKy n o l) (zKy n o k)
    rw [h5]
    split
    · exact Nat.one_mul _
    · exact Nat.zero_mul _
theorem zmul_comm {n o P : Nat} (A B : Nat → Nat) : zmul n o P A B = zmul n o P B A := by
  funext k
  by_cases hk : k < zCt n
  · rw [zmul_eq _ _ hk, zmul_eq _ _ hk, zs_comm]
    congr 1
    exact zs_congr _ (fun i _ => zs_congr _ (fun j _ => by rw [Nat.add_comm, Nat.mul_comm]))
  · unfold zmul
    rw [if_neg hk, if_neg hk]
theorem ztri_rot {n o : Nat} (A B C : Nat → Nat) (k : Nat) : ztri n o A B C k = ztri n o B C A k := by
  unfold ztri
  rw [zs_comm]
  refine zs_congr _ (fun j _ => ?_)
  rw [zs_comm]
  refine zs_congr _ (fun l _ => ?_)
  refine zs_congr _ (fun i _ => ?_)
  rw [show zKy n o i + zKy n o j + zKy n o l = zKy n o j + zKy n o l + zKy n o i by omega, show A i * B j * C l = B j * C l * A i by rw [Nat.mul_assoc, Nat.mul_comm]]
theorem zassoc {n o P : Nat} {A B C : Nat → Nat} (hc : zCfg n o) (h1 : ∀ i j, i < zCt n → j < zCt n → A i ≠ 0 → B j ≠ 0 → zDg n o i + zDg n o j ≤ zHi n) (h2 : ∀ i j, i < zCt n → j < zCt n → B i ≠ 0 → C j ≠ 0 → zDg n o i + zDg n o j ≤ zHi n) : zmul n o P (zmul n o P A B) C = zmul n o P A (zmul n o P B C) := by
  funext k
  by_cases hk : k < zCt n
  · rw [zassoc1 hc h1 hk, zmul_comm A, zassoc1 hc h2 hk, ztri_rot]
  · unfold zmul
    rw [if_neg hk, if_neg hk]
theorem zmul_one {n o P i0 : Nat} {A : Nat → Nat} (hc : zCfg n o) (hA : zpol n P A) (hi : i0 < zCt n) (hk0 : zKy n o i0 = 0) : zmul n o P A (zcon i0 1) = A := by
  funext k
  by_cases hk : k < zCt n
  · rw [zmul_eq _ _ hk, zs_one (i0 := k) _ hk (fun i hi9 hne => zs_zero _ (fun j hj => ?_)), zs_one (i0 := i0) _ hi (fun j hj hne => ?_)]
    · rw [hk0, Nat.add_zero, if_pos rfl]
      show A k * zcon i0 1 i0 % P = A k
      rw [show zcon i0 1 i0 = 1 from va_up_self _ _ _, Nat.mul_one]
      exact Nat.mod_eq_of_lt (hA.1 k)
    · rw [show zcon i0 1 j = 0 from va_up_ne _ _ hne, Nat.mul_zero]
      split <;> rfl
    · by_cases e : j = i0
      · subst e
        rw [if_neg]
        intro h
        exact hne (zKy_inj hc hi9 hk (by omega))
      · rw [show zcon i0 1 j = 0 from va_up_ne _ _ e, Nat.mul_zero]
        split <;> rfl
  · unfold zmul
    rw [if_neg hk, hA.2 k (by omega)]
/-- powers, one factor after the other -/
def zpow (n o P i0 : Nat) (A : Nat → Nat) : Nat → Nat → Nat
  | 0 => zcon i0 1
  | e + 1 => zmul n o P (zpow n o P i0 A e) A
theorem zpow_pol {n o P i0 : Nat} {A : Nat → Nat} (hP : 2 ≤ P) (hi : i0 < zCt n) : ∀ e, zpol n P (zpow n o P i0 A e)
  | 0 => zcon_pol hi (by omega)
  | e + 1 => zmul_pol (by omega) _ _
theorem zpow_dle {n o P i0 : Nat} {A : Nat → Nat} {d E : Nat} (hc : zCfg n o) (hd0 : zDg n o i0 = 0) (hA : zdle n o A d) (hE : E * d ≤ zHi n) : ∀ e, e ≤ E → zdle n o (zpow n o P i0 A e) (e * d)
  | 0, _ => fun i hi hne => by
    by_cases h : i = i0
    · subst h; omega
    · exact absurd (show zcon i0 1 i = 0 from va_up_ne _ _ h) hne
  | e + 1, he => by
    have h1 : (e + 1) * d ≤ E * d := Nat.mul_le_mul_right d he
    rw [Nat.add_mul, Nat.one_mul] at h1 ⊢
    exact zmul_dle hc (zpow_dle hc hd0 hA hE e (by omega)) hA (by omega)
theorem zpow_add {n o P i0 : Nat} {A : Nat → Nat} {d E : Nat} (hP : 2 ≤ P) (hc : zCfg n o) (hi : i0 < zCt n) (hk0 : zKy n o i0 = 0) (hd0 : zDg n o i0 = 0) (hA : zdle n o A d) (hE : E * d ≤ zHi n) (a : Nat) : ∀ b, a + b ≤ E → zmul n o P (zpow n o P i0 A a) (zpow n o P i0 A b) = zpow n o P i0 A (a + b)
  | 0, _ => zmul_one hc (zpow_pol hP hi a) hi hk0
  | b + 1, h => by
    have h1 : (a + b) * d ≤ E * d := Nat.mul_le_mul_right d (by omega)
    have h2 : (b + 1) * d ≤ E * d := Nat.mul_le_mul_right d (by omega)
    rw [Nat.add_mul] at h1
    rw [Nat.add_mul, Nat.one_mul] at h2
    have ha := zpow_dle (P := P) hc hd0 hA hE a (by omega)
    have hb := zpow_dle (P := P) hc hd0 hA hE b (by omega)
    show zmul n o P (zpow n o P i0 A a) (zmul n o P (zpow n o P i0 A b) A) = zmul n o P (zpow n o P i0 A (a + b)) A
    rw [← zassoc hc (fun i j hi9 hj9 h3 h4 => by have := ha i hi9 h3; have := hb j hj9 h4; omega) (fun i j hi9 hj9 h3 h4 => by have := hb i hi9 h3; have := hA j hj9 h4; omega), zpow_add hP hc hi hk0 hd0 hA hE a b (by omega)]
end
section
theorem up_same {α : Type} {f : Nat → α} {k : Nat} {v : α} (h : f k = v) : va_up f k v = f := by
  funext j
  by_cases e : j = k
  · subst e
    rw [va_up_self, h]
  · rw [va_up_ne _ _ e]
theorem up_swap {α : Type} {f : Nat → α} {k t : Nat} {g y x z : α} (h : t ≠ k) : va_up (va_up (va_up (va_up f k g) t y) k x) t z = va_up (va_up f k x) t z := by
  funext j
  by_cases e : j = t
  · subst e
    rw [va_up_self, va_up_self]
  · rw [va_up_ne _ _ e, va_up_ne _ _ e]
    by_cases e2 : j = k
    · subst e2
      rw [va_up_self, va_up_self]
    · rw [va_up_ne _ _ e2, va_up_ne _ _ e, va_up_ne _ _ e2, va_up_ne _ _ e2]
theorem zsh31 : ∀ b, b < 32 → ((nI b &&& 31).toBitVec.smod 32).toNat = b := by decide +kernel

set_option maxHeartbeats 4000000 in
set_option maxRecDepth 100000 in
theorem c_R_writePower (l : Launch) {G : zG} {ad : Nat → Nat} {w : Nat → Option va_E} (P n o : Nat) (F : Nat → Int32) (hR : zRing G ad w P n o F) (i0 : Nat) (hi0 : i0 < zCt n) (hk0 : zKy n o i0 = 0) (hd0 : zDg n o i0 = 0) (a t e9 d : Nat) (A : Nat → Nat) (gs gt gb : Nat → Int32) (ha : w a = some (zrow G A)) (ht : w t = some (zi G 126 gt)) (hs : w 71 = some (zi G 126 gs)) (h72 : w 72 = some (zi G 126 gb)) (ht0 : 20 ≤ t) (ht1 : t ≠ 71) (ht2 : t ≠ 72) (hA : zpol n P A) (hd : zdle n o A d) (hde : e9 * d ≤ zHi n) (he : e9 < 128) : Met l yR_writePower wR_writePower (zR (3)) (va_Pc [.ref (ad 1), .ref (ad a), .int (nI e9), .ref (ad t)] (zw_U G ad w)) (va_Qv (S := Nat → Option va_E) (fun w' => ∃ g : Nat → Int32, w' = va_up (va_up (va_up w 72 (some (zrow G A))) 71 (some (zi G 126 g))) t (some (zrow G (zpow n o P i0 A (e9))))) (fun u t => zw_U G ((fun _ => ad) u) ((fun w' => w') u) t) (zA G)) 0 0 (zA G) := by
  refine zw_methv (S := Nat → Option va_E) (fa := fun _ => ad) (fw := fun w' => w') (by decide) rfl (Nat.le_of_ble_eq_true rfl) ?_
  intro p e s m below meth c Q ls C hname Z hl hret
  obtain ⟨hx, hb, hml, hown, hts, hlk⟩ := C
  have hT : ∀ w ∈ zT, w.before ([.ref (ad 1), .ref (ad a), .int (nI e9), .ref (ad t)] : List Value).toArray s = true := fun w h => hts w (List.mem_cons_of_mem _ h)
  have hown : s.vm.findClass "PolynomialDesk$Ring" = some m.cls := hown
  have hl : lv_has ls 5 [(0, .ref (ad 1)), (1, .ref (ad a)), (2, .int (nI e9)), (3, .ref (ad t))] := hl
  obtain ⟨h1, ⟨hF0, hF1, hF2, hF3, hF4⟩, ⟨hP1, hP2⟩, hcfg, h4, h16, ⟨dg, h5, hdg⟩, ⟨ky, h6, hky⟩, ⟨wt, h7, hwt⟩, ⟨ix, h8, hix⟩, ⟨ch, h9⟩⟩ := id hR
  have hct := zCt_le (n := n)
  have hn4 := hcfg.2.1
  refine lv_aload_n hx hb dR_writePower_0 rfl (lv_at hl 1 rfl) ?_
  refine lv_iconst (v := 0) hx hb dR_writePower_1 (by decide) ?_
  refine lv_aload_n hx hb dR_writePower_2 rfl (lv_at hl 0 rfl) ?_
  refine zw_get (v := .ref (ad 72)) hx hb hT uR hown Z h1 rfl 12 (by decide) (hT _ mf_R_35) (fun _ h9 => h9) rfl dR_writePower_3 ?_
  refine lv_iconst (v := 0) hx hb dR_writePower_6 (by decide) ?_
  refine lv_bipush (v := 126) hx hb dR_writePower_7 (by decide) ?_
  refine zw_copy hx hb (hml.trans hl.1.symm) hown (hT _ ml_R_86) (hT _ mx_copy) (hT _ mt_copy) (hT _ mn_System) Z (n := 126) ha h72 (by decide) (Nat.le_of_ble_eq_true rfl) (Nat.le_of_ble_eq_true rfl) dR_writePower_9 (fun H locs Z => ?_)
  have hR1 : zRing G ad (va_up w 72 (some (zrow G A))) P n o F := hR.up (by decide)
  have ht9 : va_up w 72 (some (zrow G A)) t = some (zi G 126 gt) := by rw [va_up_ne _ _ ht2]; exact ht
  refine lv_aload_n hx hb dR_writePower_12 rfl (lv_at hl 0 rfl) ?_
  refine lv_iconst (v := 1) hx hb dR_writePower_13 (by decide) ?_
  refine lv_aload_n hx hb dR_writePower_14 rfl (lv_at hl 3 rfl) ?_
  refine zw_callv (va_runV (As := [.int 1, .ref (ad t)]) (rest := []) ⟨hx, hb, hml, hown, hts⟩ (c_R_writeNumber l P n o F hR1 1 t i0 gt ht0 hi0 hk0 ht9) (kw_R_writeNumber hts ml_R_92 (zR_fit (by omega) (by omega))) (Z.preV hR1.1 rfl _) rfl rfl hl.1 rfl (lv_room (Nat.le_of_ble_eq_true rfl)) dR_writePower_15 ⟨Nat.le_of_ble_eq_true rfl, Nat.le_of_ble_eq_true rfl⟩) Z (fun w1 H locs hp Z => ?_)
  have hz1 : zred P 1 = 1 := (zred_nI (P := P) (a := 1) (by decide)).trans (Nat.mod_eq_of_lt (by omega))
  subst hp
  rw [hz1, ← up_same (f := va_up w 72 (some (zrow G A))) (k := 71) (v := some (zi G 126 gs)) (by rw [va_up_ne _ _ (by decide)]; exact hs)] at Z
  refine lv_bipush (v := 6) hx hb dR_writePower_18 (by decide) ?_
  refine lv_istore (lv' := [(4, .int 6), (0, .ref (ad 1)), (1, .ref (ad a)), (2, .int (nI e9)), (3, .ref (ad t))]) hx hb dR_writePower_20 hl (by decide) rfl (fun ls hl => ?_)
  have loop : ∀ (k : Nat) (g : Nat → Int32) (H : Heap) (locs : List Loc) (ls : Array Slot), k ≤ 7 → zw G ad (va_up (va_up (va_up w 72 (some (zrow G A))) 71 (some (zi G 126 g))) t (some (zrow G (zpow n o P i0 A (e9 / 2 ^ k))))) s H locs → lv_has ls 5 [(4, .int (nI k - 1)), (0, .ref (ad 1)), (1, .ref (ad a)), (2, .int (nI e9)), (3, .ref (ad t))] → W p l e (zR (3)) s m ([.ref (ad 1), .ref (ad a), .int (nI e9), .ref (ad t)] : List Value).toArray below meth c H locs 0 0 Q (F0 m 22 ls []) := by
    intro k
    induction k with
    | zero =>
      intro g H locs ls hk Z hl
      rw [Nat.pow_zero, Nat.div_one] at Z
      have hR1 : zRing G ad (va_up (va_up (va_up w 72 (some (zrow G A))) 71 (some (zi G 126 g))) t (some (zrow G (zpow n o P i0 A (e9))))) P n o F := ((hR.up (by decide)).up (by decide)).up ht0
      have hL71 : (va_up (va_up (va_up w 72 (some (zrow G A))) 71 (some (zi G 126 g))) t (some (zrow G (zpow n o P i0 A (e9))))) 71 = some (zi G 126 g) := by rw [va_up_ne _ _ (Ne.symm ht1), va_up_self]
      have hLt : (va_up (va_up (va_up w 72 (some (zrow G A))) 71 (some (zi G 126 g))) t (some (zrow G (zpow n o P i0 A (e9))))) t = some (zrow G (zpow n o P i0 A (e9))) := va_up_self _ _ _
      have hL72 : (va_up (va_up (va_up w 72 (some (zrow G A))) 71 (some (zi G 126 g))) t (some (zrow G (zpow n o P i0 A (e9))))) 72 = some (zrow G A) := by rw [va_up_ne _ _ (Ne.symm ht2), va_up_ne _ _ (by decide), va_up_self]
      refine lv_iload hx hb dR_writePower_22 (lv_at hl 0 rfl) ?_
      refine lv_if_lt (tgt := 68) hx hb dR_writePower_24 (by decide) (fun _ => ?_) (fun hc => absurd (show (nI 0 - 1) < 0 from by decide) hc)
      exact hret _ _ _ _ _ dR_writePower_68 (⟨g, rfl⟩) Z
    | succ k ih =>
      intro g H locs ls hk Z hl
      rw [nI_pred] at hl
      obtain ⟨q, hq⟩ : ∃ q, q = e9 / 2 ^ k := ⟨_, rfl⟩
      have hq2 : e9 / 2 ^ (k + 1) = q / 2 := by rw [Nat.pow_succ, ← Nat.div_div_eq_div_mul, hq]
      have hqe : q ≤ e9 := by rw [hq]; exact Nat.div_le_self _ _
      rw [hq2] at Z
      have hmd : q * d ≤ zHi n := Nat.le_trans (Nat.mul_le_mul_right d hqe) hde
      have hhalf : q / 2 * d + q / 2 * d ≤ q * d := by rw [← Nat.add_mul]; exact Nat.mul_le_mul_right d (by omega)
      have hdl := zpow_dle (P := P) hcfg hd0 hd hde
      have cont : ∀ (g : Nat → Int32) (H : Heap) (locs : List Loc) (ls : Array Slot), zw G ad (va_up (va_up (va_up w 72 (some (zrow G A))) 71 (some (zi G 126 g))) t (some (zrow G (zpow n o P i0 A (q / 2 + q / 2))))) s H locs → lv_has ls 5 [(4, .int (nI k)), (0, .ref (ad 1)), (1, .ref (ad a)), (2, .int (nI e9)), (3, .ref (ad t))] → W p l e (zR (3)) s m ([.ref (ad 1), .ref (ad a), .int (nI e9), .ref (ad t)] : List Value).toArray below meth c H locs 0 0 Q (F0 m 42 ls []) := by
        intro g H locs ls Z hl
        have hR1 : zRing G ad (va_up (va_up (va_up w 72 (some (zrow G A))) 71 (some (zi G 126 g))) t (some (zrow G (zpow n o P i0 A (q / 2 + q / 2))))) P n o F := ((hR.up (by decide)).up (by decide)).up ht0
        have hL71 : (va_up (va_up (va_up w 72 (some (zrow G A))) 71 (some (zi G 126 g))) t (some (zrow G (zpow n o P i0 A (q / 2 + q / 2))))) 71 = some (zi G 126 g) := by rw [va_up_ne _ _ (Ne.symm ht1), va_up_self]
        have hLt : (va_up (va_up (va_up w 72 (some (zrow G A))) 71 (some (zi G 126 g))) t (some (zrow G (zpow n o P i0 A (q / 2 + q / 2))))) t = some (zrow G (zpow n o P i0 A (q / 2 + q / 2))) := va_up_self _ _ _
        have hL72 : (va_up (va_up (va_up w 72 (some (zrow G A))) 71 (some (zi G 126 g))) t (some (zrow G (zpow n o P i0 A (q / 2 + q / 2))))) 72 = some (zrow G A) := by rw [va_up_ne _ _ (Ne.symm ht2), va_up_ne _ _ (by decide), va_up_self]
        refine lv_iload_n hx hb dR_writePower_42 rfl (lv_at hl 3 rfl) ?_
        refine lv_iload hx hb dR_writePower_43 (lv_at hl 0 rfl) ?_
        refine lv_ishr hx hb dR_writePower_45 ?_
        refine zw_top (nI q) (by rw [hq]; exact pk_shrN (by omega) _ k (zsh31 k (by omega))) ?_
        refine lv_iconst (v := 1) hx hb dR_writePower_46 (by decide) ?_
        refine lv_iand hx hb dR_writePower_47 ?_
        refine zw_top (nI (q % 2)) (pk_andN (by omega) 1 (by decide)) ?_
        refine lv_iconst (v := 1) hx hb dR_writePower_48 (by decide) ?_
        refine lv_icmp_ne (tgt := 62) hx hb dR_writePower_49 (by decide) (fun hc => ?_) (fun hc => ?_)
        · have hq0 : q % 2 = 0 := by
            have : q % 2 ≠ 1 := fun h9 => hc (by rw [h9]; rfl)
            omega
          refine lv_iinc (v := ((nI k) + (-1))) (lv' := [(4, .int ((nI k) + (-1))), (0, .ref (ad 1)), (1, .ref (ad a)), (2, .int (nI e9)), (3, .ref (ad t))]) hx hb dR_writePower_62 hl (k := 0) rfl (rfl) (by decide) rfl (fun ls hl => ?_)
          refine lv_goto (tgt := 22) hx hb dR_writePower_65 (by decide) ?_
          exact ih g _ _ ls (by omega) (by rw [← hq, show q = q / 2 + q / 2 by omega]; exact Z) (by rw [Int32.sub_eq_add_neg]; exact (lv_sub hl [0, 1, 2, 3, 4] rfl))
        · have hq1 : q % 2 = 1 := (nI_eq (by omega) (by decide)).mp (show nI (q % 2) = nI 1 from hc)
          have hdl1 := hdl (q / 2 + q / 2) (by omega)
          have hdd : (q / 2 + q / 2) * d + d ≤ zHi n := by
            have h9 : (q / 2 + q / 2 + 1) * d ≤ q * d := Nat.mul_le_mul_right d (by omega)
            rw [Nat.add_mul, Nat.one_mul] at h9
            omega
          refine lv_aload_n hx hb dR_writePower_52 rfl (lv_at hl 1 rfl) ?_
          refine lv_aload_n hx hb dR_writePower_53 rfl (lv_at hl 4 rfl) ?_
          refine lv_aload_n hx hb dR_writePower_54 rfl (lv_at hl 1 rfl) ?_
          refine zw_get (v := .ref (ad 72)) hx hb hT uR hown Z hR1.1 rfl 12 (by decide) (hT _ mf_R_35) (fun _ h9 => h9) rfl dR_writePower_55 ?_
          refine lv_aload_n hx hb dR_writePower_58 rfl (lv_at hl 4 rfl) ?_
          refine zw_callv (va_runV (As := [.ref (ad t), .ref (ad 72), .ref (ad t)]) (rest := []) ⟨hx, hb, hml, hown, hts⟩ (c_R_writeProduct l P n o F hR1 t 72 t (zpow n o P i0 A (q / 2 + q / 2)) A g _ ht1 (by decide) ht0 (zpow_pol hP1 hi0 _).1 hA.1 hLt hL72 hL71 hLt (fun i j hi hj h8 h9 => by have := hdl1 i hi h8; have := hd j hj h9; omega)) (kw_R_writeProduct hts ml_R_96 (zR_fit (by omega) (by omega))) (Z.preV hR1.1 rfl _) rfl rfl hl.1 rfl (lv_room (Nat.le_of_ble_eq_true rfl)) dR_writePower_59 ⟨Nat.le_of_ble_eq_true rfl, Nat.le_of_ble_eq_true rfl⟩) Z (fun w1 H locs hp Z => ?_)
          subst hp
          rw [up_swap ht1] at Z
          refine lv_iinc (v := ((nI k) + (-1))) (lv' := [(4, .int ((nI k) + (-1))), (0, .ref (ad 1)), (1, .ref (ad a)), (2, .int (nI e9)), (3, .ref (ad t))]) hx hb dR_writePower_62 hl (k := 0) rfl (rfl) (by decide) rfl (fun ls hl => ?_)
          refine lv_goto (tgt := 22) hx hb dR_writePower_65 (by decide) ?_
          exact ih _ _ _ ls (by omega) (by rw [← hq, show q = q / 2 + q / 2 + 1 by omega]; exact Z) (by rw [Int32.sub_eq_add_neg]; exact (lv_sub hl [0, 1, 2, 3, 4] rfl))
      have hR1 : zRing G ad (va_up (va_up (va_up w 72 (some (zrow G A))) 71 (some (zi G 126 g))) t (some (zrow G (zpow n o P i0 A (q / 2))))) P n o F := ((hR.up (by decide)).up (by decide)).up ht0
      have hL71 : (va_up (va_up (va_up w 72 (some (zrow G A))) 71 (some (zi G 126 g))) t (some (zrow G (zpow n o P i0 A (q / 2))))) 71 = some (zi G 126 g) := by rw [va_up_ne _ _ (Ne.symm ht1), va_up_self]
      have hLt : (va_up (va_up (va_up w 72 (some (zrow G A))) 71 (some (zi G 126 g))) t (some (zrow G (zpow n o P i0 A (q / 2))))) t = some (zrow G (zpow n o P i0 A (q / 2))) := va_up_self _ _ _
      have hL72 : (va_up (va_up (va_up w 72 (some (zrow G A))) 71 (some (zi G 126 g))) t (some (zrow G (zpow n o P i0 A (q / 2))))) 72 = some (zrow G A) := by rw [va_up_ne _ _ (Ne.symm ht2), va_up_ne _ _ (by decide), va_up_self]
      refine lv_iload hx hb dR_writePower_22 (lv_at hl 0 rfl) ?_
      refine lv_if_lt (tgt := 68) hx hb dR_writePower_24 (by decide) (fun hc => absurd hc (show ¬ ((nI k) < 0) from nI_pos (by omega))) (fun _ => ?_)
      refine lv_iload_n hx hb dR_writePower_27 rfl (lv_at hl 3 rfl) ?_
      refine lv_iload hx hb dR_writePower_28 (lv_at hl 0 rfl) ?_
      refine lv_ishr hx hb dR_writePower_30 ?_
      refine zw_top (nI q) (by rw [hq]; exact pk_shrN (by omega) _ k (zsh31 k (by omega))) ?_
      refine lv_iconst (v := 1) hx hb dR_writePower_31 (by decide) ?_
      refine lv_icmp_le (tgt := 42) hx hb dR_writePower_32 (by decide) (fun hc => ?_) (fun hc => ?_)
      · have hq1 : q ≤ 1 := (nI_leI (by omega) (by decide)).mp (show nI q ≤ nI 1 from hc)
        exact cont g _ _ ls (by rw [show q / 2 + q / 2 = q / 2 by omega]; exact Z) (lv_sub hl [0, 1, 2, 3, 4] rfl)
      · have hdl1 := hdl (q / 2) (by omega)
        refine lv_aload_n hx hb dR_writePower_35 rfl (lv_at hl 1 rfl) ?_
        refine lv_aload_n hx hb dR_writePower_36 rfl (lv_at hl 4 rfl) ?_
        refine lv_aload_n hx hb dR_writePower_37 rfl (lv_at hl 4 rfl) ?_
        refine lv_aload_n hx hb dR_writePower_38 rfl (lv_at hl 4 rfl) ?_
        refine zw_callv (va_runV (As := [.ref (ad t), .ref (ad t), .ref (ad t)]) (rest := []) ⟨hx, hb, hml, hown, hts⟩ (c_R_writeProduct l P n o F hR1 t t t (zpow n o P i0 A (q / 2)) (zpow n o P i0 A (q / 2)) g _ ht1 ht1 ht0 (zpow_pol hP1 hi0 _).1 (zpow_pol hP1 hi0 _).1 hLt hLt hL71 hLt (fun i j hi hj h8 h9 => by have := hdl1 i hi h8; have := hdl1 j hj h9; omega)) (kw_R_writeProduct hts ml_R_96 (zR_fit (by omega) (by omega))) (Z.preV hR1.1 rfl _) rfl rfl hl.1 rfl (lv_room (Nat.le_of_ble_eq_true rfl)) dR_writePower_39 ⟨Nat.le_of_ble_eq_true rfl, Nat.le_of_ble_eq_true rfl⟩) Z (fun w1 H locs hp Z => ?_)
        subst hp
        rw [up_swap ht1] at Z
        rw [zpow_add hP1 hcfg hi0 hk0 hd0 hd hde (q / 2) (q / 2) (by omega)] at Z
        exact cont _ _ _ ls Z (lv_sub hl [0, 1, 2, 3, 4] rfl)
  exact loop 7 gs _ _ ls (by omega) (by rw [Nat.div_eq_of_lt (show e9 < 2 ^ 7 by omega)]; exact Z) hl
end
section
/-- the derivative by the variable v, place by place -/
def zdf (n o v : Nat) (A : Nat → Nat) (k : Nat) : Nat → Nat := zs (fun i => if 0 < zEx n o v i ∧ zKy n o i = zKy n o k + zWt n v then A i * zEx n o v i else 0)
def zD0 (n o P v : Nat) (A : Nat → Nat) (i : Nat) : Nat → Nat := fun k => if k < zCt n then zdf n o v A k i % P else 0
def zder (n o P v : Nat) (A : Nat → Nat) : Nat → Nat := zD0 n o P v A (zCt n)
theorem zD0_lt {n o P v : Nat} (hP : 0 < P) (A : Nat → Nat) (i k : Nat) : zD0 n o P v A i k < P := by
  unfold zD0
  split
  · exact Nat.mod_lt _ hP
  · exact hP
theorem zD0_skip {n o P v : Nat} {A : Nat → Nat} {i : Nat} (h : A i = 0 ∨ zEx n o v i = 0) : zD0 n o P v A (i + 1) = zD0 n o P v A i := by
  funext k
  unfold zD0
  rw [show zdf n o v A k (i + 1) = zdf n o v A k i + (if 0 < zEx n o v i ∧ zKy n o i = zKy n o k + zWt n v then A i * zEx n o v i else 0) from rfl]
  rw [show (if 0 < zEx n o v i ∧ zKy n o i = zKy n o k + zWt n v then A i * zEx n o v i else 0) = 0 by
    rcases h with h | h
    · rw [h, Nat.zero_mul]; split <;> rfl
    · rw [h, Nat.mul_zero]; split <;> rfl]
  rfl
theorem zD0_step {n o P v : Nat} {A : Nat → Nat} {i q : Nat} (hc : zCfg n o) (hq : q < zCt n) (he : 0 < zEx n o v i) (hk : zKy n o q + zWt n v = zKy n o i) : va_up (zD0 n o P v A i) q ((zD0 n o P v A i q + A i * zEx n o v i) % P) = zD0 n o P v A (i + 1) := by
  funext k
  have e : ∀ k, zdf n o v A k (i + 1) = zdf n o v A k i + (if 0 < zEx n o v i ∧ zKy n o i = zKy n o k + zWt n v then A i * zEx n o v i else 0) := fun _ => rfl
  by_cases h : k = q
  · subst h
    rw [va_up_self]
    unfold zD0
    rw [if_pos hq, if_pos hq, e, if_pos ⟨he, hk.symm⟩, Nat.mod_add_mod]
  · rw [va_up_ne _ _ h]
    unfold zD0
    by_cases hk2 : k < zCt n
    · rw [if_pos hk2, if_pos hk2, e, if_neg (fun h9 => h (zKy_inj hc hk2 hq (by omega))), Nat.add_zero]
    · rw [if_neg hk2, if_neg hk2]
/-- a number put for the variable v, place by place -/
def zbf (n o P v x : Nat) (A : Nat → Nat) (k : Nat) : Nat → Nat := zs (fun i => if zKy n o i = zKy n o k + zEx n o v i * zWt n v then ztp P (A i) x (zEx n o v i) else 0)
def zB0 (n o P v x : Nat) (A : Nat → Nat) (i : Nat) : Nat → Nat := fun k => if k < zCt n then zbf n o P v x A k i % P else 0
def zsub (n o P v x : Nat) (A : Nat → Nat) : Nat → Nat := zB0 n o P v x A (zCt n)
theorem zB0_lt {n o P v x : Nat} (hP : 0 < P) (A : Nat → Nat) (i k : Nat) : zB0 n o P v x A i k < P := by
  unfold zB0
  split
  · exact Nat.mod_lt _ hP
  · exact hP
theorem ztp_z (P x : Nat) : ∀ e, ztp P 0 x e = 0
  | 0 => rfl
  | e + 1 => by rw [ztp, ztp_z P x e, Nat.zero_mul, Nat.zero_mod]
theorem zB0_skip {n o P v x : Nat} {A : Nat → Nat} {i : Nat} (h : A i = 0) : zB0 n o P v x A (i + 1) = zB0 n o P v x A i := by
  funext k
  unfold zB0
  rw [show zbf n o P v x A k (i + 1) = zbf n o P v x A k i + (if zKy n o i = zKy n o k + zEx n o v i * zWt n v then ztp P (A i) x (zEx n o v i) else 0) from rfl, h, ztp_z]
  split <;> simp
theorem zB0_step {n o P v x : Nat} {A : Nat → Nat} {i q : Nat} (hc : zCfg n o) (hq : q < zCt n) (hk : zKy n o q + zEx n o v i * zWt n v = zKy n o i) : va_up (zB0 n o P v x A i) q ((zB0 n o P v x A i q + ztp P (A i) x (zEx n o v i)) % P) = zB0 n o P v x A (i + 1) := by
  funext k
  have e : ∀ k, zbf n o P v x A k (i + 1) = zbf n o P v x A k i + (if zKy n o i = zKy n o k + zEx n o v i * zWt n v then ztp P (A i) x (zEx n o v i) else 0) := fun _ => rfl
  by_cases h : k = q
  · subst h
    rw [va_up_self]
    unfold zB0
    rw [if_pos hq, if_pos hq, e, if_pos hk.symm, Nat.mod_add_mod]
  · rw [va_up_ne _ _ h]
    unfold zB0
    by_cases hk2 : k < zCt n
    · rw [if_pos hk2, if_pos hk2, e, if_neg (fun h9 => h (zKy_inj hc hk2 hq (by omega))), Nat.add_zero]
    · rw [if_neg hk2, if_neg hk2]
/-- what a term comes to with numbers for the first v variables -/
def zvp (n o P : Nat) (xs : Nat → Nat) (c i : Nat) : Nat → Nat
  | 0 => c
  | v + 1 => ztp P (zvp n o P xs c i v) (xs v) (zEx n o v i)
theorem zvp_lt {n o P : Nat} {xs : Nat → Nat} {c i : Nat} (hc : c < P) : ∀ v, zvp n o P xs c i v < P
  | 0 => hc
  | v + 1 => ztp_lt (zvp_lt hc v) _
theorem zvp_z {n o P : Nat} {xs : Nat → Nat} {c i v : Nat} (h : zvp n o P xs c i v = 0) : ∀ k, zvp n o P xs c i (v + k) = 0
  | 0 => h
  | k + 1 => by
    show ztp P (zvp n o P xs c i (v + k)) _ _ = 0
    rw [zvp_z h k, ztp_z]
def zevl (n o P : Nat) (xs : Nat → Nat) (A : Nat → Nat) : Nat → Nat := fun i => zs (fun i => zvp n o P xs (A i) i n) i % P
theorem zEx_le {n o i v : Nat} (hc : zCfg n o) (hi : i < zCt n) (hv : v < 4) : zEx n o v i ≤ 30 := by
  have h1 := zDg_le hc hi
  have h2 := zHi_le (n := n)
  unfold zDg at h1
  have hv4 : v = 0 ∨ v = 1 ∨ v = 2 ∨ v = 3 := by omega
  rcases hv4 with rfl | rfl | rfl | rfl <;> omega

set_option maxHeartbeats 4000000 in
set_option maxRecDepth 100000 in
theorem c_R_writeDerivative (l : Launch) {G : zG} {ad : Nat → Nat} {w : Nat → Option va_E} (P n o : Nat) (F : Nat → Int32) (hR : zRing G ad w P n o F) (a v t : Nat) (A : Nat → Nat) (gs gt : Nat → Int32) (hv : v < n) (ha0 : a ≠ 71) (ht0 : 20 ≤ t) (hA : ∀ i, A i < P) (ha : w a = some (zrow G A)) (hs : w 71 = some (zi G 126 gs)) (ht : w t = some (zi G 126 gt)) : Met l yR_writeDerivative wR_writeDerivative (zR (2)) (va_Pc [.ref (ad 1), .ref (ad a), .int (nI v), .ref (ad t)] (zw_U G ad w)) (va_Qv (S := Nat → Option va_E) (fun w' => w' = va_up (va_up w 71 (some (zrow G (zder n o P v A)))) t (some (zrow G (zder n o P v A)))) (fun u t => zw_U G ((fun _ => ad) u) ((fun w' => w') u) t) (zA G)) 0 0 (zA G) := by
  refine zw_methv (S := Nat → Option va_E) (fa := fun _ => ad) (fw := fun w' => w') (by decide) rfl (Nat.le_of_ble_eq_true rfl) ?_
  intro p e s m below meth c Q ls C hname Z hl hret
  obtain ⟨hx, hb, hml, hown, hts, hlk⟩ := C
  have hT : ∀ w ∈ zT, w.before ([.ref (ad 1), .ref (ad a), .int (nI v), .ref (ad t)] : List Value).toArray s = true := fun w h => hts w (List.mem_cons_of_mem _ h)
  have hown : s.vm.findClass "PolynomialDesk$Ring" = some m.cls := hown
  have hl : lv_has ls 6 [(0, .ref (ad 1)), (1, .ref (ad a)), (2, .int (nI v)), (3, .ref (ad t))] := hl
  obtain ⟨h1, ⟨hF0, hF1, hF2, hF3, hF4⟩, ⟨hP1, hP2⟩, hcfg, h4, h16, ⟨dg, h5, hdg⟩, ⟨ky, h6, hky⟩, ⟨wt, h7, hwt⟩, ⟨ix, h8, hix⟩, ⟨ch, h9⟩⟩ := id hR
  have hct := zCt_le (n := n)
  have hn4 := hcfg.2.1
  refine lv_aload_n hx hb dR_writeDerivative_0 rfl (lv_at hl 0 rfl) ?_
  refine zw_get (v := .ref (ad 71)) hx hb hT uR hown Z h1 rfl 11 (by decide) (hT _ mf_R_32) (fun _ h9 => h9) rfl dR_writeDerivative_1 ?_
  refine lv_iconst (v := 0) hx hb dR_writeDerivative_4 (by decide) ?_
  refine zw_callv (va_runS (As := [.ref (ad 71), .int 0]) (rest := []) ⟨hx, hb, hml, hown, hts⟩ (c_J_fill l 71 126 gs 0 hs (by decide)) (kw_J_fill hts ml_R_57 (zR_fit (by omega) (by omega))) (Z.preS _) rfl rfl hl.1 rfl (lv_room (Nat.le_of_ble_eq_true rfl)) dR_writeDerivative_5 ⟨Nat.le_of_ble_eq_true rfl, Nat.le_of_ble_eq_true rfl⟩) Z (fun w1 H locs hp Z => ?_)
  subst hp
  refine lv_iconst (v := 0) hx hb dR_writeDerivative_8 (by decide) ?_
  refine lv_istore (lv' := [(4, .int 0), (0, .ref (ad 1)), (1, .ref (ad a)), (2, .int (nI v)), (3, .ref (ad t))]) hx hb dR_writeDerivative_9 hl (by decide) rfl (fun ls hl => ?_)
  have loop : ∀ (k i : Nat) (H : Heap) (locs : List Loc) (ls : Array Slot), i + k = zCt n → zw G ad (va_up w 71 (some (zrow G (zD0 n o P v A i)))) s H locs → lv_has ls 6 [(4, .int (nI i)), (0, .ref (ad 1)), (1, .ref (ad a)), (2, .int (nI v)), (3, .ref (ad t))] → W p l e (zR (2)) s m ([.ref (ad 1), .ref (ad a), .int (nI v), .ref (ad t)] : List Value).toArray below meth c H locs 0 0 Q (F0 m 11 ls []) := by
    intro k
    induction k with
    | zero =>
      intro i H locs ls hi Z hl
      have hR1 : zRing G ad (va_up w 71 (some (zrow G (zD0 n o P v A i)))) P n o F := hR.up (by decide)
      have ha1 : (va_up w 71 (some (zrow G (zD0 n o P v A i)))) a = some (zrow G A) := by rw [va_up_ne _ _ ha0]; exact ha
      have h61 : (va_up w 71 (some (zrow G (zD0 n o P v A i)))) 6 = some (zi G 126 ky) := by rw [va_up_ne _ _ (by decide)]; exact h6
      have h71 : (va_up w 71 (some (zrow G (zD0 n o P v A i)))) 7 = some (zi G 4 wt) := by rw [va_up_ne _ _ (by decide)]; exact h7
      refine lv_iload hx hb dR_writeDerivative_11 (lv_at hl 0 rfl) ?_
      refine lv_aload_n hx hb dR_writeDerivative_13 rfl (lv_at hl 1 rfl) ?_
      refine zw_get (v := .int (F 4)) hx hb hT uR hown Z hR1.1 rfl 4 (by decide) (hT _ mf_R_54) (fun _ h9 => h9) rfl dR_writeDerivative_14 ?_
      refine lv_icmp_ge (tgt := 76) hx hb dR_writeDerivative_17 (by decide) (fun _ => ?_) (fun hc => absurd (show (F 4) ≤ (nI i) from by rw [hF4]; exact nI_le (by omega) (by omega)) hc)
      rw [show i = zCt n by omega] at Z
      have ht1 : ∃ g9 : Nat → Int32, va_up w 71 (some (zrow G (zder n o P v A))) t = some (zi G 126 g9) := by
        by_cases h : t = 71
        · subst h
          exact ⟨_, va_up_self _ _ _⟩
        · exact ⟨gt, by rw [va_up_ne _ _ h]; exact ht⟩
      obtain ⟨g9, ht1⟩ := ht1
      have Z : zw G ad (va_up w 71 (some (zrow G (zder n o P v A)))) s H locs := Z
      have hR1 : zRing G ad (va_up w 71 (some (zrow G (zder n o P v A)))) P n o F := hR.up (by decide)
      refine lv_aload_n hx hb dR_writeDerivative_76 rfl (lv_at hl 1 rfl) ?_
      refine zw_get (v := .ref (ad 71)) hx hb hT uR hown Z hR1.1 rfl 11 (by decide) (hT _ mf_R_32) (fun _ h9 => h9) rfl dR_writeDerivative_77 ?_
      refine lv_iconst (v := 0) hx hb dR_writeDerivative_80 (by decide) ?_
      refine lv_aload_n hx hb dR_writeDerivative_81 rfl (lv_at hl 4 rfl) ?_
      refine lv_iconst (v := 0) hx hb dR_writeDerivative_82 (by decide) ?_
      refine lv_bipush (v := 126) hx hb dR_writeDerivative_83 (by decide) ?_
      refine zw_copy hx hb (hml.trans hl.1.symm) hown (hT _ ml_R_86) (hT _ mx_copy) (hT _ mt_copy) (hT _ mn_System) Z (n := 126) (va_up_self _ _ _) ht1 (by decide) (Nat.le_of_ble_eq_true rfl) (Nat.le_of_ble_eq_true rfl) dR_writeDerivative_85 (fun H locs Z => ?_)
      exact hret _ _ _ _ _ dR_writeDerivative_88 (rfl) Z
    | succ k ih =>
      intro i H locs ls hi Z hl
      have hR1 : zRing G ad (va_up w 71 (some (zrow G (zD0 n o P v A i)))) P n o F := hR.up (by decide)
      have ha1 : (va_up w 71 (some (zrow G (zD0 n o P v A i)))) a = some (zrow G A) := by rw [va_up_ne _ _ ha0]; exact ha
      have h61 : (va_up w 71 (some (zrow G (zD0 n o P v A i)))) 6 = some (zi G 126 ky) := by rw [va_up_ne _ _ (by decide)]; exact h6
      have h71 : (va_up w 71 (some (zrow G (zD0 n o P v A i)))) 7 = some (zi G 4 wt) := by rw [va_up_ne _ _ (by decide)]; exact h7
      have hex := zEx_le hcfg (show i < zCt n by omega) (show v < 4 by omega)
      refine lv_iload hx hb dR_writeDerivative_11 (lv_at hl 0 rfl) ?_
      refine lv_aload_n hx hb dR_writeDerivative_13 rfl (lv_at hl 1 rfl) ?_
      refine zw_get (v := .int (F 4)) hx hb hT uR hown Z hR1.1 rfl 4 (by decide) (hT _ mf_R_54) (fun _ h9 => h9) rfl dR_writeDerivative_14 ?_
      refine lv_icmp_ge (tgt := 76) hx hb dR_writeDerivative_17 (by decide) (fun hc => absurd hc (show ¬ ((F 4) ≤ (nI i)) from by rw [hF4]; exact nI_ge (by omega) (by omega))) (fun _ => ?_)
      refine lv_aload_n hx hb dR_writeDerivative_20 rfl (lv_at hl 1 rfl) ?_
      refine lv_iload hx hb dR_writeDerivative_21 (lv_at hl 0 rfl) ?_
      refine lv_iload_n hx hb dR_writeDerivative_23 rfl (lv_at hl 3 rfl) ?_
      refine zw_calli (va_runV (As := [.int (nI i), .int (nI v)]) (rest := []) ⟨hx, hb, hml, hown, hts⟩ (c_R_exponentOf l P n o F hR1 i v (by omega) (by omega)) (kw_R_exponentOf hts ml_R_100 (zR_fit (by omega) (by omega))) (Z.preV hR1.1 rfl _) rfl rfl hl.1 rfl (lv_room (Nat.le_of_ble_eq_true rfl)) dR_writeDerivative_24 ⟨Nat.le_of_ble_eq_true rfl, Nat.le_of_ble_eq_true rfl⟩) Z (fun r w1 H locs hp Z => ?_)
      obtain ⟨rfl, hw1⟩ := hp
      rw [hw1] at Z
      clear hw1
      refine lv_istore (lv' := [(5, .int (nI (zEx n o v i))), (4, .int (nI i)), (0, .ref (ad 1)), (1, .ref (ad a)), (2, .int (nI v)), (3, .ref (ad t))]) hx hb dR_writeDerivative_27 hl (by decide) rfl (fun ls hl => ?_)
      refine lv_aload_n hx hb dR_writeDerivative_29 rfl (lv_at hl 3 rfl) ?_
      refine lv_iload hx hb dR_writeDerivative_30 (lv_at hl 1 rfl) ?_
      refine zw_iald hx hb Z ha1 (vin (by omega) (by decide)) dR_writeDerivative_32 ?_
      refine zw_top (nI (A i)) (by rw [ncl (by omega)]) ?_
      refine lv_if_eq (tgt := 70) hx hb dR_writeDerivative_33 (by decide) (fun hq => ?_) (fun hq => ?_)
      · refine lv_iinc (v := (nI (i + 1))) (lv' := [(4, .int (nI (i + 1))), (5, .int (nI (zEx n o v i))), (0, .ref (ad 1)), (1, .ref (ad a)), (2, .int (nI v)), (3, .ref (ad t))]) hx hb dR_writeDerivative_70 hl (k := 1) rfl (nI_1 i) (by decide) rfl (fun ls hl => ?_)
        refine lv_goto (tgt := 11) hx hb dR_writeDerivative_73 (by decide) ?_
        exact ih (i + 1) _ _ ls (by omega) (by rw [zD0_skip (Or.inl (nI_z (by have := hA i; omega) hq))]; exact Z) (lv_sub hl [0, 2, 3, 4, 5] rfl)
      · refine lv_iload hx hb dR_writeDerivative_36 (lv_at hl 0 rfl) ?_
        refine lv_if_le (tgt := 70) hx hb dR_writeDerivative_38 (by decide) (fun hq2 => ?_) (fun hq2 => ?_)
        · refine lv_iinc (v := (nI (i + 1))) (lv' := [(4, .int (nI (i + 1))), (5, .int (nI (zEx n o v i))), (0, .ref (ad 1)), (1, .ref (ad a)), (2, .int (nI v)), (3, .ref (ad t))]) hx hb dR_writeDerivative_70 hl (k := 1) rfl (nI_1 i) (by decide) rfl (fun ls hl => ?_)
          refine lv_goto (tgt := 11) hx hb dR_writeDerivative_73 (by decide) ?_
          exact ih (i + 1) _ _ ls (by omega) (by rw [zD0_skip (Or.inr (by have h9 := (nI_leI (by omega) (by decide)).mp (show nI (zEx n o v i) ≤ nI 0 from hq2); omega))]; exact Z) (lv_sub hl [0, 2, 3, 4, 5] rfl)
        · have he0 : 0 < zEx n o v i := by
            apply Nat.pos_of_ne_zero
            intro h9
            exact hq2 (by rw [h9]; decide)
          obtain ⟨q, hq3, hq4, -⟩ := zSub hcfg (show i < zCt n by omega) (show v < 4 by omega) (q := 1) he0
          rw [Nat.one_mul] at hq4
          have hm9 : A i * zEx n o v i ≤ 32002 * 30 := Nat.mul_le_mul (by have := hA i; omega) hex
          have hs9 := zD0_lt (n := n) (o := o) (v := v) (show 0 < P by omega) A i q
          refine lv_aload_n hx hb dR_writeDerivative_41 rfl (lv_at hl 2 rfl) ?_
          refine lv_aload_n hx hb dR_writeDerivative_42 rfl (lv_at hl 2 rfl) ?_
          refine zw_get (v := .ref (ad 6)) hx hb hT uR hown Z hR1.1 rfl 7 (by decide) (hT _ mf_R_20) (fun _ h9 => h9) rfl dR_writeDerivative_43 ?_
          refine lv_iload hx hb dR_writeDerivative_46 (lv_at hl 1 rfl) ?_
          refine zw_iald hx hb Z h61 (vin (by omega) (by decide)) dR_writeDerivative_48 ?_
          refine zw_top (nI (zKy n o i)) (by rw [ncl (by omega)]; exact hky i (by omega)) ?_
          refine lv_aload_n hx hb dR_writeDerivative_49 rfl (lv_at hl 2 rfl) ?_
          refine zw_get (v := .ref (ad 7)) hx hb hT uR hown Z hR1.1 rfl 8 (by decide) (hT _ mf_R_23) (fun _ h9 => h9) rfl dR_writeDerivative_50 ?_
          refine lv_iload_n hx hb dR_writeDerivative_53 rfl (lv_at hl 4 rfl) ?_
          refine zw_iald hx hb Z h71 (vin (by omega) (by decide)) dR_writeDerivative_54 ?_
          refine zw_top (nI (zWt n v)) (by rw [ncl (by omega)]; exact hwt v (by omega)) ?_
          refine lv_isub hx hb dR_writeDerivative_55 ?_
          refine zw_top (nI (zKy n o q)) (by rw [pk_sub (by omega)]; congr 1; omega) ?_
          refine lv_aload_n hx hb dR_writeDerivative_56 rfl (lv_at hl 3 rfl) ?_
          refine lv_iload hx hb dR_writeDerivative_57 (lv_at hl 1 rfl) ?_
          refine zw_iald hx hb Z ha1 (vin (by omega) (by decide)) dR_writeDerivative_59 ?_
          refine zw_top (nI (A i)) (by rw [ncl (by omega)]) ?_
          refine lv_iload hx hb dR_writeDerivative_60 (lv_at hl 0 rfl) ?_
          refine lv_imul hx hb dR_writeDerivative_62 ?_
          refine zw_top (nI (A i * zEx n o v i)) (pk_mul _ _) ?_
          refine lv_aload_n hx hb dR_writeDerivative_63 rfl (lv_at hl 2 rfl) ?_
          refine zw_get (v := .ref (ad 71)) hx hb hT uR hown Z hR1.1 rfl 11 (by decide) (hT _ mf_R_32) (fun _ h9 => h9) rfl dR_writeDerivative_64 ?_
          refine zw_callv (va_runV (As := [.int (nI (zKy n o q)), .int (nI (A i * zEx n o v i)), .ref (ad 71)]) (rest := []) ⟨hx, hb, hml, hown, hts⟩ (c_R_addAt l P n o F hR1 (zKy n o q) q (A i * zEx n o v i) 71 (zD0 n o P v A i) hq3 rfl (va_up_self _ _ _) (by omega)) (kw_R_addAt hts ml_R_82 (zR_fit (by omega) (by omega))) (Z.preV hR1.1 rfl _) rfl rfl hl.1 rfl (lv_room (Nat.le_of_ble_eq_true rfl)) dR_writeDerivative_67 ⟨Nat.le_of_ble_eq_true rfl, Nat.le_of_ble_eq_true rfl⟩) Z (fun w1 H locs hp Z => ?_)
          subst hp
          rw [bx_uu, zD0_step hcfg hq3 he0 hq4] at Z
          refine lv_iinc (v := (nI (i + 1))) (lv' := [(4, .int (nI (i + 1))), (5, .int (nI (zEx n o v i))), (0, .ref (ad 1)), (1, .ref (ad a)), (2, .int (nI v)), (3, .ref (ad t))]) hx hb dR_writeDerivative_70 hl (k := 1) rfl (nI_1 i) (by decide) rfl (fun ls hl => ?_)
          refine lv_goto (tgt := 11) hx hb dR_writeDerivative_73 (by decide) ?_
          exact ih (i + 1) _ _ ls (by omega) Z (lv_sub hl [0, 2, 3, 4, 5] rfl)
  have hz0 : zD0 n o P v A 0 = fun _ => 0 := by
    funext k
    unfold zD0
    rw [show zdf n o v A k 0 = 0 from rfl, Nat.zero_mod]
    split <;> rfl
  exact loop (zCt n) 0 _ _ ls (by omega) (by rw [hz0]; exact Z) hl

set_option maxHeartbeats 4000000 in
set_option maxRecDepth 100000 in
theorem c_R_writeSubstitute (l : Launch) {G : zG} {ad : Nat → Nat} {w : Nat → Option va_E} (P n o : Nat) (F : Nat → Int32) (hR : zRing G ad w P n o F) (a v t : Nat) (x : Int32) (A : Nat → Nat) (gs gt : Nat → Int32) (hv : v < n) (ha0 : a ≠ 71) (ht0 : 20 ≤ t) (hA : ∀ i, A i < P) (ha : w a = some (zrow G A)) (hs : w 71 = some (zi G 126 gs)) (ht : w t = some (zi G 126 gt)) : Met l yR_writeSubstitute wR_writeSubstitute (zR (3)) (va_Pc [.ref (ad 1), .ref (ad a), .int (nI v), .int x, .ref (ad t)] (zw_U G ad w)) (va_Qv (S := Nat → Option va_E) (fun w' => w' = va_up (va_up w 71 (some (zrow G (zsub n o P v (zred P x) A)))) t (some (zrow G (zsub n o P v (zred P x) A)))) (fun u t => zw_U G ((fun _ => ad) u) ((fun w' => w') u) t) (zA G)) 0 0 (zA G) := by
  refine zw_methv (S := Nat → Option va_E) (fa := fun _ => ad) (fw := fun w' => w') (by decide) rfl (Nat.le_of_ble_eq_true rfl) ?_
  intro p e s m below meth c Q ls C hname Z hl hret
  obtain ⟨hx, hb, hml, hown, hts, hlk⟩ := C
  have hT : ∀ w ∈ zT, w.before ([.ref (ad 1), .ref (ad a), .int (nI v), .int x, .ref (ad t)] : List Value).toArray s = true := fun w h => hts w (List.mem_cons_of_mem _ h)
  have hown : s.vm.findClass "PolynomialDesk$Ring" = some m.cls := hown
  have hl : lv_has ls 8 [(0, .ref (ad 1)), (1, .ref (ad a)), (2, .int (nI v)), (3, .int x), (4, .ref (ad t))] := hl
  obtain ⟨h1, ⟨hF0, hF1, hF2, hF3, hF4⟩, ⟨hP1, hP2⟩, hcfg, h4, h16, ⟨dg, h5, hdg⟩, ⟨ky, h6, hky⟩, ⟨wt, h7, hwt⟩, ⟨ix, h8, hix⟩, ⟨ch, h9⟩⟩ := id hR
  have hct := zCt_le (n := n)
  have hn4 := hcfg.2.1
  obtain ⟨ex, hex, hexi⟩ := h16 v (by omega)
  refine lv_aload_n hx hb dR_writeSubstitute_0 rfl (lv_at hl 0 rfl) ?_
  refine zw_get (v := .ref (ad 71)) hx hb hT uR hown Z h1 rfl 11 (by decide) (hT _ mf_R_32) (fun _ h9 => h9) rfl dR_writeSubstitute_1 ?_
  refine lv_iconst (v := 0) hx hb dR_writeSubstitute_4 (by decide) ?_
  refine zw_callv (va_runS (As := [.ref (ad 71), .int 0]) (rest := []) ⟨hx, hb, hml, hown, hts⟩ (c_J_fill l 71 126 gs 0 hs (by decide)) (kw_J_fill hts ml_R_57 (zR_fit (by omega) (by omega))) (Z.preS _) rfl rfl hl.1 rfl (lv_room (Nat.le_of_ble_eq_true rfl)) dR_writeSubstitute_5 ⟨Nat.le_of_ble_eq_true rfl, Nat.le_of_ble_eq_true rfl⟩) Z (fun w1 H locs hp Z => ?_)
  subst hp
  have hR1 : zRing G ad (va_up w 71 (some (zi G 126 (fun _ => 0)))) P n o F := hR.up (by decide)
  have ha1 : (va_up w 71 (some (zi G 126 (fun _ => 0)))) a = some (zrow G A) := by rw [va_up_ne _ _ ha0]; exact ha
  have h41 : (va_up w 71 (some (zi G 126 (fun _ => 0)))) 4 = some (zq G 4 (fun v => some (ad (16 + v)))) := by rw [va_up_ne _ _ (by decide)]; exact h4
  have h61 : (va_up w 71 (some (zi G 126 (fun _ => 0)))) 6 = some (zi G 126 ky) := by rw [va_up_ne _ _ (by decide)]; exact h6
  have h71 : (va_up w 71 (some (zi G 126 (fun _ => 0)))) 7 = some (zi G 4 wt) := by rw [va_up_ne _ _ (by decide)]; exact h7
  have hx1 : (va_up w 71 (some (zi G 126 (fun _ => 0)))) (16 + v) = some (zi G 126 ex) := by rw [va_up_ne _ _ (by omega)]; exact hex
  refine lv_iload_n hx hb dR_writeSubstitute_8 rfl (lv_at hl 2 rfl) ?_
  refine lv_if_lt (tgt := 100) hx hb dR_writeSubstitute_9 (by decide) (fun hc => absurd hc (show ¬ ((nI v) < 0) from nI_pos (by omega))) (fun _ => ?_)
  refine lv_iload_n hx hb dR_writeSubstitute_12 rfl (lv_at hl 2 rfl) ?_
  refine lv_aload_n hx hb dR_writeSubstitute_13 rfl (lv_at hl 0 rfl) ?_
  refine zw_get (v := .int (F 1)) hx hb hT uR hown Z hR1.1 rfl 1 (by decide) (hT _ mf_R_42) (fun _ h9 => h9) rfl dR_writeSubstitute_14 ?_
  refine lv_icmp_ge (tgt := 100) hx hb dR_writeSubstitute_17 (by decide) (fun hc => absurd hc (show ¬ ((F 1) ≤ (nI v)) from by rw [hF1]; exact nI_ge hv (by omega))) (fun _ => ?_)
  refine lv_aload_n hx hb dR_writeSubstitute_20 rfl (lv_at hl 0 rfl) ?_
  refine lv_iload_n hx hb dR_writeSubstitute_21 rfl (lv_at hl 3 rfl) ?_
  refine zw_calli (va_runV (As := [.int x]) (rest := []) ⟨hx, hb, hml, hown, hts⟩ (c_R_reduce l F hR1.1 P x hF0 hP1 (by omega)) (kw_R_reduce hts ml_R_78 (zR_fit (by omega) (by omega))) (Z.preV hR1.1 rfl _) rfl rfl hl.1 rfl (lv_room (Nat.le_of_ble_eq_true rfl)) dR_writeSubstitute_22 ⟨Nat.le_of_ble_eq_true rfl, Nat.le_of_ble_eq_true rfl⟩) Z (fun r w1 H locs hp Z => ?_)
  obtain ⟨rfl, hw1⟩ := hp
  rw [hw1] at Z
  clear hw1
  have hzx := zred_lt x (P := P) (by omega)
  refine lv_istore (lv' := [(5, .int (nI (zred P x))), (0, .ref (ad 1)), (1, .ref (ad a)), (2, .int (nI v)), (3, .int x), (4, .ref (ad t))]) hx hb dR_writeSubstitute_25 hl (by decide) rfl (fun ls hl => ?_)
  refine lv_iconst (v := 0) hx hb dR_writeSubstitute_27 (by decide) ?_
  refine lv_istore (lv' := [(6, .int 0), (5, .int (nI (zred P x))), (0, .ref (ad 1)), (1, .ref (ad a)), (2, .int (nI v)), (3, .int x), (4, .ref (ad t))]) hx hb dR_writeSubstitute_28 hl (by decide) rfl (fun ls hl => ?_)
  have loop : ∀ (k i : Nat) (H : Heap) (locs : List Loc) (ls : Array Slot), i + k = zCt n → zw G ad (va_up w 71 (some (zrow G (zB0 n o P v (zred P x) A i)))) s H locs → lv_has ls 8 [(6, .int (nI i)), (5, .int (nI (zred P x))), (0, .ref (ad 1)), (1, .ref (ad a)), (2, .int (nI v)), (3, .int x), (4, .ref (ad t))] → W p l e (zR (3)) s m ([.ref (ad 1), .ref (ad a), .int (nI v), .int x, .ref (ad t)] : List Value).toArray below meth c H locs 0 0 Q (F0 m 30 ls []) := by
    intro k
    induction k with
    | zero =>
      intro i H locs ls hi Z hl
      have hR1 : zRing G ad (va_up w 71 (some (zrow G (zB0 n o P v (zred P x) A i)))) P n o F := hR.up (by decide)
      have ha1 : (va_up w 71 (some (zrow G (zB0 n o P v (zred P x) A i)))) a = some (zrow G A) := by rw [va_up_ne _ _ ha0]; exact ha
      have h41 : (va_up w 71 (some (zrow G (zB0 n o P v (zred P x) A i)))) 4 = some (zq G 4 (fun v => some (ad (16 + v)))) := by rw [va_up_ne _ _ (by decide)]; exact h4
      have h61 : (va_up w 71 (some (zrow G (zB0 n o P v (zred P x) A i)))) 6 = some (zi G 126 ky) := by rw [va_up_ne _ _ (by decide)]; exact h6
      have h71 : (va_up w 71 (some (zrow G (zB0 n o P v (zred P x) A i)))) 7 = some (zi G 4 wt) := by rw [va_up_ne _ _ (by decide)]; exact h7
      have hx1 : (va_up w 71 (some (zrow G (zB0 n o P v (zred P x) A i)))) (16 + v) = some (zi G 126 ex) := by rw [va_up_ne _ _ (by omega)]; exact hex
      refine lv_iload hx hb dR_writeSubstitute_30 (lv_at hl 0 rfl) ?_
      refine lv_aload_n hx hb dR_writeSubstitute_32 rfl (lv_at hl 2 rfl) ?_
      refine zw_get (v := .int (F 4)) hx hb hT uR hown Z hR1.1 rfl 4 (by decide) (hT _ mf_R_54) (fun _ h9 => h9) rfl dR_writeSubstitute_33 ?_
      refine lv_icmp_ge (tgt := 100) hx hb dR_writeSubstitute_36 (by decide) (fun _ => ?_) (fun hc => absurd (show (F 4) ≤ (nI i) from by rw [hF4]; exact nI_le (by omega) (by omega)) hc)
      rw [show i = zCt n by omega] at Z
      have ht1 : ∃ g9 : Nat → Int32, va_up w 71 (some (zrow G ((zsub n o P v (zred P x) A)))) t = some (zi G 126 g9) := by
        by_cases h : t = 71
        · subst h
          exact ⟨_, va_up_self _ _ _⟩
        · exact ⟨gt, by rw [va_up_ne _ _ h]; exact ht⟩
      obtain ⟨g9, ht1⟩ := ht1
      have Z : zw G ad (va_up w 71 (some (zrow G ((zsub n o P v (zred P x) A))))) s H locs := Z
      have hR1 : zRing G ad (va_up w 71 (some (zrow G ((zsub n o P v (zred P x) A))))) P n o F := hR.up (by decide)
      refine lv_aload_n hx hb dR_writeSubstitute_100 rfl (lv_at hl 2 rfl) ?_
      refine zw_get (v := .ref (ad 71)) hx hb hT uR hown Z hR1.1 rfl 11 (by decide) (hT _ mf_R_32) (fun _ h9 => h9) rfl dR_writeSubstitute_101 ?_
      refine lv_iconst (v := 0) hx hb dR_writeSubstitute_104 (by decide) ?_
      refine lv_aload hx hb dR_writeSubstitute_105 (lv_at hl 6 rfl) ?_
      refine lv_iconst (v := 0) hx hb dR_writeSubstitute_107 (by decide) ?_
      refine lv_bipush (v := 126) hx hb dR_writeSubstitute_108 (by decide) ?_
      refine zw_copy hx hb (hml.trans hl.1.symm) hown (hT _ ml_R_86) (hT _ mx_copy) (hT _ mt_copy) (hT _ mn_System) Z (n := 126) (va_up_self _ _ _) ht1 (by decide) (Nat.le_of_ble_eq_true rfl) (Nat.le_of_ble_eq_true rfl) dR_writeSubstitute_110 (fun H locs Z => ?_)
      exact hret _ _ _ _ _ dR_writeSubstitute_113 (rfl) Z
    | succ k ih =>
      intro i H locs ls hi Z hl
      have hR1 : zRing G ad (va_up w 71 (some (zrow G (zB0 n o P v (zred P x) A i)))) P n o F := hR.up (by decide)
      have ha1 : (va_up w 71 (some (zrow G (zB0 n o P v (zred P x) A i)))) a = some (zrow G A) := by rw [va_up_ne _ _ ha0]; exact ha
      have h41 : (va_up w 71 (some (zrow G (zB0 n o P v (zred P x) A i)))) 4 = some (zq G 4 (fun v => some (ad (16 + v)))) := by rw [va_up_ne _ _ (by decide)]; exact h4
      have h61 : (va_up w 71 (some (zrow G (zB0 n o P v (zred P x) A i)))) 6 = some (zi G 126 ky) := by rw [va_up_ne _ _ (by decide)]; exact h6
      have h71 : (va_up w 71 (some (zrow G (zB0 n o P v (zred P x) A i)))) 7 = some (zi G 4 wt) := by rw [va_up_ne _ _ (by decide)]; exact h7
      have hx1 : (va_up w 71 (some (zrow G (zB0 n o P v (zred P x) A i)))) (16 + v) = some (zi G 126 ex) := by rw [va_up_ne _ _ (by omega)]; exact hex
      have hel := zEx_le hcfg (show i < zCt n by omega) (show v < 4 by omega)
      refine lv_iload hx hb dR_writeSubstitute_30 (lv_at hl 0 rfl) ?_
      refine lv_aload_n hx hb dR_writeSubstitute_32 rfl (lv_at hl 2 rfl) ?_
      refine zw_get (v := .int (F 4)) hx hb hT uR hown Z hR1.1 rfl 4 (by decide) (hT _ mf_R_54) (fun _ h9 => h9) rfl dR_writeSubstitute_33 ?_
      refine lv_icmp_ge (tgt := 100) hx hb dR_writeSubstitute_36 (by decide) (fun hc => absurd hc (show ¬ ((F 4) ≤ (nI i)) from by rw [hF4]; exact nI_ge (by omega) (by omega))) (fun _ => ?_)
      refine lv_aload_n hx hb dR_writeSubstitute_39 rfl (lv_at hl 2 rfl) ?_
      refine zw_get (v := .ref (ad 4)) hx hb hT uR hown Z hR1.1 rfl 5 (by decide) (hT _ mf_R_13) (fun _ h9 => h9) rfl dR_writeSubstitute_40 ?_
      refine lv_iload_n hx hb dR_writeSubstitute_43 rfl (lv_at hl 4 rfl) ?_
      refine zw_aald (v := .ref (ad (16 + v))) hx hb Z h41 (vin (by omega) (by decide)) (by rw [ncl (by omega)]; rfl) dR_writeSubstitute_44 ?_
      refine lv_iload hx hb dR_writeSubstitute_45 (lv_at hl 0 rfl) ?_
      refine zw_iald hx hb Z hx1 (vin (by omega) (by decide)) dR_writeSubstitute_47 ?_
      refine zw_top (nI (zEx n o v i)) (by rw [ncl (by omega)]; exact hexi i (by omega)) ?_
      refine lv_istore (lv' := [(7, .int (nI (zEx n o v i))), (6, .int (nI i)), (5, .int (nI (zred P x))), (0, .ref (ad 1)), (1, .ref (ad a)), (2, .int (nI v)), (3, .int x), (4, .ref (ad t))]) hx hb dR_writeSubstitute_48 hl (by decide) rfl (fun ls hl => ?_)
      refine lv_aload_n hx hb dR_writeSubstitute_50 rfl (lv_at hl 4 rfl) ?_
      refine lv_iload hx hb dR_writeSubstitute_51 (lv_at hl 1 rfl) ?_
      refine zw_iald hx hb Z ha1 (vin (by omega) (by decide)) dR_writeSubstitute_53 ?_
      refine zw_top (nI (A i)) (by rw [ncl (by omega)]) ?_
      refine lv_if_eq (tgt := 94) hx hb dR_writeSubstitute_54 (by decide) (fun hq => ?_) (fun hq => ?_)
      · refine lv_iinc (v := (nI (i + 1))) (lv' := [(6, .int (nI (i + 1))), (7, .int (nI (zEx n o v i))), (5, .int (nI (zred P x))), (0, .ref (ad 1)), (1, .ref (ad a)), (2, .int (nI v)), (3, .int x), (4, .ref (ad t))]) hx hb dR_writeSubstitute_94 hl (k := 1) rfl (nI_1 i) (by decide) rfl (fun ls hl => ?_)
        refine lv_goto (tgt := 30) hx hb dR_writeSubstitute_97 (by decide) ?_
        exact ih (i + 1) _ _ ls (by omega) (by rw [zB0_skip (nI_z (by have := hA i; omega) hq)]; exact Z) (lv_sub hl [0, 2, 3, 4, 5, 6, 7] rfl)
      · obtain ⟨q, hq3, hq4, -⟩ := zSub hcfg (show i < zCt n by omega) (show v < 4 by omega) (q := zEx n o v i) (Nat.le_refl _)
        have ht9 := ztp_lt (x := zred P x) (hA i) (zEx n o v i)
        have hs9 := zB0_lt (n := n) (o := o) (v := v) (x := zred P x) (show 0 < P by omega) A i q
        refine lv_aload_n hx hb dR_writeSubstitute_57 rfl (lv_at hl 3 rfl) ?_
        refine lv_aload_n hx hb dR_writeSubstitute_58 rfl (lv_at hl 3 rfl) ?_
        refine zw_get (v := .ref (ad 6)) hx hb hT uR hown Z hR1.1 rfl 7 (by decide) (hT _ mf_R_20) (fun _ h9 => h9) rfl dR_writeSubstitute_59 ?_
        refine lv_iload hx hb dR_writeSubstitute_62 (lv_at hl 1 rfl) ?_
        refine zw_iald hx hb Z h61 (vin (by omega) (by decide)) dR_writeSubstitute_64 ?_
        refine zw_top (nI (zKy n o i)) (by rw [ncl (by omega)]; exact hky i (by omega)) ?_
        refine lv_iload hx hb dR_writeSubstitute_65 (lv_at hl 0 rfl) ?_
        refine lv_aload_n hx hb dR_writeSubstitute_67 rfl (lv_at hl 3 rfl) ?_
        refine zw_get (v := .ref (ad 7)) hx hb hT uR hown Z hR1.1 rfl 8 (by decide) (hT _ mf_R_23) (fun _ h9 => h9) rfl dR_writeSubstitute_68 ?_
        refine lv_iload_n hx hb dR_writeSubstitute_71 rfl (lv_at hl 5 rfl) ?_
        refine zw_iald hx hb Z h71 (vin (by omega) (by decide)) dR_writeSubstitute_72 ?_
        refine zw_top (nI (zWt n v)) (by rw [ncl (by omega)]; exact hwt v (by omega)) ?_
        refine lv_imul hx hb dR_writeSubstitute_73 ?_
        refine zw_top (nI (zEx n o v i * zWt n v)) (pk_mul _ _) ?_
        refine lv_isub hx hb dR_writeSubstitute_74 ?_
        refine zw_top (nI (zKy n o q)) (by rw [pk_sub (by omega)]; congr 1; omega) ?_
        refine lv_aload_n hx hb dR_writeSubstitute_75 rfl (lv_at hl 3 rfl) ?_
        refine lv_aload_n hx hb dR_writeSubstitute_76 rfl (lv_at hl 4 rfl) ?_
        refine lv_iload hx hb dR_writeSubstitute_77 (lv_at hl 1 rfl) ?_
        refine zw_iald hx hb Z ha1 (vin (by omega) (by decide)) dR_writeSubstitute_79 ?_
        refine zw_top (nI (A i)) (by rw [ncl (by omega)]) ?_
        refine lv_iload hx hb dR_writeSubstitute_80 (lv_at hl 2 rfl) ?_
        refine lv_iload hx hb dR_writeSubstitute_82 (lv_at hl 0 rfl) ?_
        refine zw_calli (va_runV (As := [.int (nI (A i)), .int (nI (zred P x)), .int (nI (zEx n o v i))]) (rest := [.int (nI (zKy n o q)), .ref (ad 1)]) ⟨hx, hb, hml, hown, hts⟩ (c_R_timesPower l P n o F hR1 (A i) (zred P x) (zEx n o v i) (hA i) hzx (by omega)) (kw_R_timesPower hts ml_R_104 (zR_fit (by omega) (by omega))) (Z.preV hR1.1 rfl _) rfl rfl hl.1 rfl (lv_room (Nat.le_of_ble_eq_true rfl)) dR_writeSubstitute_84 ⟨Nat.le_of_ble_eq_true rfl, Nat.le_of_ble_eq_true rfl⟩) Z (fun r w1 H locs hp Z => ?_)
        obtain ⟨rfl, hw1⟩ := hp
        rw [hw1] at Z
        clear hw1
        refine lv_aload_n hx hb dR_writeSubstitute_87 rfl (lv_at hl 3 rfl) ?_
        refine zw_get (v := .ref (ad 71)) hx hb hT uR hown Z hR1.1 rfl 11 (by decide) (hT _ mf_R_32) (fun _ h9 => h9) rfl dR_writeSubstitute_88 ?_
        refine zw_callv (va_runV (As := [.int (nI (zKy n o q)), .int (nI (ztp P (A i) (zred P x) (zEx n o v i))), .ref (ad 71)]) (rest := []) ⟨hx, hb, hml, hown, hts⟩ (c_R_addAt l P n o F hR1 (zKy n o q) q (ztp P (A i) (zred P x) (zEx n o v i)) 71 (zB0 n o P v (zred P x) A i) hq3 rfl (va_up_self _ _ _) (by omega)) (kw_R_addAt hts ml_R_82 (zR_fit (by omega) (by omega))) (Z.preV hR1.1 rfl _) rfl rfl hl.1 rfl (lv_room (Nat.le_of_ble_eq_true rfl)) dR_writeSubstitute_91 ⟨Nat.le_of_ble_eq_true rfl, Nat.le_of_ble_eq_true rfl⟩) Z (fun w1 H locs hp Z => ?_)
        subst hp
        rw [bx_uu, zB0_step hcfg hq3 hq4] at Z
        refine lv_iinc (v := (nI (i + 1))) (lv' := [(6, .int (nI (i + 1))), (7, .int (nI (zEx n o v i))), (5, .int (nI (zred P x))), (0, .ref (ad 1)), (1, .ref (ad a)), (2, .int (nI v)), (3, .int x), (4, .ref (ad t))]) hx hb dR_writeSubstitute_94 hl (k := 1) rfl (nI_1 i) (by decide) rfl (fun ls hl => ?_)
        refine lv_goto (tgt := 30) hx hb dR_writeSubstitute_97 (by decide) ?_
        exact ih (i + 1) _ _ ls (by omega) Z (lv_sub hl [0, 2, 3, 4, 5, 6, 7] rfl)
  have hz0 : zB0 n o P v (zred P x) A 0 = fun _ => 0 := by
    funext k
    unfold zB0
    rw [show zbf n o P v (zred P x) A k 0 = 0 from rfl, Nat.zero_mod]
    split <;> rfl
  exact loop (zCt n) 0 _ _ ls (by omega) (by rw [hz0]; exact Z) hl

set_option maxHeartbeats 4000000 in
set_option maxRecDepth 100000 in
theorem c_R_evaluate (l : Launch) {G : zG} {ad : Nat → Nat} {w : Nat → Option va_E} (P n o : Nat) (F : Nat → Int32) (hR : zRing G ad w P n o F) (a b : Nat) (A : Nat → Nat) (X : Nat → Int32) (hA : ∀ i, A i < P) (ha : w a = some (zrow G A)) (hb9 : w b = some (zi G 4 X)) : Met l yR_evaluate wR_evaluate (zR (3)) (va_Pc [.ref (ad 1), .ref (ad a), .ref (ad b)] (zw_U G ad w)) (va_Qi (S := Nat → Option va_E) (fun r w' => r = nI (zevl n o P (fun v => zred P (X v)) A (zCt n)) ∧ w' = w) (fun u t => zw_U G ((fun _ => ad) u) ((fun w' => w') u) t) (zA G)) 0 0 (zA G) := by
  refine zw_methi (S := Nat → Option va_E) (fa := fun _ => ad) (fw := fun w' => w') (by decide) rfl (Nat.le_of_ble_eq_true rfl) ?_
  intro p e s m below meth c Q ls C hname Z hl hret
  obtain ⟨hx, hb, hml, hown, hts, hlk⟩ := C
  have hT : ∀ w ∈ zT, w.before ([.ref (ad 1), .ref (ad a), .ref (ad b)] : List Value).toArray s = true := fun w h => hts w (List.mem_cons_of_mem _ h)
  have hown : s.vm.findClass "PolynomialDesk$Ring" = some m.cls := hown
  have hl : lv_has ls 7 [(0, .ref (ad 1)), (1, .ref (ad a)), (2, .ref (ad b))] := hl
  obtain ⟨h1, ⟨hF0, hF1, hF2, hF3, hF4⟩, ⟨hP1, hP2⟩, hcfg, h4, h16, ⟨dg, h5, hdg⟩, ⟨ky, h6, hky⟩, ⟨wt, h7, hwt⟩, ⟨ix, h8, hix⟩, ⟨ch, h9⟩⟩ := id hR
  have hct := zCt_le (n := n)
  have hn4 := hcfg.2.1
  refine lv_iconst (v := 0) hx hb dR_evaluate_0 (by decide) ?_
  refine lv_istore_n (lv' := [(3, .int 0), (0, .ref (ad 1)), (1, .ref (ad a)), (2, .ref (ad b))]) hx hb dR_evaluate_1 rfl hl (by decide) rfl (fun ls hl => ?_)
  refine lv_iconst (v := 0) hx hb dR_evaluate_2 (by decide) ?_
  refine lv_istore (lv' := [(4, .int 0), (3, .int 0), (0, .ref (ad 1)), (1, .ref (ad a)), (2, .ref (ad b))]) hx hb dR_evaluate_3 hl (by decide) rfl (fun ls hl => ?_)
  have loop : ∀ (k i : Nat) (H : Heap) (locs : List Loc) (ls : Array Slot), i + k = zCt n → zw G ad w s H locs → lv_has ls 7 [(4, .int (nI i)), (3, .int (nI (zevl n o P (fun v => zred P (X v)) A i))), (0, .ref (ad 1)), (1, .ref (ad a)), (2, .ref (ad b))] → W p l e (zR (3)) s m ([.ref (ad 1), .ref (ad a), .ref (ad b)] : List Value).toArray below meth c H locs 0 0 Q (F0 m 5 ls []) := by
    intro k
    induction k with
    | zero =>
      intro i H locs ls hi Z hl
      refine lv_iload hx hb dR_evaluate_5 (lv_at hl 0 rfl) ?_
      refine lv_aload_n hx hb dR_evaluate_7 rfl (lv_at hl 2 rfl) ?_
      refine zw_get (v := .int (F 4)) hx hb hT uR hown Z h1 rfl 4 (by decide) (hT _ mf_R_54) (fun _ h9 => h9) rfl dR_evaluate_8 ?_
      refine lv_icmp_ge (tgt := 91) hx hb dR_evaluate_11 (by decide) (fun _ => ?_) (fun hc => absurd (show (F 4) ≤ (nI i) from by rw [hF4]; exact nI_le (by omega) (by omega)) hc)
      refine lv_iload_n hx hb dR_evaluate_91 rfl (lv_at hl 1 rfl) ?_
      exact hret _ _ _ _ _ _ dR_evaluate_92 (⟨by rw [show i = zCt n by omega], rfl⟩) Z
    | succ k ih =>
      intro i H locs ls hi Z hl
      refine lv_iload hx hb dR_evaluate_5 (lv_at hl 0 rfl) ?_
      refine lv_aload_n hx hb dR_evaluate_7 rfl (lv_at hl 2 rfl) ?_
      refine zw_get (v := .int (F 4)) hx hb hT uR hown Z h1 rfl 4 (by decide) (hT _ mf_R_54) (fun _ h9 => h9) rfl dR_evaluate_8 ?_
      refine lv_icmp_ge (tgt := 91) hx hb dR_evaluate_11 (by decide) (fun hc => absurd hc (show ¬ ((F 4) ≤ (nI i)) from by rw [hF4]; exact nI_ge (by omega) (by omega))) (fun _ => ?_)
      refine lv_aload_n hx hb dR_evaluate_14 rfl (lv_at hl 3 rfl) ?_
      refine lv_iload hx hb dR_evaluate_15 (lv_at hl 0 rfl) ?_
      refine zw_iald hx hb Z ha (vin (by omega) (by decide)) dR_evaluate_17 ?_
      refine zw_top (nI (A i)) (by rw [ncl (by omega)]) ?_
      refine lv_istore (lv' := [(5, .int (nI (A i))), (4, .int (nI i)), (3, .int (nI (zevl n o P (fun v => zred P (X v)) A i))), (0, .ref (ad 1)), (1, .ref (ad a)), (2, .ref (ad b))]) hx hb dR_evaluate_18 hl (by decide) rfl (fun ls hl => ?_)
      refine lv_iconst (v := 0) hx hb dR_evaluate_20 (by decide) ?_
      refine lv_istore (lv' := [(6, .int 0), (5, .int (nI (A i))), (4, .int (nI i)), (3, .int (nI (zevl n o P (fun v => zred P (X v)) A i))), (0, .ref (ad 1)), (1, .ref (ad a)), (2, .ref (ad b))]) hx hb dR_evaluate_21 hl (by decide) rfl (fun ls hl => ?_)
      have cont : ∀ (H : Heap) (locs : List Loc) (ls : Array Slot), zw G ad w s H locs → lv_has ls 7 [(5, .int (nI (zvp n o P (fun v => zred P (X v)) (A i) i n))), (4, .int (nI i)), (3, .int (nI (zevl n o P (fun v => zred P (X v)) A i))), (0, .ref (ad 1)), (1, .ref (ad a)), (2, .ref (ad b))] → W p l e (zR (3)) s m ([.ref (ad 1), .ref (ad a), .ref (ad b)] : List Value).toArray below meth c H locs 0 0 Q (F0 m 76 ls []) := by
        intro H locs ls Z hl
        have hz9 := zvp_lt (n := n) (o := o) (xs := (fun v => zred P (X v))) (i := i) (hA i) n
        have hy9 : zevl n o P (fun v => zred P (X v)) A i < P := Nat.mod_lt _ (by omega)
        refine lv_aload_n hx hb dR_evaluate_76 rfl (lv_at hl 3 rfl) ?_
        refine lv_iload_n hx hb dR_evaluate_77 rfl (lv_at hl 2 rfl) ?_
        refine lv_iload hx hb dR_evaluate_78 (lv_at hl 0 rfl) ?_
        refine lv_iadd hx hb dR_evaluate_80 ?_
        refine zw_top (nI (zevl n o P (fun v => zred P (X v)) A i + zvp n o P (fun v => zred P (X v)) (A i) i n)) (nI_add _ _) ?_
        refine zw_calli (va_runV (As := [.int (nI (zevl n o P (fun v => zred P (X v)) A i + zvp n o P (fun v => zred P (X v)) (A i) i n))]) (rest := []) ⟨hx, hb, hml, hown, hts⟩ (c_R_reduce l F h1 P _ hF0 hP1 (by omega)) (kw_R_reduce hts ml_R_78 (zR_fit (by omega) (by omega))) (Z.preV h1 rfl _) rfl rfl hl.1 rfl (lv_room (Nat.le_of_ble_eq_true rfl)) dR_evaluate_81 ⟨Nat.le_of_ble_eq_true rfl, Nat.le_of_ble_eq_true rfl⟩) Z (fun r w1 H locs hp Z => ?_)
        obtain ⟨rfl, hw1⟩ := hp
        rw [hw1] at Z
        clear hw1
        refine zw_top (nI (zevl n o P (fun v => zred P (X v)) A (i + 1))) (by rw [zred_nI (by omega)]; congr 1; exact Nat.mod_add_mod ..) ?_
        refine lv_istore_n (lv' := [(3, .int (nI (zevl n o P (fun v => zred P (X v)) A (i + 1)))), (5, .int (nI (zvp n o P (fun v => zred P (X v)) (A i) i n))), (4, .int (nI i)), (0, .ref (ad 1)), (1, .ref (ad a)), (2, .ref (ad b))]) hx hb dR_evaluate_84 rfl hl (by decide) rfl (fun ls hl => ?_)
        refine lv_iinc (v := (nI (i + 1))) (lv' := [(4, .int (nI (i + 1))), (3, .int (nI (zevl n o P (fun v => zred P (X v)) A (i + 1)))), (5, .int (nI (zvp n o P (fun v => zred P (X v)) (A i) i n))), (0, .ref (ad 1)), (1, .ref (ad a)), (2, .ref (ad b))]) hx hb dR_evaluate_85 hl (k := 2) rfl (nI_1 i) (by decide) rfl (fun ls hl => ?_)
        refine lv_goto (tgt := 5) hx hb dR_evaluate_88 (by decide) ?_
        exact ih (i + 1) _ _ ls (by omega) Z (lv_sub hl [0, 1, 3, 4, 5] rfl)
      have inner : ∀ (k v : Nat) (H : Heap) (locs : List Loc) (ls : Array Slot), v + k = n → zw G ad w s H locs → lv_has ls 7 [(6, .int (nI v)), (5, .int (nI (zvp n o P (fun v => zred P (X v)) (A i) i v))), (4, .int (nI i)), (3, .int (nI (zevl n o P (fun v => zred P (X v)) A i))), (0, .ref (ad 1)), (1, .ref (ad a)), (2, .ref (ad b))] → W p l e (zR (3)) s m ([.ref (ad 1), .ref (ad a), .ref (ad b)] : List Value).toArray below meth c H locs 0 0 Q (F0 m 23 ls []) := by
        intro k
        induction k with
        | zero =>
          intro v H locs ls hv Z hl
          refine lv_iload hx hb dR_evaluate_23 (lv_at hl 0 rfl) ?_
          refine lv_aload_n hx hb dR_evaluate_25 rfl (lv_at hl 4 rfl) ?_
          refine zw_get (v := .int (F 1)) hx hb hT uR hown Z h1 rfl 1 (by decide) (hT _ mf_R_42) (fun _ h9 => h9) rfl dR_evaluate_26 ?_
          refine lv_icmp_ge (tgt := 76) hx hb dR_evaluate_29 (by decide) (fun _ => ?_) (fun hc => absurd (show (F 1) ≤ (nI v) from by rw [hF1]; exact nI_le (by omega) (by omega)) hc)
          rw [show v = n by omega] at hl
          exact cont _ _ ls Z (lv_sub hl [1, 2, 3, 4, 5, 6] rfl)
        | succ k ih2 =>
          intro v H locs ls hv Z hl
          obtain ⟨ex, hex, hexi⟩ := h16 v (by omega)
          have hz9 := zvp_lt (n := n) (o := o) (xs := (fun v => zred P (X v))) (i := i) (hA i) v
          have hel := zEx_le hcfg (show i < zCt n by omega) (show v < 4 by omega)
          have hzx := zred_lt (X v) (P := P) (by omega)
          refine lv_iload hx hb dR_evaluate_23 (lv_at hl 0 rfl) ?_
          refine lv_aload_n hx hb dR_evaluate_25 rfl (lv_at hl 4 rfl) ?_
          refine zw_get (v := .int (F 1)) hx hb hT uR hown Z h1 rfl 1 (by decide) (hT _ mf_R_42) (fun _ h9 => h9) rfl dR_evaluate_26 ?_
          refine lv_icmp_ge (tgt := 76) hx hb dR_evaluate_29 (by decide) (fun hc => absurd hc (show ¬ ((F 1) ≤ (nI v)) from by rw [hF1]; exact nI_ge (by omega) (by omega))) (fun _ => ?_)
          refine lv_iload hx hb dR_evaluate_32 (lv_at hl 0 rfl) ?_
          refine lv_aload_n hx hb dR_evaluate_34 rfl (lv_at hl 6 rfl) ?_
          refine zw_alen (v := nI 4) hx hb Z 0 hb9 rfl rfl dR_evaluate_35 ?_
          refine lv_icmp_ge (tgt := 76) hx hb dR_evaluate_36 (by decide) (fun hc => absurd hc (show ¬ ((nI 4) ≤ (nI v)) from nI_ge (b := 4) (by omega) (by decide))) (fun _ => ?_)
          refine lv_iload hx hb dR_evaluate_39 (lv_at hl 1 rfl) ?_
          refine lv_if_eq (tgt := 76) hx hb dR_evaluate_41 (by decide) (fun hq => ?_) (fun hq => ?_)
          · have hz0 := nI_z (by omega) hq
            have hz1 := zvp_z hz0 (n - v)
            rw [show v + (n - v) = n by omega] at hz1
            rw [show zvp n o P (fun v => zred P (X v)) (A i) i v = zvp n o P (fun v => zred P (X v)) (A i) i n by rw [hz0, hz1]] at hl
            exact cont _ _ ls Z (lv_sub hl [1, 2, 3, 4, 5, 6] rfl)
          · refine lv_aload_n hx hb dR_evaluate_44 rfl (lv_at hl 4 rfl) ?_
            refine lv_iload hx hb dR_evaluate_45 (lv_at hl 1 rfl) ?_
            refine lv_aload_n hx hb dR_evaluate_47 rfl (lv_at hl 4 rfl) ?_
            refine lv_aload_n hx hb dR_evaluate_48 rfl (lv_at hl 6 rfl) ?_
            refine lv_iload hx hb dR_evaluate_49 (lv_at hl 0 rfl) ?_
            refine zw_iald hx hb Z hb9 (vin (by omega) (by decide)) dR_evaluate_51 ?_
            refine zw_top (X v) (by rw [ncl (by omega)]) ?_
            refine zw_calli (va_runV (As := [.int (X v)]) (rest := [.int (nI (zvp n o P (fun v => zred P (X v)) (A i) i v)), .ref (ad 1)]) ⟨hx, hb, hml, hown, hts⟩ (c_R_reduce l F h1 P (X v) hF0 hP1 (by omega)) (kw_R_reduce hts ml_R_78 (zR_fit (by omega) (by omega))) (Z.preV h1 rfl _) rfl rfl hl.1 rfl (lv_room (Nat.le_of_ble_eq_true rfl)) dR_evaluate_52 ⟨Nat.le_of_ble_eq_true rfl, Nat.le_of_ble_eq_true rfl⟩) Z (fun r w1 H locs hp Z => ?_)
            obtain ⟨rfl, hw1⟩ := hp
            rw [hw1] at Z
            clear hw1
            refine lv_aload_n hx hb dR_evaluate_55 rfl (lv_at hl 4 rfl) ?_
            refine zw_get (v := .ref (ad 4)) hx hb hT uR hown Z h1 rfl 5 (by decide) (hT _ mf_R_13) (fun _ h9 => h9) rfl dR_evaluate_56 ?_
            refine lv_iload hx hb dR_evaluate_59 (lv_at hl 0 rfl) ?_
            refine zw_aald (v := .ref (ad (16 + v))) hx hb Z h4 (vin (by omega) (by decide)) (by rw [ncl (by omega)]; rfl) dR_evaluate_61 ?_
            refine lv_iload hx hb dR_evaluate_62 (lv_at hl 2 rfl) ?_
            refine zw_iald hx hb Z hex (vin (by omega) (by decide)) dR_evaluate_64 ?_
            refine zw_top (nI (zEx n o v i)) (by rw [ncl (by omega)]; exact hexi i (by omega)) ?_
            refine zw_calli (va_runV (As := [.int (nI (zvp n o P (fun v => zred P (X v)) (A i) i v)), .int (nI (zred P (X v))), .int (nI (zEx n o v i))]) (rest := []) ⟨hx, hb, hml, hown, hts⟩ (c_R_timesPower l P n o F hR (zvp n o P (fun v => zred P (X v)) (A i) i v) (zred P (X v)) (zEx n o v i) hz9 hzx (by omega)) (kw_R_timesPower hts ml_R_104 (zR_fit (by omega) (by omega))) (Z.preV h1 rfl _) rfl rfl hl.1 rfl (lv_room (Nat.le_of_ble_eq_true rfl)) dR_evaluate_65 ⟨Nat.le_of_ble_eq_true rfl, Nat.le_of_ble_eq_true rfl⟩) Z (fun r w1 H locs hp Z => ?_)
            obtain ⟨rfl, hw1⟩ := hp
            rw [hw1] at Z
            clear hw1
            refine lv_istore (lv' := [(5, .int (nI (ztp P (zvp n o P (fun v => zred P (X v)) (A i) i v) (zred P (X v)) (zEx n o v i)))), (6, .int (nI v)), (4, .int (nI i)), (3, .int (nI (zevl n o P (fun v => zred P (X v)) A i))), (0, .ref (ad 1)), (1, .ref (ad a)), (2, .ref (ad b))]) hx hb dR_evaluate_68 hl (by decide) rfl (fun ls hl => ?_)
            refine lv_iinc (v := (nI (v + 1))) (lv' := [(6, .int (nI (v + 1))), (5, .int (nI (ztp P (zvp n o P (fun v => zred P (X v)) (A i) i v) (zred P (X v)) (zEx n o v i)))), (4, .int (nI i)), (3, .int (nI (zevl n o P (fun v => zred P (X v)) A i))), (0, .ref (ad 1)), (1, .ref (ad a)), (2, .ref (ad b))]) hx hb dR_evaluate_70 hl (k := 1) rfl (nI_1 v) (by decide) rfl (fun ls hl => ?_)
            refine lv_goto (tgt := 23) hx hb dR_evaluate_73 (by decide) ?_
            exact ih2 (v + 1) _ _ ls (by omega) Z (lv_sub hl [0, 1, 2, 3, 4, 5, 6] rfl)
      exact inner n 0 _ _ ls (by omega) Z hl
  have hz0 : zevl n o P (fun v => zred P (X v)) A 0 = 0 := Nat.zero_mod P
  exact loop (zCt n) 0 _ _ ls (by omega) Z (by rw [hz0]; exact hl)
end
