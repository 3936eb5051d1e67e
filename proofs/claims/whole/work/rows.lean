section
-- ===== PART A: goes FIRST, ahead of the names: the tables' words, and 'selects' of the private methods out of them =====
/-- a private method of a class that the tables say can be made, by its rows of tables_1 -/
def lw_okq (q : MethodName × Nat) : Prop := (q.1.cls ≠ "java/lang/invoke/MethodHandle" ∧ q.1.cls ≠ "java/lang/invoke/VarHandle") ∧ Cond.instantiable q.1.cls q.2 ∈ tables_1 ∧ Cond.privateMethod q.1 ∈ tables_1 ∧ Cond.instanceMethod q.1 ∈ tables_1
theorem lw_p0 : lw_okq (⟨"PolynomialDesk$Ring", "listMonomials", "(III)V"⟩, 13) := ⟨⟨by decide +kernel, by decide +kernel⟩, List.mem_of_getElem? (i := 27) (by decide +kernel), List.mem_of_getElem? (i := 85) (by decide +kernel), List.mem_of_getElem? (i := 86) (by decide +kernel)⟩
theorem lw_p1 : lw_okq (⟨"PolynomialDesk$Ring", "recordMonomial", "(I)V"⟩, 13) := ⟨⟨by decide +kernel, by decide +kernel⟩, List.mem_of_getElem? (i := 27) (by decide +kernel), List.mem_of_getElem? (i := 89) (by decide +kernel), List.mem_of_getElem? (i := 90) (by decide +kernel)⟩
theorem lw_p2 : lw_okq (⟨"PolynomialDesk$Ring", "leadingOf", "([I)I"⟩, 13) := ⟨⟨by decide +kernel, by decide +kernel⟩, List.mem_of_getElem? (i := 27) (by decide +kernel), List.mem_of_getElem? (i := 198) (by decide +kernel), List.mem_of_getElem? (i := 199) (by decide +kernel)⟩
theorem lw_p3 : lw_okq (⟨"java/lang/Throwable", "fillInStackTrace", "(I)Ljava/lang/Throwable;"⟩, 6) := ⟨⟨by decide +kernel, by decide +kernel⟩, List.mem_of_getElem? (i := 271) (by decide +kernel), List.mem_of_getElem? (i := 269) (by decide +kernel), List.mem_of_getElem? (i := 270) (by decide +kernel)⟩
theorem lw_p4 : lw_okq (⟨"PolynomialDesk$Reader", "readSum", "(I)V"⟩, 9) := ⟨⟨by decide +kernel, by decide +kernel⟩, List.mem_of_getElem? (i := 93) (by decide +kernel), List.mem_of_getElem? (i := 339) (by decide +kernel), List.mem_of_getElem? (i := 340) (by decide +kernel)⟩
theorem lw_p5 : lw_okq (⟨"PolynomialDesk$Reader", "nextByte", "()I"⟩, 9) := ⟨⟨by decide +kernel, by decide +kernel⟩, List.mem_of_getElem? (i := 93) (by decide +kernel), List.mem_of_getElem? (i := 344) (by decide +kernel), List.mem_of_getElem? (i := 345) (by decide +kernel)⟩
theorem lw_p6 : lw_okq (⟨"PolynomialDesk$Reader", "readTerm", "(I)V"⟩, 9) := ⟨⟨by decide +kernel, by decide +kernel⟩, List.mem_of_getElem? (i := 93) (by decide +kernel), List.mem_of_getElem? (i := 348) (by decide +kernel), List.mem_of_getElem? (i := 349) (by decide +kernel)⟩
theorem lw_p7 : lw_okq (⟨"PolynomialDesk$Reader", "readFactor", "(I)V"⟩, 9) := ⟨⟨by decide +kernel, by decide +kernel⟩, List.mem_of_getElem? (i := 93) (by decide +kernel), List.mem_of_getElem? (i := 352) (by decide +kernel), List.mem_of_getElem? (i := 353) (by decide +kernel)⟩
theorem lw_p8 : lw_okq (⟨"PolynomialDesk$Reader", "readBareFactor", "(I)V"⟩, 9) := ⟨⟨by decide +kernel, by decide +kernel⟩, List.mem_of_getElem? (i := 93) (by decide +kernel), List.mem_of_getElem? (i := 356) (by decide +kernel), List.mem_of_getElem? (i := 357) (by decide +kernel)⟩
theorem lw_p9 : lw_okq (⟨"PolynomialDesk$Reader", "readNumber", "(I)I"⟩, 9) := ⟨⟨by decide +kernel, by decide +kernel⟩, List.mem_of_getElem? (i := 93) (by decide +kernel), List.mem_of_getElem? (i := 366) (by decide +kernel), List.mem_of_getElem? (i := 367) (by decide +kernel)⟩
theorem lw_p10 : lw_okq (⟨"PolynomialDesk$Reader", "noteFault", "(II)V"⟩, 9) := ⟨⟨by decide +kernel, by decide +kernel⟩, List.mem_of_getElem? (i := 93) (by decide +kernel), List.mem_of_getElem? (i := 370) (by decide +kernel), List.mem_of_getElem? (i := 371) (by decide +kernel)⟩
theorem lw_p11 : lw_okq (⟨"PolynomialDesk$Ring", "reduce", "(I)I"⟩, 13) := ⟨⟨by decide +kernel, by decide +kernel⟩, List.mem_of_getElem? (i := 27) (by decide +kernel), List.mem_of_getElem? (i := 378) (by decide +kernel), List.mem_of_getElem? (i := 379) (by decide +kernel)⟩
theorem lw_p12 : lw_okq (⟨"PolynomialDesk$Ring", "addAt", "(II[I)V"⟩, 13) := ⟨⟨by decide +kernel, by decide +kernel⟩, List.mem_of_getElem? (i := 27) (by decide +kernel), List.mem_of_getElem? (i := 382) (by decide +kernel), List.mem_of_getElem? (i := 383) (by decide +kernel)⟩
theorem lw_p13 : lw_okq (⟨"PolynomialDesk$Reader", "readGroup", "(I)V"⟩, 9) := ⟨⟨by decide +kernel, by decide +kernel⟩, List.mem_of_getElem? (i := 93) (by decide +kernel), List.mem_of_getElem? (i := 394) (by decide +kernel), List.mem_of_getElem? (i := 395) (by decide +kernel)⟩
theorem lw_p14 : lw_okq (⟨"PolynomialDesk", "requireVariable", "(I)V"⟩, 5) := ⟨⟨by decide +kernel, by decide +kernel⟩, List.mem_of_getElem? (i := 19) (by decide +kernel), List.mem_of_getElem? (i := 473) (by decide +kernel), List.mem_of_getElem? (i := 474) (by decide +kernel)⟩
theorem lw_p15 : lw_okq (⟨"PolynomialDesk$Ring", "timesPower", "(III)I"⟩, 13) := ⟨⟨by decide +kernel, by decide +kernel⟩, List.mem_of_getElem? (i := 27) (by decide +kernel), List.mem_of_getElem? (i := 495) (by decide +kernel), List.mem_of_getElem? (i := 496) (by decide +kernel)⟩
def lw_privs_1 : List (MethodName × Nat) := [(⟨"PolynomialDesk$Ring", "listMonomials", "(III)V"⟩, 13), (⟨"PolynomialDesk$Ring", "recordMonomial", "(I)V"⟩, 13), (⟨"PolynomialDesk$Ring", "leadingOf", "([I)I"⟩, 13), (⟨"java/lang/Throwable", "fillInStackTrace", "(I)Ljava/lang/Throwable;"⟩, 6), (⟨"PolynomialDesk$Reader", "readSum", "(I)V"⟩, 9), (⟨"PolynomialDesk$Reader", "nextByte", "()I"⟩, 9), (⟨"PolynomialDesk$Reader", "readTerm", "(I)V"⟩, 9), (⟨"PolynomialDesk$Reader", "readFactor", "(I)V"⟩, 9), (⟨"PolynomialDesk$Reader", "readBareFactor", "(I)V"⟩, 9), (⟨"PolynomialDesk$Reader", "readNumber", "(I)I"⟩, 9), (⟨"PolynomialDesk$Reader", "noteFault", "(II)V"⟩, 9), (⟨"PolynomialDesk$Ring", "reduce", "(I)I"⟩, 13), (⟨"PolynomialDesk$Ring", "addAt", "(II[I)V"⟩, 13), (⟨"PolynomialDesk$Reader", "readGroup", "(I)V"⟩, 9), (⟨"PolynomialDesk", "requireVariable", "(I)V"⟩, 5), (⟨"PolynomialDesk$Ring", "timesPower", "(III)I"⟩, 13)]
theorem lw_r1 : ∀ q ∈ lw_privs_1, lw_okq q := List.forall_mem_cons.mpr ⟨lw_p0, List.forall_mem_cons.mpr ⟨lw_p1, List.forall_mem_cons.mpr ⟨lw_p2, List.forall_mem_cons.mpr ⟨lw_p3, List.forall_mem_cons.mpr ⟨lw_p4, List.forall_mem_cons.mpr ⟨lw_p5, List.forall_mem_cons.mpr ⟨lw_p6, List.forall_mem_cons.mpr ⟨lw_p7, List.forall_mem_cons.mpr ⟨lw_p8, List.forall_mem_cons.mpr ⟨lw_p9, List.forall_mem_cons.mpr ⟨lw_p10, List.forall_mem_cons.mpr ⟨lw_p11, List.forall_mem_cons.mpr ⟨lw_p12, List.forall_mem_cons.mpr ⟨lw_p13, List.forall_mem_cons.mpr ⟨lw_p14, List.forall_mem_cons.mpr ⟨lw_p15, fun _ h => absurd h List.not_mem_nil⟩⟩⟩⟩⟩⟩⟩⟩⟩⟩⟩⟩⟩⟩⟩⟩
theorem lw_p16 : lw_okq (⟨"PolynomialDesk$Printer", "writeByte", "(C)V"⟩, 3) := ⟨⟨by decide +kernel, by decide +kernel⟩, List.mem_of_getElem? (i := 129) (by decide +kernel), List.mem_of_getElem? (i := 522) (by decide +kernel), List.mem_of_getElem? (i := 523) (by decide +kernel)⟩
theorem lw_p17 : lw_okq (⟨"PolynomialDesk$Printer", "writeTerm", "(II)V"⟩, 3) := ⟨⟨by decide +kernel, by decide +kernel⟩, List.mem_of_getElem? (i := 129) (by decide +kernel), List.mem_of_getElem? (i := 526) (by decide +kernel), List.mem_of_getElem? (i := 527) (by decide +kernel)⟩
theorem lw_p18 : lw_okq (⟨"PolynomialDesk$Printer", "writeNumber", "(I)V"⟩, 3) := ⟨⟨by decide +kernel, by decide +kernel⟩, List.mem_of_getElem? (i := 129) (by decide +kernel), List.mem_of_getElem? (i := 530) (by decide +kernel), List.mem_of_getElem? (i := 531) (by decide +kernel)⟩
theorem lw_p19 : lw_okq (⟨"PolynomialDeskModel", "prepare", "(III)V"⟩, 27) := ⟨⟨by decide +kernel, by decide +kernel⟩, List.mem_of_getElem? (i := 576) (by decide +kernel), List.mem_of_getElem? (i := 583) (by decide +kernel), List.mem_of_getElem? (i := 584) (by decide +kernel)⟩
theorem lw_p20 : lw_okq (⟨"PolynomialDeskModel", "list", "(I)V"⟩, 27) := ⟨⟨by decide +kernel, by decide +kernel⟩, List.mem_of_getElem? (i := 576) (by decide +kernel), List.mem_of_getElem? (i := 587) (by decide +kernel), List.mem_of_getElem? (i := 588) (by decide +kernel)⟩
theorem lw_p21 : lw_okq (⟨"PolynomialDeskModel", "isGreater", "(II)Z"⟩, 27) := ⟨⟨by decide +kernel, by decide +kernel⟩, List.mem_of_getElem? (i := 576) (by decide +kernel), List.mem_of_getElem? (i := 591) (by decide +kernel), List.mem_of_getElem? (i := 592) (by decide +kernel)⟩
theorem lw_p22 : lw_okq (⟨"PolynomialDeskModel", "begin", "()V"⟩, 27) := ⟨⟨by decide +kernel, by decide +kernel⟩, List.mem_of_getElem? (i := 576) (by decide +kernel), List.mem_of_getElem? (i := 699) (by decide +kernel), List.mem_of_getElem? (i := 700) (by decide +kernel)⟩
theorem lw_p23 : lw_okq (⟨"PolynomialDeskModel", "sum", "()I"⟩, 27) := ⟨⟨by decide +kernel, by decide +kernel⟩, List.mem_of_getElem? (i := 576) (by decide +kernel), List.mem_of_getElem? (i := 703) (by decide +kernel), List.mem_of_getElem? (i := 704) (by decide +kernel)⟩
theorem lw_p24 : lw_okq (⟨"PolynomialDeskModel", "clear", "(I)V"⟩, 27) := ⟨⟨by decide +kernel, by decide +kernel⟩, List.mem_of_getElem? (i := 576) (by decide +kernel), List.mem_of_getElem? (i := 707) (by decide +kernel), List.mem_of_getElem? (i := 708) (by decide +kernel)⟩
theorem lw_p25 : lw_okq (⟨"PolynomialDeskModel", "lay", "(III)V"⟩, 27) := ⟨⟨by decide +kernel, by decide +kernel⟩, List.mem_of_getElem? (i := 576) (by decide +kernel), List.mem_of_getElem? (i := 711) (by decide +kernel), List.mem_of_getElem? (i := 712) (by decide +kernel)⟩
theorem lw_p26 : lw_okq (⟨"PolynomialDeskModel", "here", "()I"⟩, 27) := ⟨⟨by decide +kernel, by decide +kernel⟩, List.mem_of_getElem? (i := 576) (by decide +kernel), List.mem_of_getElem? (i := 715) (by decide +kernel), List.mem_of_getElem? (i := 716) (by decide +kernel)⟩
theorem lw_p27 : lw_okq (⟨"PolynomialDeskModel", "readFactor", "(I)V"⟩, 27) := ⟨⟨by decide +kernel, by decide +kernel⟩, List.mem_of_getElem? (i := 576) (by decide +kernel), List.mem_of_getElem? (i := 719) (by decide +kernel), List.mem_of_getElem? (i := 720) (by decide +kernel)⟩
theorem lw_p28 : lw_okq (⟨"PolynomialDeskModel", "fail", "(II)V"⟩, 27) := ⟨⟨by decide +kernel, by decide +kernel⟩, List.mem_of_getElem? (i := 576) (by decide +kernel), List.mem_of_getElem? (i := 723) (by decide +kernel), List.mem_of_getElem? (i := 724) (by decide +kernel)⟩
theorem lw_p29 : lw_okq (⟨"PolynomialDeskModel", "variable", "(I)I"⟩, 27) := ⟨⟨by decide +kernel, by decide +kernel⟩, List.mem_of_getElem? (i := 576) (by decide +kernel), List.mem_of_getElem? (i := 727) (by decide +kernel), List.mem_of_getElem? (i := 728) (by decide +kernel)⟩
theorem lw_p30 : lw_okq (⟨"PolynomialDeskModel", "factor", "()I"⟩, 27) := ⟨⟨by decide +kernel, by decide +kernel⟩, List.mem_of_getElem? (i := 576) (by decide +kernel), List.mem_of_getElem? (i := 734) (by decide +kernel), List.mem_of_getElem? (i := 735) (by decide +kernel)⟩
theorem lw_p31 : lw_okq (⟨"PolynomialDeskModel", "number", "(I)J"⟩, 27) := ⟨⟨by decide +kernel, by decide +kernel⟩, List.mem_of_getElem? (i := 576) (by decide +kernel), List.mem_of_getElem? (i := 738) (by decide +kernel), List.mem_of_getElem? (i := 739) (by decide +kernel)⟩
def lw_privs_2 : List (MethodName × Nat) := [(⟨"PolynomialDesk$Printer", "writeByte", "(C)V"⟩, 3), (⟨"PolynomialDesk$Printer", "writeTerm", "(II)V"⟩, 3), (⟨"PolynomialDesk$Printer", "writeNumber", "(I)V"⟩, 3), (⟨"PolynomialDeskModel", "prepare", "(III)V"⟩, 27), (⟨"PolynomialDeskModel", "list", "(I)V"⟩, 27), (⟨"PolynomialDeskModel", "isGreater", "(II)Z"⟩, 27), (⟨"PolynomialDeskModel", "begin", "()V"⟩, 27), (⟨"PolynomialDeskModel", "sum", "()I"⟩, 27), (⟨"PolynomialDeskModel", "clear", "(I)V"⟩, 27), (⟨"PolynomialDeskModel", "lay", "(III)V"⟩, 27), (⟨"PolynomialDeskModel", "here", "()I"⟩, 27), (⟨"PolynomialDeskModel", "readFactor", "(I)V"⟩, 27), (⟨"PolynomialDeskModel", "fail", "(II)V"⟩, 27), (⟨"PolynomialDeskModel", "variable", "(I)I"⟩, 27), (⟨"PolynomialDeskModel", "factor", "()I"⟩, 27), (⟨"PolynomialDeskModel", "number", "(I)J"⟩, 27)]
theorem lw_r2 : ∀ q ∈ lw_privs_2, lw_okq q := List.forall_mem_cons.mpr ⟨lw_p16, List.forall_mem_cons.mpr ⟨lw_p17, List.forall_mem_cons.mpr ⟨lw_p18, List.forall_mem_cons.mpr ⟨lw_p19, List.forall_mem_cons.mpr ⟨lw_p20, List.forall_mem_cons.mpr ⟨lw_p21, List.forall_mem_cons.mpr ⟨lw_p22, List.forall_mem_cons.mpr ⟨lw_p23, List.forall_mem_cons.mpr ⟨lw_p24, List.forall_mem_cons.mpr ⟨lw_p25, List.forall_mem_cons.mpr ⟨lw_p26, List.forall_mem_cons.mpr ⟨lw_p27, List.forall_mem_cons.mpr ⟨lw_p28, List.forall_mem_cons.mpr ⟨lw_p29, List.forall_mem_cons.mpr ⟨lw_p30, List.forall_mem_cons.mpr ⟨lw_p31, fun _ h => absurd h List.not_mem_nil⟩⟩⟩⟩⟩⟩⟩⟩⟩⟩⟩⟩⟩⟩⟩⟩
theorem lw_p32 : lw_okq (⟨"PolynomialDeskModel", "modulo", "(J)I"⟩, 27) := ⟨⟨by decide +kernel, by decide +kernel⟩, List.mem_of_getElem? (i := 576) (by decide +kernel), List.mem_of_getElem? (i := 744) (by decide +kernel), List.mem_of_getElem? (i := 745) (by decide +kernel)⟩
theorem lw_p33 : lw_okq (⟨"PolynomialDeskModel", "readPower", "(I)V"⟩, 27) := ⟨⟨by decide +kernel, by decide +kernel⟩, List.mem_of_getElem? (i := 576) (by decide +kernel), List.mem_of_getElem? (i := 748) (by decide +kernel), List.mem_of_getElem? (i := 749) (by decide +kernel)⟩
theorem lw_p34 : lw_okq (⟨"PolynomialDeskModel", "degreeOf", "(I)I"⟩, 27) := ⟨⟨by decide +kernel, by decide +kernel⟩, List.mem_of_getElem? (i := 576) (by decide +kernel), List.mem_of_getElem? (i := 752) (by decide +kernel), List.mem_of_getElem? (i := 753) (by decide +kernel)⟩
theorem lw_p35 : lw_okq (⟨"PolynomialDeskModel", "cell", "(II)I"⟩, 27) := ⟨⟨by decide +kernel, by decide +kernel⟩, List.mem_of_getElem? (i := 576) (by decide +kernel), List.mem_of_getElem? (i := 756) (by decide +kernel), List.mem_of_getElem? (i := 757) (by decide +kernel)⟩
theorem lw_p36 : lw_okq (⟨"PolynomialDeskModel", "times", "(III)V"⟩, 27) := ⟨⟨by decide +kernel, by decide +kernel⟩, List.mem_of_getElem? (i := 576) (by decide +kernel), List.mem_of_getElem? (i := 760) (by decide +kernel), List.mem_of_getElem? (i := 761) (by decide +kernel)⟩
theorem lw_p37 : lw_okq (⟨"PolynomialDeskModel", "copy", "(II)V"⟩, 27) := ⟨⟨by decide +kernel, by decide +kernel⟩, List.mem_of_getElem? (i := 576) (by decide +kernel), List.mem_of_getElem? (i := 764) (by decide +kernel), List.mem_of_getElem? (i := 765) (by decide +kernel)⟩
theorem lw_p38 : lw_okq (⟨"PolynomialDeskModel", "goOn", "(I)V"⟩, 27) := ⟨⟨by decide +kernel, by decide +kernel⟩, List.mem_of_getElem? (i := 576) (by decide +kernel), List.mem_of_getElem? (i := 768) (by decide +kernel), List.mem_of_getElem? (i := 769) (by decide +kernel)⟩
theorem lw_p39 : lw_okq (⟨"PolynomialDeskModel", "product", "()I"⟩, 27) := ⟨⟨by decide +kernel, by decide +kernel⟩, List.mem_of_getElem? (i := 576) (by decide +kernel), List.mem_of_getElem? (i := 772) (by decide +kernel), List.mem_of_getElem? (i := 773) (by decide +kernel)⟩
theorem lw_p40 : lw_okq (⟨"PolynomialDeskModel", "isTooHigh", "(II)Z"⟩, 27) := ⟨⟨by decide +kernel, by decide +kernel⟩, List.mem_of_getElem? (i := 576) (by decide +kernel), List.mem_of_getElem? (i := 776) (by decide +kernel), List.mem_of_getElem? (i := 777) (by decide +kernel)⟩
theorem lw_p41 : lw_okq (⟨"PolynomialDeskModel", "addTo", "(III)V"⟩, 27) := ⟨⟨by decide +kernel, by decide +kernel⟩, List.mem_of_getElem? (i := 576) (by decide +kernel), List.mem_of_getElem? (i := 780) (by decide +kernel), List.mem_of_getElem? (i := 781) (by decide +kernel)⟩
theorem lw_p42 : lw_okq (⟨"PolynomialDeskModel", "terms", "(I)I"⟩, 27) := ⟨⟨by decide +kernel, by decide +kernel⟩, List.mem_of_getElem? (i := 576) (by decide +kernel), List.mem_of_getElem? (i := 784) (by decide +kernel), List.mem_of_getElem? (i := 785) (by decide +kernel)⟩
theorem lw_p43 : lw_okq (⟨"PolynomialDeskModel", "lacks", "(IIZ)Z"⟩, 27) := ⟨⟨by decide +kernel, by decide +kernel⟩, List.mem_of_getElem? (i := 576) (by decide +kernel), List.mem_of_getElem? (i := 796) (by decide +kernel), List.mem_of_getElem? (i := 797) (by decide +kernel)⟩
theorem lw_p44 : lw_okq (⟨"PolynomialDeskModel", "power", "(II)I"⟩, 27) := ⟨⟨by decide +kernel, by decide +kernel⟩, List.mem_of_getElem? (i := 576) (by decide +kernel), List.mem_of_getElem? (i := 812) (by decide +kernel), List.mem_of_getElem? (i := 813) (by decide +kernel)⟩
theorem lw_p45 : lw_okq (⟨"PolynomialDeskModel", "placeOf", "(II)I"⟩, 27) := ⟨⟨by decide +kernel, by decide +kernel⟩, List.mem_of_getElem? (i := 576) (by decide +kernel), List.mem_of_getElem? (i := 828) (by decide +kernel), List.mem_of_getElem? (i := 829) (by decide +kernel)⟩
theorem lw_p46 : lw_okq (⟨"PolynomialDeskModel", "say", "(I)V"⟩, 27) := ⟨⟨by decide +kernel, by decide +kernel⟩, List.mem_of_getElem? (i := 576) (by decide +kernel), List.mem_of_getElem? (i := 836) (by decide +kernel), List.mem_of_getElem? (i := 837) (by decide +kernel)⟩
theorem lw_p47 : lw_okq (⟨"PolynomialDeskModel", "sayTerm", "(II)V"⟩, 27) := ⟨⟨by decide +kernel, by decide +kernel⟩, List.mem_of_getElem? (i := 576) (by decide +kernel), List.mem_of_getElem? (i := 840) (by decide +kernel), List.mem_of_getElem? (i := 841) (by decide +kernel)⟩
def lw_privs_3 : List (MethodName × Nat) := [(⟨"PolynomialDeskModel", "modulo", "(J)I"⟩, 27), (⟨"PolynomialDeskModel", "readPower", "(I)V"⟩, 27), (⟨"PolynomialDeskModel", "degreeOf", "(I)I"⟩, 27), (⟨"PolynomialDeskModel", "cell", "(II)I"⟩, 27), (⟨"PolynomialDeskModel", "times", "(III)V"⟩, 27), (⟨"PolynomialDeskModel", "copy", "(II)V"⟩, 27), (⟨"PolynomialDeskModel", "goOn", "(I)V"⟩, 27), (⟨"PolynomialDeskModel", "product", "()I"⟩, 27), (⟨"PolynomialDeskModel", "isTooHigh", "(II)Z"⟩, 27), (⟨"PolynomialDeskModel", "addTo", "(III)V"⟩, 27), (⟨"PolynomialDeskModel", "terms", "(I)I"⟩, 27), (⟨"PolynomialDeskModel", "lacks", "(IIZ)Z"⟩, 27), (⟨"PolynomialDeskModel", "power", "(II)I"⟩, 27), (⟨"PolynomialDeskModel", "placeOf", "(II)I"⟩, 27), (⟨"PolynomialDeskModel", "say", "(I)V"⟩, 27), (⟨"PolynomialDeskModel", "sayTerm", "(II)V"⟩, 27)]
theorem lw_r3 : ∀ q ∈ lw_privs_3, lw_okq q := List.forall_mem_cons.mpr ⟨lw_p32, List.forall_mem_cons.mpr ⟨lw_p33, List.forall_mem_cons.mpr ⟨lw_p34, List.forall_mem_cons.mpr ⟨lw_p35, List.forall_mem_cons.mpr ⟨lw_p36, List.forall_mem_cons.mpr ⟨lw_p37, List.forall_mem_cons.mpr ⟨lw_p38, List.forall_mem_cons.mpr ⟨lw_p39, List.forall_mem_cons.mpr ⟨lw_p40, List.forall_mem_cons.mpr ⟨lw_p41, List.forall_mem_cons.mpr ⟨lw_p42, List.forall_mem_cons.mpr ⟨lw_p43, List.forall_mem_cons.mpr ⟨lw_p44, List.forall_mem_cons.mpr ⟨lw_p45, List.forall_mem_cons.mpr ⟨lw_p46, List.forall_mem_cons.mpr ⟨lw_p47, fun _ h => absurd h List.not_mem_nil⟩⟩⟩⟩⟩⟩⟩⟩⟩⟩⟩⟩⟩⟩⟩⟩
theorem lw_p48 : lw_okq (⟨"PolynomialDeskModel", "sayNumber", "(I)V"⟩, 27) := ⟨⟨by decide +kernel, by decide +kernel⟩, List.mem_of_getElem? (i := 576) (by decide +kernel), List.mem_of_getElem? (i := 844) (by decide +kernel), List.mem_of_getElem? (i := 845) (by decide +kernel)⟩
def lw_privs_4 : List (MethodName × Nat) := [(⟨"PolynomialDeskModel", "sayNumber", "(I)V"⟩, 27)]
theorem lw_r4 : ∀ q ∈ lw_privs_4, lw_okq q := List.forall_mem_cons.mpr ⟨lw_p48, fun _ h => absurd h List.not_mem_nil⟩
def lw_privs : List (MethodName × Nat) := lw_privs_1 ++ (lw_privs_2 ++ (lw_privs_3 ++ (lw_privs_4)))
def lw_tbl : List Cond := k2_sels lw_privs ++ tables_1
theorem lw_privs_ok : ∀ q ∈ lw_privs, lw_okq q := by
  show ∀ q ∈ lw_privs_1 ++ (lw_privs_2 ++ (lw_privs_3 ++ (lw_privs_4))), lw_okq q
  exact List.forall_mem_append.mpr ⟨lw_r1, List.forall_mem_append.mpr ⟨lw_r2, List.forall_mem_append.mpr ⟨lw_r3, lw_r4⟩⟩⟩
/-! ===== BEGIN words of one list among another's, by their places ===== -/
theorem goodIn_r {big : List Cond} (ws : List Cond) (ps : List Nat) (hp : ws = ps.filterMap (fun i => big[i]?)) (h : ws.all goodWord = true) : GoodIn big ws := by
  intro w hw
  have h1 := List.all_eq_true.mp h w hw
  rw [hp] at hw
  obtain ⟨i, -, hi⟩ := List.mem_filterMap.mp hw
  have hm : w ∈ big := by first | exact List.mem_of_getElem? hi | exact List.getElem?_mem hi
  exact ⟨hm, good_of_word h1⟩
theorem goodIn_app {big a b : List Cond} (ha : GoodIn big a) (hb : GoodIn big b) : GoodIn big (a ++ b) := fun w h => (List.mem_append.mp h).elim (ha w) (hb w)
theorem goodIn_ca {big a b : List Cond} {c : Cond} (ha : GoodIn big (c :: a)) (hb : GoodIn big b) : GoodIn big (c :: (a ++ b)) := fun w h => (List.mem_cons.mp h).elim (fun e => ha w (List.mem_cons.mpr (Or.inl e))) (fun h => (List.mem_append.mp h).elim (fun h => ha w (List.mem_cons.mpr (Or.inr h))) (hb w))
theorem goodIn_sub {big ws : List Cond} (hm : ∀ w ∈ ws, w ∈ big) (h : ws.all goodWord = true) : GoodIn big ws := fun w hw => ⟨hm w hw, good_of_word (List.all_eq_true.mp h w hw)⟩
/-! ===== END ===== -/

def va_AOA (ty : FieldType) (U : State) : Prop := (Cond.arrayOver (.array ty)).before #[] U = true
theorem va_AOA.use {ty : FieldType} {A : Array Value} {U : State} (h : va_AOA ty U) : (Cond.arrayOver (.array ty)).before A U = true := h
/-! ===== BEGIN new T[n][m]: the outer array a place, the inner ones among the pooled ===== -/
/-- f, but v at every address of l -/
def vr_up {α : Type} (f : Nat → α) (l : List Nat) (v : α) : Nat → α := fun a => if a ∈ l then v else f a
theorem vr_up_in {α : Type} {f : Nat → α} {l : List Nat} {v : α} {a : Nat} (h : a ∈ l) : vr_up f l v a = v := if_pos h
theorem vr_up_ne {α : Type} {f : Nat → α} {l : List Nat} {v : α} {a : Nat} (h : a ∉ l) : vr_up f l v a = f a := if_neg h
theorem vr_rows {L l : List Nat} {f : Nat → va_E} {e : va_E} (h : ∀ a, a ∈ l → a ∉ L) : va_pl L f ++ l.map (fun a => (a, e)) = va_pl (L ++ l) (vr_up f l e) := by
  unfold va_pl
  rw [List.map_append]
  congr 1
  · apply List.map_congr_left
    intro a ha
    rw [vr_up_ne (fun q => h a q ha)]
  · apply List.map_congr_left
    intro a ha
    rw [vr_up_in ha]
theorem vr_lay {X rows : va_W} {x : Nat × va_E} {pl : va_W} {D : va_G} {cl : List vw_C} {H : Heap} (hP : va_P D cl (((X ++ pl) ++ [x]) ++ rows) H) : va_P D cl ((X ++ [x]) ++ (pl ++ rows)) H := by
  rw [List.append_assoc (X ++ pl)] at hP
  have h := va_P.swap hP
  rw [← List.append_assoc X] at h
  have h2 := va_P.swap h
  rw [List.append_assoc (X ++ [x])] at h2
  exact h2
theorem vr_layD {X rows : va_W} {x : Nat × va_E} {pl : va_W} {A : Nat → Prop} (hD : va_D A (((X ++ pl) ++ [x]) ++ rows)) : va_D A ((X ++ [x]) ++ (pl ++ rows)) := by
  rw [List.append_assoc (X ++ pl)] at hD
  have h := va_D.swap hD
  rw [← List.append_assoc X] at h
  have h2 := va_D.swap h
  rw [List.append_assoc (X ++ [x])] at h2
  exact h2
theorem vr_outer (c : ClassId) (N h0 : Nat) : ∀ i : Nat, Jvm.Free.Multi.outerC c N h0 i = arrV c N (fun j => va_rf (if j < i then some (h0 + 1 + j) else none))
  | 0 => by
    show ({ cls := c, slots := Array.replicate N .null, vm := .none } : Cell) = _
    rw [arrV_new]
    refine congrArg (arrV c N) (funext fun j => ?_)
    simp [va_rf]
  | i + 1 => by
    show (Jvm.Free.Multi.outerC c N h0 i).setSlot i (.ref (h0 + 1 + i)) = _
    rw [vr_outer c N h0 i, arrV_store]
    refine congrArg (arrV c N) (funext fun j => ?_)
    by_cases e : j = i
    · subst e
      simp [updV, va_rf]
    · by_cases h : j < i
      · simp [updV, e, h, Nat.lt_succ_of_lt h]
      · simp [updV, e, h, show ¬ j < i + 1 by omega]
section VGM
variable {p : Program} {l : Launch} {e : Env} {R : Room} {s : State} {m : MethodId} {args : Array Value} {below : List Frame} {meth : Method} {c : Code} {H : Heap} {locs : List Loc} {cells slots : Nat} {Q : State → Prop}
variable {cc : ByteArray} {pc : Nat} {ls : Array Slot} {rest : List Value} {D : va_G} {cl : List vw_C} {A : Nat → Prop} {a : Nat} {tys : List (ClassId × FieldType)} {ws : va_W} {H0 : Heap}
theorem va_mna {X : va_W} {L : List Nat} {f : Nat → va_E} {cc : ByteArray} (hexec : p.tables.exec = Jvm.exec) (hb : c.code = cc) {own : String} {index : Nat} {ty : FieldType} {cy : ClassId} (hown : s.vm.findClass own = some m.cls) (hclink : (Cond.classLink own index ("[" ++ (FieldType.array ty).toString)).before args s = true) (hover : va_AOA ty s) (harr : (Cond.arrayClass ty).before args s = true) (hcy : s.vm.findClass (FieldType.array ty).toString = some cy)
    (hK : va_K D cl tys s) (hP : va_P D cl (X ++ va_pl L f) H) (hD : va_D A (X ++ va_pl L f)) (hS : va_S A H0 H locs) (hA : ∀ q, H0.size ≤ q → A q) {n k : Int32} {N' K' : Nat} {z : vp_A} (hn : ¬ n < 0) (hk : ¬ k < 0) (hN : n.toNatClampNeg = N') (hM : k.toNatClampNeg = K')
    (hb1 : N' * 4 ≤ 536870912) (hb2 : K' * componentBytes ty ≤ 536870912) (hb3 : K' ≤ 536870912) (hdf : fits ty (defaultValue ty) = true) (hdd : (defaultValue ty).isDefault = true) (hcells : cells + (1 + N') ≤ R.cells) (hslots : slots + (N' + N' * K') ≤ R.slots) (hz : ∀ c : ClassId, Jvm.Free.Multi.innerC c K' (defaultValue ty) = vp_cell c z) (hdg : decode cc pc = .ok (.multianewarray index 2, 4))
    (kk : ∀ (q : Nat) (r : Nat → Nat) (cA : ClassId) (H1 : Heap), (∀ i j : Nat, i < N' → j < N' → r i = r j → i = j) → (∀ i : Nat, i < N' → r i ∉ L) → va_K D cl (tys ++ [(cA, .array ty)]) s →
      va_P D cl ((X ++ [(q, .inl (cA, N', .inr (.inr (.inr (.inr (fun i => if i < N' then some (r i) else none))))))]) ++ va_pl (L ++ (List.range N').map r) (vr_up f ((List.range N').map r) (.inl (cy, z)))) H1 → va_D A ((X ++ [(q, .inl (cA, N', .inr (.inr (.inr (.inr (fun i => if i < N' then some (r i) else none))))))]) ++ va_pl (L ++ (List.range N').map r) (vr_up f ((List.range N').map r) (.inl (cy, z)))) → va_S A H0 H1 locs →
      W p l e R s m args below meth c H1 locs (cells + 1 + N') (slots + N' + N' * K') Q (F0 m (pc + 4) ls (.ref q :: rest))) : W p l e R s m args below meth c H locs cells slots Q (F0 m pc ls (.int k :: .int n :: rest)) := by
  subst hN
  subst hM
  intro T hT Xs
  obtain ⟨vm₁, cA, comp, -, fA, fC, hO, -, X', step⟩ := Xs.multianewarray2F hexec hown hclink (va_AOA.use hover) harr (g := F0 m pc ls (.int k :: .int n :: rest)) rfl (by rw [hb]; exact hdg) rfl hn hk hb1 hb2 hb3 hdf hdd hcells hslots
  have ec : some cy = some comp := hcy.symm.trans fC
  cases ec
  generalize hF : Jvm.Free.Multi.fill (T.setVm vm₁) cA cy n.toNatClampNeg k.toNatClampNeg (defaultValue ty) n.toNatClampNeg = F at X' step
  have hTh : (T.setVm vm₁).heap = H := hT
  obtain ⟨f1, f2, -, -⟩ := Jvm.Free.Multi.fill_facts (T.setVm vm₁) cA cy n.toNatClampNeg k.toNatClampNeg (defaultValue ty) n.toNatClampNeg
  rw [hF, hTh] at f1 f2
  have hold : ∀ x : Nat, x < H.size → F.heap[x]? = H[x]? := fun x hx => by
    have := Jvm.Free.Multi.fill_old (T.setVm vm₁) cA cy n.toNatClampNeg k.toNatClampNeg (defaultValue ty) (a := x) (by rw [hTh]; exact hx) n.toNatClampNeg
    rw [hF, hTh] at this
    exact this
  have hrow : ∀ j : Nat, j < n.toNatClampNeg → F.heap[H.size + 1 + j]? = some (vp_cell cy z) := fun j hj => by
    have := Jvm.Free.Multi.fill_inner (T.setVm vm₁) cA cy n.toNatClampNeg k.toNatClampNeg (defaultValue ty) n.toNatClampNeg j hj
    rw [hF, hTh, hz] at this
    exact this
  have hout : Jvm.Free.Multi.outerC cA n.toNatClampNeg H.size n.toNatClampNeg = vp_cell cA (n.toNatClampNeg, .inr (.inr (.inr (.inr (fun i => if i < n.toNatClampNeg then some (H.size + 1 + i) else none))))) := by
    rw [vp_cell_q]
    exact vr_outer cA n.toNatClampNeg H.size n.toNatClampNeg
  rw [hout] at f2
  have hlt : ∀ a, a ∈ L → a < H.size := fun a ha => by
    obtain ⟨k9, hk9⟩ := va_pl_get (X := X) (f := f) ha
    exact (hP k9 _ hk9).lt
  have hnl : ∀ i : Nat, i < n.toNatClampNeg → H.size + 1 + i ∉ L := fun i _ h => by
    have := hlt _ h
    omega
  have hnm : ∀ a, a ∈ (List.range n.toNatClampNeg).map (fun i => H.size + 1 + i) → a ∉ L := fun a ha h => by
    obtain ⟨i, -, rfl⟩ := List.mem_map.mp ha
    have := hlt _ h
    omega
  have hP0 : va_P D cl (X ++ va_pl L f) F.heap := hP.kept (fun k9 x hx => hold x.1 ((hP k9 x hx).lt))
  have hP1 : va_P D cl ((X ++ va_pl L f) ++ [(H.size, .inl (cA, n.toNatClampNeg, .inr (.inr (.inr (.inr (fun i => if i < n.toNatClampNeg then some (H.size + 1 + i) else none))))))]) F.heap := hP0.app (fun k9 x hx => by
    have h0 : k9 < 1 := (List.getElem?_eq_some_iff.mp hx).1
    rw [show k9 = 0 by omega] at hx
    cases hx
    exact f2)
  have hP2 : va_P D cl (((X ++ va_pl L f) ++ [(H.size, .inl (cA, n.toNatClampNeg, .inr (.inr (.inr (.inr (fun i => if i < n.toNatClampNeg then some (H.size + 1 + i) else none))))))]) ++ ((List.range n.toNatClampNeg).map (fun i => H.size + 1 + i)).map (fun a => (a, .inl (cy, z)))) F.heap := hP1.app (fun k9 x hx => by
    obtain ⟨a, ha, rfl⟩ := List.mem_map.mp (List.mem_of_getElem? hx)
    obtain ⟨i, hi, rfl⟩ := List.mem_map.mp ha
    exact hrow i (List.mem_range.mp hi))
  have hD2 : va_D A (((X ++ va_pl L f) ++ [(H.size, .inl (cA, n.toNatClampNeg, .inr (.inr (.inr (.inr (fun i => if i < n.toNatClampNeg then some (H.size + 1 + i) else none))))))]) ++ ((List.range n.toNatClampNeg).map (fun i => H.size + 1 + i)).map (fun a => (a, .inl (cy, z)))) := by
    have hD1 := hD.push (e := .inl (cA, n.toNatClampNeg, .inr (.inr (.inr (.inr (fun i => if i < n.toNatClampNeg then some (H.size + 1 + i) else none)))))) hP rfl (hA _ hS.1)
    generalize hW1 : (X ++ va_pl L f) ++ [(H.size, .inl (cA, n.toNatClampNeg, .inr (.inr (.inr (.inr (fun i => if i < n.toNatClampNeg then some (H.size + 1 + i) else none))))))] = W1 at hD1 hP1 ⊢
    have hle : ∀ (k9 : Nat) (x : Nat × va_E), W1[k9]? = some x → x.1 ≤ H.size := fun k9 x hx => by
      rw [← hW1] at hx
      by_cases hl : k9 < (X ++ va_pl L f).length
      · rw [List.getElem?_append_left hl] at hx
        exact Nat.le_of_lt ((hP k9 x hx).lt)
      · rw [List.getElem?_append_right (by omega)] at hx
        have h0 : k9 - (X ++ va_pl L f).length < 1 := (List.getElem?_eq_some_iff.mp hx).1
        rw [show k9 - (X ++ va_pl L f).length = 0 by omega] at hx
        cases hx
        exact Nat.le_refl _
    have hr : ∀ (k9 : Nat) (x : Nat × va_E), (((List.range n.toNatClampNeg).map (fun i => H.size + 1 + i)).map (fun a => ((a, .inl (cy, z)) : Nat × va_E)))[k9]? = some x → x.1 = H.size + 1 + k9 := fun k9 x hx => by
      rw [List.getElem?_map, List.getElem?_map] at hx
      by_cases h9 : k9 < n.toNatClampNeg
      · rw [List.getElem?_range h9] at hx
        cases hx
        rfl
      · have hn0 : (List.range n.toNatClampNeg)[k9]? = none := List.getElem?_eq_none (by rw [List.length_range]; omega)
        rw [hn0] at hx
        cases hx
    refine ⟨fun i j x y hi hj hxy => ?_, fun k9 x hx => ?_⟩
    · by_cases h1 : i < W1.length <;> by_cases h2 : j < W1.length
      · rw [List.getElem?_append_left h1] at hi
        rw [List.getElem?_append_left h2] at hj
        exact hD1.1 i j x y hi hj hxy
      · rw [List.getElem?_append_left h1] at hi
        rw [List.getElem?_append_right (by omega)] at hj
        have := hle _ _ hi
        have := hr _ _ hj
        omega
      · rw [List.getElem?_append_right (by omega)] at hi
        rw [List.getElem?_append_left h2] at hj
        have := hle _ _ hj
        have := hr _ _ hi
        omega
      · rw [List.getElem?_append_right (by omega)] at hi hj
        have := hr _ _ hi
        have := hr _ _ hj
        omega
    · by_cases h1 : k9 < W1.length
      · rw [List.getElem?_append_left h1] at hx
        exact hD1.2 k9 x hx
      · rw [List.getElem?_append_right (by omega)] at hx
        have := hr _ _ hx
        exact hA _ (by have := hS.1; omega)
  have hAr : ArrOfT s cA (.array ty) := fun N9 z9 => by
    obtain ⟨-, k9, hk9, cm9, hkk9⟩ := (hO 0 0 0).1
    exact ⟨(fun q hq => by cases hq), k9, hk9, cm9, hkk9⟩
  have hK2 : va_K D cl (tys ++ [(cA, .array ty)]) s := ⟨hK.1, fun k9 x hx => by
    by_cases hl : k9 < tys.length
    · rw [List.getElem?_append_left hl] at hx
      exact hK.2 k9 x hx
    · rw [List.getElem?_append_right (by omega)] at hx
      have h0 : k9 - tys.length < 1 := (List.getElem?_eq_some_iff.mp hx).1
      rw [show k9 - tys.length = 0 by omega] at hx
      cases hx
      exact ⟨hAr, fA⟩⟩
  obtain ⟨t, a1, b1⟩ := kk H.size (fun i => H.size + 1 + i) cA F.heap (fun i j _ _ h => by have h9 : H.size + 1 + i = H.size + 1 + j := h; omega) hnl hK2 (by rw [← vr_rows hnm]; exact vr_lay hP2) (by rw [← vr_rows hnm]; exact vr_layD hD2) ⟨by rw [f1]; have := hS.1; omega, fun x h1 h2 => (hold x (Nat.lt_of_lt_of_le h1 hS.1)).trans (hS.2.1 x h1 h2), hS.2.2⟩ F rfl X'
  refine ⟨t, step t ?_, b1⟩
  have e : T.heap.size = H.size := by rw [hT]
  rw [e]
  exact a1
end VGM
/-! ===== END ===== -/

/-! ===== BEGIN exceptions that leave a method, and their catching by the caller (launches without stack traces) ===== -/
section VXA
/-! The laws vx_back, vx_callV, vx_callS, vx_callSW, vx_throw0, vx_throwS follow proofs of the library, with one case more: JvmDerived/Free/Laws.lean (Back.of_free), Shelf42/LK1.lean (callV, callS), Shelf/KitTraced.lean (throwNew0V, throwNewS). -/
/-- where a method has thrown q: the class by its name, the cell, what was written, the world -/
def vx_T (XC : String → State → State → Prop) (st : State) (q : Addr) (t : State) (mc ms : Nat) (free : Addr → Prop) : Prop :=
  ∃ (E : String) (ce : Cell) (L : List Loc), XC E st t ∧ t.heap[q]? = some ce ∧ ce.vm = .none ∧ st.vm.findClass E = some ce.cls ∧ st.WarmedH t.vm ∧ st.sameButNew ({ t with vm := st.vm } : State) L mc ms ∧ ∀ z ∈ L, free z.base
def vx_Q (Qc : Array Value → State → Outcome → State → Prop) (XC : String → State → State → Prop) (mc ms : Nat) (free : Addr → Prop) : Array Value → State → Outcome → State → Prop := fun a st o t =>
  (Qc a st o t ∧ ∃ L, FrameEnd st o t L mc ms ∧ ∀ q ∈ L, free q.base) ∨ ∃ q, o = .threw q ∧ vx_T XC st q t mc ms free
/-- a callee that returns or throws -/
def vx_Met (l : Launch) (y : MethodName) (ws : List Cond) (rm : Room) (Pc : Array Value → State → Prop) (Qc : Array Value → State → Outcome → State → Prop) (XC : String → State → State → Prop) (mc ms : Nat) (free : Addr → Prop) : Prop :=
  MetFree l y (headSpec ws rm) Pc (fun _ _ _ _ _ => True) (vx_Q Qc XC mc ms free)
def vx_Post (XC : String → State → State → Prop) (mc ms : Nat) (free : Addr → Prop) : Pt → Array Value → Addr → Pt → Prop := fun A a q B =>
  ∃ (g : JFrame) (mk : MethodId) (t : State) (L : List Loc) (E : String) (ce : Cell), B.U.heap = t.heap ∧ B.U.vm = t.vm ∧ XC E (A.U.calling g mk a) t ∧ t.heap[q]? = some ce ∧ ce.vm = .none ∧ A.U.vm.findClass E = some ce.cls ∧ B.locs = A.locs ++ L ∧ (∀ z ∈ L, free z.base) ∧ B.cells = A.cells + mc ∧ B.slots = A.slots + ms
def vx_Back (l : Launch) (R : Room) (p : Program) (e : Env) (below : List Frame) (s : State) (sargs : Array Value) (y : MethodName) (len W9 : Nat)
    (Pre : Pt → Array Value → Prop) (Post : Pt → Array Value → Option Value → Pt → Prop) (PostX : Pt → Array Value → Addr → Pt → Prop) : Prop :=
  ∀ (m : MethodId) (meth : Method) (c : Code) (A : Pt) (g : JFrame) (ig : Instr) (mk : MethodId) (a : Array Value),
    Stand p l e R s m sargs below meth c A.U A.locs A.cells A.slots → g.method = m → g.locals.size = c.maxLocals → decode c.code g.pc = .ok (ig, len) →
    2 * g.monitorRoom + (g.stack.map fun v => v.category).sum ≤ W9 → A.U.methodNamed? y = some mk → Pre A a →
    (∃ (v : Option Value) (B : Pt), Stand p l e R s m sargs below meth c B.U B.locs B.cells B.slots ∧ Post A a v B ∧
      Steps p.tables e below (doInvoke e (A.U.setTop g) [] mk a).1 (B.U.setTop { g with pc := g.pc + len, stack := v.toList ++ g.stack })) ∨
    (∃ (q : Addr) (B : Pt), Stand p l e R s m sargs below meth c B.U B.locs B.cells B.slots ∧ PostX A a q B ∧
      Steps p.tables e below (doInvoke e (A.U.setTop g) [] mk a).1 ((B.U.setTop g).pushFrame (.throwing q)))
section Payer
variable {l : Launch} {R : Room} {p : Program} {e : Env} {below : List Frame} {s : State} {sargs : Array Value} {y : MethodName} {len W9 : Nat}
theorem vx_back {ws : List Cond} {rm : Room} {Pc : Array Value → State → Prop} {Qc : Array Value → State → Outcome → State → Prop} {XC : String → State → State → Prop} {mc ms : Nat} {free : Addr → Prop} {bytes : ByteArray} {maxL : Nat} {ret : Option FieldType}
    (hM : vx_Met l y ws rm Pc Qc XC mc ms free) (hblind : FrameBlind Pc) (hrc : rm.cells = mc) (hrs : rm.slots = ms)
    (hframes : rm.frames + 1 ≤ R.frames) (hlocals : W9 + (maxL + 11) + rm.locals ≤ R.locals)
    (hws : ∀ w ∈ ws, ∀ a' U, s.WarmedH U.vm → w.before a' U = true) (hcode : Cond.code y bytes maxL ret ∈ ws) (hinit : ∀ a' U, s.WarmedH U.vm → (Cond.initialized y.cls).before a' U = true) :
    vx_Back l R p e below s sargs y len W9 (PreOf R mc ms Pc) (PostOf Qc mc ms free) (vx_Post XC mc ms free) := by
  intro m meth c A g ig mk a X hg hsize hdg hW hn hp
  have h1 : (headSpec ws rm).pre.before a A.U = true := atoms_intro fun w hw => hws w hw _ _ X.warmed
  have h2 : (Cond.code y bytes maxL ret).before a A.U = true := hws _ hcode _ _ X.warmed
  have h3 : (Cond.initialized y.cls).before a A.U = true := hinit _ _ X.warmed
  have h4 : A.cells + (headSpec ws rm).room.cells ≤ R.cells := by rw [show (headSpec ws rm).room.cells = mc from hrc]; exact hp.1
  have h5 : A.slots + (headSpec ws rm).room.slots ≤ R.slots := by rw [show (headSpec ws rm).room.slots = ms from hrs]; exact hp.2.1
  have hPc : Pc a (A.U.calling g mk a) := hblind _ _ _ _ hp.2.2
  obtain ⟨U, Ls, c0, s0⟩ := A
  dsimp only [Pt.U, Pt.locs, Pt.cells, Pt.slots] at h1 h2 h3 h4 h5 X hn hPc ⊢
  obtain ⟨methY, cY, hmY, hcY, -, hlY, -, -, -, -⟩ := Cond.code_spec hn h2
  obtain ⟨kY, hkY, -⟩ := className_of_methodNamed hn
  have hinitY : kY.init = .initialized := Cond.initialized_spec (findClass_of_methodNamed hn) hkY h3
  have h : At U g.method c below := by rw [hg]; exact X.here
  have hlocals9 : W9 + (maxL + 11) + (headSpec ws rm).room.locals ≤ R.locals := hlocals
  have happ : (headSpec ws rm).appliesLoose y e.platform (U.calling g mk a) = true :=
    Spec.appliesLoose_calling (g := g) h hdg hn hkY hinitY
      (X.room_calling (g := g) (R' := (headSpec ws rm).room) hsize hmY hcY hframes (by rw [hlY]; omega) h4 h5) h1
  obtain ⟨mid, hmid⟩ := h.above
  have hfr : (U.setTop g).frames = (.java g :: mid) ++ below := by rw [State.frames_setTop' g h.top, hmid]; rfl
  obtain ⟨o, s₂, hsteps, -, hend, hq⟩ := Steps.callFree hM p X.admits X.cas X.clock (acts := []) hfr happ hPc trivial
  have hq' : vx_Q Qc XC mc ms free a (U.calling g mk a) o s₂ := hq
  rw [State.frames_setTop' g h.top] at hend
  obtain ⟨g₀, hg0⟩ := Option.isSome_iff_exists.mp h.top
  obtain ⟨r, hr⟩ := State.topJava?_eq_some.mp hg0
  have hr' : (({ U with heap := s₂.heap, slotsUsed := s₂.slotsUsed } : State).setVm s₂.vm).frames = .java g₀ :: r := hr
  rcases hq' with ⟨hqc, L, hfe, hL⟩ | ⟨q, rfl, E, ce, L, hx, hce, hcv, hcl, hW₂, hsm, hL⟩
  · obtain ⟨⟨v, rfl⟩, hW₂, e2, q2, q3, q4, q5, q6⟩ := id hfe
    have e3 : s₂ = ({ (U.calling g mk a).setFrames s₂.frames with heap := s₂.heap, slotsUsed := s₂.slotsUsed } : State).setVm s₂.vm := by
      have : s₂ = ({ s₂ with vm := (U.calling g mk a).vm } : State).setVm s₂.vm := rfl
      rw [e2] at this
      exact this
    obtain ⟨c₂, i₂, len₂, hc₂, hd₂, hf₂⟩ := hend
    have hW' : U.WarmedH s₂.vm := hW₂
    have hcc : c₂ = c := by
      have h1 : s₂.code? g.method = U.code? g.method := by
        rw [State.code?_eq, State.code?_eq, hW'.alike.method?]
      exact Option.some.inj (hc₂.symm.trans (h1.trans h.code))
    subst hcc
    have hlen : len₂ = len := by rw [hdg] at hd₂; cases hd₂; rfl
    subst hlen
    have hs₂ : s₂ = (({ U with heap := s₂.heap, slotsUsed := s₂.slotsUsed } : State).setVm s₂.vm).setTop { g with pc := g.pc + len₂, stack := v.toList ++ g.stack } := by
      refine e3.trans ?_
      rw [hf₂, State.calling_eq h.top, State.setFrames_setFrames, State.setTop_of_frames _ hr', hr]
      rfl
    have hsame : U.sameButNew ({ U with heap := s₂.heap, slotsUsed := s₂.slotsUsed } : State) L mc ms := by
      refine ⟨?_, q2, q3, q4, q5, q6⟩
      obtain ⟨t, ht, -⟩ := State.frames_cons hr
      show ({ U with heap := s₂.heap, slotsUsed := s₂.slotsUsed } : State) = { U.setFrames U.frames with heap := s₂.heap, slotsUsed := s₂.slotsUsed }
      rw [State.setFrames_self ht]
    subst hg
    refine Or.inl ⟨v, ⟨(({ U with heap := s₂.heap, slotsUsed := s₂.slotsUsed } : State).setVm s₂.vm), Ls ++ L, c0 + mc, s0 + ms⟩,
      ⟨X.admits, X.cas, X.clock, X.frames, X.room, X.hears, X.method, X.code, (X.here.setHeapUsed s₂.heap s₂.slotsUsed).setVm hW'.alike, X.tail, State.WarmedH.trans X.warmed hW', X.limits, X.bytes, X.same.trans (hsame.setVm s.vm)⟩,
      ⟨g, mk, s₂, L, rfl, rfl, hqc, rfl, hL, rfl, rfl⟩, ?_⟩
    show Steps p.tables e below _ ((({ U with heap := s₂.heap, slotsUsed := s₂.slotsUsed } : State).setVm s₂.vm).setTop { g with pc := g.pc + len₂, stack := v.toList ++ g.stack })
    rw [← hs₂]
    exact hsteps
  · obtain ⟨e2, q2, q3, q4, q5, q6⟩ := id hsm
    have e3 : s₂ = ({ (U.calling g mk a).setFrames s₂.frames with heap := s₂.heap, slotsUsed := s₂.slotsUsed } : State).setVm s₂.vm := by
      have : s₂ = ({ s₂ with vm := (U.calling g mk a).vm } : State).setVm s₂.vm := rfl
      rw [e2] at this
      exact this
    have hf₂ : s₂.frames = .throwing q :: .java g :: U.frames.tail := hend
    have hW' : U.WarmedH s₂.vm := hW₂
    have hs₂ : s₂ = ((({ U with heap := s₂.heap, slotsUsed := s₂.slotsUsed } : State).setVm s₂.vm).setTop g).pushFrame (.throwing q) := by
      refine e3.trans ?_
      rw [hf₂, State.calling_eq h.top, State.setFrames_setFrames, State.pushFrame, State.frames_setTop _ hr', State.setTop_of_frames _ hr', State.setFrames_setFrames, hr]
      rfl
    have hsame : U.sameButNew ({ U with heap := s₂.heap, slotsUsed := s₂.slotsUsed } : State) L mc ms := by
      refine ⟨?_, q2, q3, q4, q5, q6⟩
      obtain ⟨t, ht, -⟩ := State.frames_cons hr
      show ({ U with heap := s₂.heap, slotsUsed := s₂.slotsUsed } : State) = { U.setFrames U.frames with heap := s₂.heap, slotsUsed := s₂.slotsUsed }
      rw [State.setFrames_self ht]
    subst hg
    refine Or.inr ⟨q, ⟨(({ U with heap := s₂.heap, slotsUsed := s₂.slotsUsed } : State).setVm s₂.vm), Ls ++ L, c0 + mc, s0 + ms⟩,
      ⟨X.admits, X.cas, X.clock, X.frames, X.room, X.hears, X.method, X.code, (X.here.setHeapUsed s₂.heap s₂.slotsUsed).setVm hW'.alike, X.tail, State.WarmedH.trans X.warmed hW', X.limits, X.bytes, X.same.trans (hsame.setVm s.vm)⟩,
      ⟨g, mk, s₂, L, E, ce, rfl, rfl, hx, hce, hcv, hcl, rfl, hL, rfl, rfl⟩, ?_⟩
    show Steps p.tables e below _ (((({ U with heap := s₂.heap, slotsUsed := s₂.slotsUsed } : State).setVm s₂.vm).setTop g).pushFrame (.throwing q))
    rw [← hs₂]
    exact hsteps
end Payer
section Calls
variable {p : Program} {l : Launch} {e : Env} {R : Room} {s : State} {m : MethodId} {args : Array Value} {below : List Frame} {meth : Method} {c : Code} {T : State} {locs : List Loc} {cells slots : Nat}
theorem vx_callV (X : Stand p l e R s m args below meth c T locs cells slots) (hexec : p.tables.exec = Jvm.exec) {own C : String} {index : Nat} {y : MethodName} {bytes : ByteArray} {maxL : Nat} {ret : Option FieldType}
    (hown : s.vm.findClass own = some m.cls) (hlink : (Cond.methodLink own index y).before args s = true) (hinst : (Cond.instanceMethod y).before args s = true) (hsel : (Cond.selects C y y).before args s = true)
    (hcode : (Cond.code y bytes maxL ret).before args s = true) (hy : y.cls ≠ "java/lang/invoke/MethodHandle" ∧ y.cls ≠ "java/lang/invoke/VarHandle")
    {W9 : Nat} {Pre : Pt → Array Value → Prop} {Post : Pt → Array Value → Option Value → Pt → Prop} {PostX : Pt → Array Value → Addr → Pt → Prop} (hK : vx_Back l R p e below s args y 3 W9 Pre Post PostX)
    {b : Addr} {cellB : Cell} (hcell : T.heap[b]? = some cellB) (hobj : cellB.vm.isStatics = false) (hcls : s.vm.findClass C = some cellB.cls)
    {g : JFrame} (hg : g.method = m) (hsize : g.locals.size = c.maxLocals) {argsL rest : List Value} (hlen : ∀ sig, parseMethodDescriptor y.desc = some sig → argsL.length = sig.parameters.length)
    (hstack : g.stack = argsL.reverse ++ .ref b :: rest) (hW : 2 * g.monitorRoom + (rest.map fun v => v.category).sum ≤ W9) (hdg : decode c.code g.pc = .ok (.invokevirtual index, 3))
    (hpre : ∀ vm₁, s.WarmedH vm₁ → Pre ⟨T.setVm vm₁, locs, cells, slots⟩ (Value.ref b :: argsL).toArray) :
    (∃ (v : Option Value) (vm₁ : Vm) (B : Pt), s.WarmedH vm₁ ∧ Stand p l e R s m args below meth c B.U B.locs B.cells B.slots ∧ Post ⟨T.setVm vm₁, locs, cells, slots⟩ (Value.ref b :: argsL).toArray v B ∧
      ∀ target, Steps p.tables e below (B.U.setTop { g with pc := g.pc + 3, stack := v.toList ++ rest }) target → Steps p.tables e below (T.setTop g) target) ∨
    (∃ (q : Addr) (vm₁ : Vm) (B : Pt), s.WarmedH vm₁ ∧ Stand p l e R s m args below meth c B.U B.locs B.cells B.slots ∧ PostX ⟨T.setVm vm₁, locs, cells, slots⟩ (Value.ref b :: argsL).toArray q B ∧
      Steps p.tables e below (T.setTop g) ((B.U.setTop { g with stack := rest }).pushFrame (.throwing q))) := by
  obtain ⟨mk, methM, hnamed, hmethM, hstM, habM⟩ := Cond.instanceMethod_spec hinst
  obtain ⟨methM', cM, hmethM', -, -, -, -, -, -, hsigM⟩ := Cond.code_spec hnamed hcode
  cases hmethM.symm.trans hmethM'
  obtain ⟨c2, r2, m2, q1, q2, q3, q4, kP, hkP, hkPi⟩ := Cond.selects_spec hsel
  cases hcls.symm.trans q1
  cases (State.methodFound?_of_named hnamed hy).symm.trans q2
  cases hnamed.symm.trans q3
  have hselP : selectMethod e.platform s.vm cellB.cls mk = .method mk := by rw [Launch.admits_selectMethod X.admits]; exact q4
  obtain ⟨vm₁, X₁, hstep₁⟩ := X.invokevirtual hexec hown hlink hnamed hmethM hstM hkP hkPi hy (a := b) (cell := cellB) hcell
    (fun z h => by rw [h] at hobj; cases hobj) hselP hmethM habM hkP hkPi (g := g) hg (argsL := argsL) (rest := rest) (hlen _ hsigM) hstack hdg
  rcases hK m meth c ⟨T.setVm vm₁, locs, cells, slots⟩ { g with stack := rest } (.invokevirtual index) mk (Value.ref b :: argsL).toArray X₁ hg hsize hdg hW (X₁.named hnamed) (hpre vm₁ X₁.warmed) with ⟨v, B, X', hpost, hsteps⟩ | ⟨q, B, X', hpost, hsteps⟩
  · exact Or.inl ⟨v, vm₁, B, X₁.warmed, X', hpost, fun target h => hstep₁ _ fun acts => by rw [doInvoke_state]; exact hsteps.trans h⟩
  · exact Or.inr ⟨q, vm₁, B, X₁.warmed, X', hpost, hstep₁ _ fun acts => by rw [doInvoke_state]; exact hsteps⟩
theorem vx_callS (X : Stand p l e R s m args below meth c T locs cells slots) (hexec : p.tables.exec = Jvm.exec) {own : String} {index : Nat} {y : MethodName} {bytes : ByteArray} {maxL : Nat} {ret : Option FieldType}
    (hown : s.vm.findClass own = some m.cls) (hlink : (Cond.methodLink own index y).before args s = true) (hstat : (Cond.static y).before args s = true) (hinit : (Cond.initialized y.cls).before args s = true)
    (hcode : (Cond.code y bytes maxL ret).before args s = true) (hy : y.cls ≠ "java/lang/invoke/MethodHandle" ∧ y.cls ≠ "java/lang/invoke/VarHandle")
    {W9 : Nat} {Pre : Pt → Array Value → Prop} {Post : Pt → Array Value → Option Value → Pt → Prop} {PostX : Pt → Array Value → Addr → Pt → Prop} (hK : vx_Back l R p e below s args y 3 W9 Pre Post PostX)
    {g : JFrame} (hg : g.method = m) (hsize : g.locals.size = c.maxLocals) {argsL rest : List Value} (hlen : ∀ sig, parseMethodDescriptor y.desc = some sig → argsL.length = sig.parameters.length)
    (hstack : g.stack = argsL.reverse ++ rest) (hW : 2 * g.monitorRoom + (rest.map fun v => v.category).sum ≤ W9) (hdg : decode c.code g.pc = .ok (.invokestatic index, 3))
    (hpre : ∀ vm₁, s.WarmedH vm₁ → Pre ⟨T.setVm vm₁, locs, cells, slots⟩ argsL.toArray) :
    (∃ (v : Option Value) (vm₁ : Vm) (B : Pt), s.WarmedH vm₁ ∧ Stand p l e R s m args below meth c B.U B.locs B.cells B.slots ∧ Post ⟨T.setVm vm₁, locs, cells, slots⟩ argsL.toArray v B ∧
      ∀ target, Steps p.tables e below (B.U.setTop { g with pc := g.pc + 3, stack := v.toList ++ rest }) target → Steps p.tables e below (T.setTop g) target) ∨
    (∃ (q : Addr) (vm₁ : Vm) (B : Pt), s.WarmedH vm₁ ∧ Stand p l e R s m args below meth c B.U B.locs B.cells B.slots ∧ PostX ⟨T.setVm vm₁, locs, cells, slots⟩ argsL.toArray q B ∧
      Steps p.tables e below (T.setTop g) ((B.U.setTop { g with stack := rest }).pushFrame (.throwing q))) := by
  obtain ⟨mk, hnamed⟩ := Cond.code_named hcode
  obtain ⟨methM, cM, hmethM, -, -, -, -, -, -, hsigM⟩ := Cond.code_spec hnamed hcode
  have hstatic : methM.isStatic = true := Cond.static_spec hnamed hmethM hstat
  obtain ⟨kP, hkP, -⟩ := className_of_methodNamed hnamed
  have hinitP : kP.init = .initialized := Cond.initialized_spec (findClass_of_methodNamed hnamed) hkP hinit
  obtain ⟨vm₁, X₁, hstep₁⟩ := X.invokestatic hexec hown hlink hnamed hmethM hstatic hkP hinitP hy (g := g) hg (argsL := argsL) (rest := rest) (hlen _ hsigM) hstack hdg
  rcases hK m meth c ⟨T.setVm vm₁, locs, cells, slots⟩ { g with stack := rest } (.invokestatic index) mk argsL.toArray X₁ hg hsize hdg hW (X₁.named hnamed) (hpre vm₁ X₁.warmed) with ⟨v, B, X', hpost, hsteps⟩ | ⟨q, B, X', hpost, hsteps⟩
  · exact Or.inl ⟨v, vm₁, B, X₁.warmed, X', hpost, fun target h => hstep₁ _ fun acts => by rw [doInvoke_state]; exact hsteps.trans h⟩
  · exact Or.inr ⟨q, vm₁, B, X₁.warmed, X', hpost, hstep₁ _ fun acts => by rw [doInvoke_state]; exact hsteps⟩
end Calls
theorem vx_cls {s : State} {T : State} {vm₁ : Vm} {E : String} {k : ClassId} (hW : s.WarmedH vm₁) (h : (T.setVm vm₁).vm.findClass E = some k) : s.vm.findClass E = some k := by
  have h1 : vm₁.findClass E = some k := h
  rw [hW.alike.findClass] at h1
  exact h1
/-- the method's frame g, with q thrown over it -/
def vx_W (p : Program) (l : Launch) (e : Env) (R : Room) (s : State) (m : MethodId) (args : Array Value) (below : List Frame) (meth : Method) (c : Code) (H : Heap) (locs : List Loc) (cells slots : Nat) (Q : State → Prop) (g : JFrame) (q : Addr) : Prop :=
  ∀ T : State, T.heap = H → Stand p l e R s m args below meth c T locs cells slots → ∃ t, Steps p.tables e below ((T.setTop g).pushFrame (.throwing q)) t ∧ Q t
def vx_Run (p : Program) (l : Launch) (e : Env) (R : Room) (s : State) (m : MethodId) (args : Array Value) (below : List Frame) (meth : Method) (c : Code) (H : Heap) (locs : List Loc) (cells slots mc ms : Nat) (g : JFrame) (rest : List Value) (Qa : State → Outcome → State → Prop) (XC : String → State → State → Prop) (free : Addr → Prop) : Prop :=
  ∀ T : State, T.heap = H → Stand p l e R s m args below meth c T locs cells slots →
    (∃ (v : Option Value) (st₀ t T' : State) (L : List Loc), st₀.heap = H ∧ Stand p l e R s m args below meth c T' (locs ++ L) (cells + mc) (slots + ms) ∧ (∀ q ∈ L, free q.base) ∧ T'.heap = t.heap ∧ T'.vm = t.vm ∧ Qa st₀ (.returned v) t ∧
      Goes p e below T g T' { g with pc := g.pc + 3, stack := v.toList ++ rest }) ∨
    (∃ (q : Addr) (st₀ t T' : State) (L : List Loc) (E : String) (ce : Cell), st₀.heap = H ∧ Stand p l e R s m args below meth c T' (locs ++ L) (cells + mc) (slots + ms) ∧ (∀ z ∈ L, free z.base) ∧ T'.heap = t.heap ∧ T'.vm = t.vm ∧ XC E st₀ t ∧ t.heap[q]? = some ce ∧ ce.vm = .none ∧ s.vm.findClass E = some ce.cls ∧
      Steps p.tables e below (T.setTop g) ((T'.setTop { g with stack := rest }).pushFrame (.throwing q)))
def vx_X {S : Type} (px : S → Prop) (B : String → S → State → Prop) (A : Nat → Prop) : String → State → State → Prop := fun E st t => ∃ u : S, px u ∧ B E u t ∧ va_F A st t
section Runs
variable {p : Program} {l : Launch} {e : Env} {R : Room} {s : State} {m : MethodId} {args : Array Value} {below : List Frame} {meth : Method} {c : Code} {H : Heap} {locs : List Loc} {cells slots : Nat}
variable {y : MethodName} {bytes cc : ByteArray} {maxL nL mc ms n index : Nat} {ret : Option FieldType} {ws : List Cond} {rm : Room} {Pc : Array Value → State → Prop} {Qc : Array Value → State → Outcome → State → Prop} {XC : String → State → State → Prop} {free : Addr → Prop} {Ts : List Cond} {own C : String} {b : Addr} {As rest : List Value} {g : JFrame}
theorem vx_callBack (cb : CallB R s args own index y bytes maxL ret ws rm mc ms n) (hM : vx_Met l y ws rm Pc Qc XC mc ms free) (hbl : FrameBlind Pc) : vx_Back l R p e below s args y 3 8 (PreOf R mc ms Pc) (PostOf Qc mc ms free) (vx_Post XC mc ms free) := by
  obtain ⟨hrc, hrs, hfr, hlo, hws, hcw, -, hini, -⟩ := cb
  exact vx_back (bytes := bytes) (maxL := maxL) (ret := ret) hM hbl hrc hrs hfr hlo hws hcw (fun a' U hW => word_at hW (Or.inl (by first | rfl | simp [Cond.onTables, Cond.keeps, Cond.steady])) hini)
theorem vx_runV (S : CallFix p m c cc nL s args Ts own) (hM : vx_Met l y ws rm Pc Qc XC mc ms free) (cw : CallW R s args own C index y bytes maxL ret ws rm mc ms n) (hp : PreV s H C b Pc As)
    (hg : g.method = m) (hn : As.length = n) (hsize : g.locals.size = nL) (hstack : g.stack = As.reverse ++ .ref b :: rest) (hW : 2 * g.monitorRoom + (rest.map fun v => v.category).sum ≤ 8) (hdg : decode cc g.pc = .ok (.invokevirtual index, 3)) (hf : cells + mc ≤ R.cells ∧ slots + ms ≤ R.slots) :
    vx_Run p l e R s m args below meth c H locs cells slots mc ms g rest (Qc (Value.ref b :: As).toArray) XC free := by
  have hK : vx_Back l R p e below s args y 3 8 (PreOf R mc ms Pc) (PostOf Qc mc ms free) (vx_Post XC mc ms free) := vx_callBack cw.1 hM hp.1
  obtain ⟨⟨-, -, -, -, -, -, hcode, -, hy, hlen, hl⟩, hin, hse⟩ := cw
  obtain ⟨hx, hb, hml, ho, -⟩ := S
  obtain ⟨-, ⟨cellB, hcB, hoB, hclB⟩, hPc⟩ := hp
  intro T hT X
  rcases vx_callV X hx (C := C) (bytes := bytes) (maxL := maxL) (ret := ret) ho hl hin hse hcode hy hK (by rw [hT]; exact hcB) hoB hclB hg (hsize.trans hml.symm) (argsL := As) (rest := rest) (fun sig h => hn.trans (hlen sig h)) hstack hW (by rw [hb]; exact hdg)
    (fun vm₁ hW₁ => ⟨hf.1, hf.2, hPc (T.setVm vm₁) hT hW₁⟩) with ⟨v, vm₁, ⟨U', l2, c2, s2⟩, hW₁, X', ⟨g', mk, t, L, e1, e2, hq, h1, hL, h2, h3⟩, st⟩ | ⟨q, vm₁, ⟨U', l2, c2, s2⟩, hW₁, X', ⟨g', mk, t, L, E, ce, e1, e2, hq, hce, hcv, hcl, h1, hL, h2, h3⟩, st⟩
  · dsimp only [Pt.U, Pt.locs, Pt.cells, Pt.slots] at X' e1 e2 h1 h2 h3 st
    subst h1; subst h2; subst h3
    exact Or.inl ⟨v, (T.setVm vm₁).calling g' mk (Value.ref b :: As).toArray, t, U', L, hT, X', hL, e1, e2, hq, st⟩
  · dsimp only [Pt.U, Pt.locs, Pt.cells, Pt.slots] at X' e1 e2 h1 h2 h3 st hcl
    subst h1; subst h2; subst h3
    exact Or.inr ⟨q, (T.setVm vm₁).calling g' mk (Value.ref b :: As).toArray, t, U', L, E, ce, hT, X', hL, e1, e2, hq, hce, hcv, vx_cls hW₁ hcl, st⟩
theorem vx_runS (S : CallFix p m c cc nL s args Ts own) (hM : vx_Met l y ws rm Pc Qc XC mc ms free) (cw : CallB R s args own index y bytes maxL ret ws rm mc ms n ∧ (Cond.static y).before args s = true) (hp : PreS s H Pc As)
    (hg : g.method = m) (hn : As.length = n) (hsize : g.locals.size = nL) (hstack : g.stack = As.reverse ++ rest) (hW : 2 * g.monitorRoom + (rest.map fun v => v.category).sum ≤ 8) (hdg : decode cc g.pc = .ok (.invokestatic index, 3)) (hf : cells + mc ≤ R.cells ∧ slots + ms ≤ R.slots) :
    vx_Run p l e R s m args below meth c H locs cells slots mc ms g rest (Qc As.toArray) XC free := by
  have hK : vx_Back l R p e below s args y 3 8 (PreOf R mc ms Pc) (PostOf Qc mc ms free) (vx_Post XC mc ms free) := vx_callBack cw.1 hM hp.1
  obtain ⟨⟨-, -, -, -, -, -, hcode, hini, hy, hlen, hl⟩, hstt⟩ := cw
  obtain ⟨hx, hb, hml, ho, -⟩ := S
  intro T hT X
  rcases vx_callS X hx (bytes := bytes) (maxL := maxL) (ret := ret) ho hl hstt hini hcode hy hK hg (hsize.trans hml.symm) (argsL := As) (rest := rest) (fun sig h => hn.trans (hlen sig h)) hstack hW (by rw [hb]; exact hdg)
    (fun vm₁ hW₁ => ⟨hf.1, hf.2, hp.2 (T.setVm vm₁) hT hW₁⟩) with ⟨v, vm₁, ⟨U', l2, c2, s2⟩, hW₁, X', ⟨g', mk, t, L, e1, e2, hq, h1, hL, h2, h3⟩, st⟩ | ⟨q, vm₁, ⟨U', l2, c2, s2⟩, hW₁, X', ⟨g', mk, t, L, E, ce, e1, e2, hq, hce, hcv, hcl, h1, hL, h2, h3⟩, st⟩
  · dsimp only [Pt.U, Pt.locs, Pt.cells, Pt.slots] at X' e1 e2 h1 h2 h3 st
    subst h1; subst h2; subst h3
    exact Or.inl ⟨v, (T.setVm vm₁).calling g' mk As.toArray, t, U', L, hT, X', hL, e1, e2, hq, st⟩
  · dsimp only [Pt.U, Pt.locs, Pt.cells, Pt.slots] at X' e1 e2 h1 h2 h3 st hcl
    subst h1; subst h2; subst h3
    exact Or.inr ⟨q, (T.setVm vm₁).calling g' mk As.toArray, t, U', L, E, ce, hT, X', hL, e1, e2, hq, hce, hcv, vx_cls hW₁ hcl, st⟩
end Runs
section Rows
variable {p : Program} {l : Launch} {e : Env} {R : Room} {s : State} {m : MethodId} {args : Array Value} {below : List Frame} {meth : Method} {c : Code} {H : Heap} {locs : List Loc} {cells slots : Nat} {Q : State → Prop}
variable {mc ms : Nat} {free : Addr → Prop} {A0 A1 : Nat → Prop} {H0 : Heap} {a : Array Value} {pc : Nat} {ls : Array Slot} {st0 rest : List Value}
theorem vx_keep {st₀ t T' : State} {L : List Loc} (h0 : st₀.heap = H) (e1 : T'.heap = t.heap) (hS : va_S A0 H0 H locs) (hA : ∀ q, q < H.size → A1 q → A0 q) (hf : ∀ q, free q → A0 q) (hL : ∀ q ∈ L, free q.base) (hF : va_F A1 st₀ t) :
    H.size ≤ T'.heap.size ∧ (∀ q : Nat, q < H.size → ¬ A1 q → T'.heap[q]? = H[q]?) ∧ va_S A0 H0 T'.heap (locs ++ L) := by
  obtain ⟨hz, hk⟩ := hF
  rw [h0] at hz hk
  exact ⟨by rw [e1]; exact hz, fun q h1 h2 => by rw [e1]; exact hk q h1 h2,
    ⟨Nat.le_trans hS.1 (by rw [e1]; exact hz), fun q h1 h2 => by rw [e1, hk q (Nat.lt_of_lt_of_le h1 hS.1) (fun z => h2 (hA q (Nat.lt_of_lt_of_le h1 hS.1) z))]; exact hS.2.1 q h1 h2, fun q hq => by
      rcases List.mem_append.mp hq with h | h
      · exact hS.2.2 q h
      · exact hf _ (hL q h)⟩⟩
theorem vx_calli {S SX : Type} {post : Int32 → S → Prop} {px : SX → Prop} {B : S → State → Prop} {BX : String → SX → State → Prop} {AX : Nat → Prop} (hr : vx_Run p l e R s m args below meth c H locs cells slots mc ms (F0 m pc ls st0) rest (va_Qi post B A1 a) (vx_X px BX AX) free) (hS : va_S A0 H0 H locs) (hA : ∀ q, q < H.size → A1 q → A0 q) (hf : ∀ q, free q → A0 q) (hAX : ∀ q, q < H.size → AX q → A0 q)
    (kx : ∀ (E : String) (ce : Cell) (q9 : Addr) (u : SX) (t : State) (H1 : Heap) (locs1 : List Loc), t.heap = H1 → s.vm.Alike t.vm → px u → BX E u t → H.size ≤ H1.size → (∀ q : Nat, q < H.size → ¬ AX q → H1[q]? = H[q]?) → va_S A0 H0 H1 locs1 → H1[q9]? = some ce → ce.vm = .none → s.vm.findClass E = some ce.cls → vx_W p l e R s m args below meth c H1 locs1 (cells + mc) (slots + ms) Q (F0 m pc ls rest) q9)
    (kk : ∀ (r : Int32) (u : S) (t : State) (H1 : Heap) (locs1 : List Loc), t.heap = H1 → s.vm.Alike t.vm → post r u → B u t → H.size ≤ H1.size → (∀ q : Nat, q < H.size → ¬ A1 q → H1[q]? = H[q]?) → va_S A0 H0 H1 locs1 → W p l e R s m args below meth c H1 locs1 (cells + mc) (slots + ms) Q (F0 m (pc + 3) ls (.int r :: rest))) : W p l e R s m args below meth c H locs cells slots Q (F0 m pc ls st0) := by
  intro T hT X
  rcases hr T hT X with ⟨v, st₀, t, T', L, h0, X', hL, e1, e2, ⟨⟨r, u, hv, hp, hb⟩, hF⟩, st⟩ | ⟨q, st₀, t, T', L, E, ce, h0, X', hL, e1, e2, ⟨u, hp, hb, hF⟩, hce, hcv, hcl, st⟩
  · cases hv
    obtain ⟨k1, k2, k3⟩ := vx_keep h0 e1 hS hA hf hL hF
    obtain ⟨t2, a1, b1⟩ := kk r u t T'.heap (locs ++ L) e1.symm (by rw [← e2]; exact X'.warmed.alike) hp hb k1 k2 k3 T' rfl X'
    exact ⟨t2, st t2 a1, b1⟩
  · obtain ⟨k1, k2, k3⟩ := vx_keep h0 e1 hS hAX hf hL hF
    obtain ⟨t2, a1, b1⟩ := kx E ce q u t T'.heap (locs ++ L) e1.symm (by rw [← e2]; exact X'.warmed.alike) hp hb k1 k2 k3 (by rw [e1]; exact hce) hcv hcl T' rfl X'
    exact ⟨t2, st.trans a1, b1⟩
theorem vx_calll {S SX : Type} {post : Int64 → S → Prop} {px : SX → Prop} {B : S → State → Prop} {BX : String → SX → State → Prop} {AX : Nat → Prop} (hr : vx_Run p l e R s m args below meth c H locs cells slots mc ms (F0 m pc ls st0) rest (va_Ql post B A1 a) (vx_X px BX AX) free) (hS : va_S A0 H0 H locs) (hA : ∀ q, q < H.size → A1 q → A0 q) (hf : ∀ q, free q → A0 q) (hAX : ∀ q, q < H.size → AX q → A0 q)
    (kx : ∀ (E : String) (ce : Cell) (q9 : Addr) (u : SX) (t : State) (H1 : Heap) (locs1 : List Loc), t.heap = H1 → s.vm.Alike t.vm → px u → BX E u t → H.size ≤ H1.size → (∀ q : Nat, q < H.size → ¬ AX q → H1[q]? = H[q]?) → va_S A0 H0 H1 locs1 → H1[q9]? = some ce → ce.vm = .none → s.vm.findClass E = some ce.cls → vx_W p l e R s m args below meth c H1 locs1 (cells + mc) (slots + ms) Q (F0 m pc ls rest) q9)
    (kk : ∀ (r : Int64) (u : S) (t : State) (H1 : Heap) (locs1 : List Loc), t.heap = H1 → s.vm.Alike t.vm → post r u → B u t → H.size ≤ H1.size → (∀ q : Nat, q < H.size → ¬ A1 q → H1[q]? = H[q]?) → va_S A0 H0 H1 locs1 → W p l e R s m args below meth c H1 locs1 (cells + mc) (slots + ms) Q (F0 m (pc + 3) ls (.long r :: rest))) : W p l e R s m args below meth c H locs cells slots Q (F0 m pc ls st0) := by
  intro T hT X
  rcases hr T hT X with ⟨v, st₀, t, T', L, h0, X', hL, e1, e2, ⟨⟨r, u, hv, hp, hb⟩, hF⟩, st⟩ | ⟨q, st₀, t, T', L, E, ce, h0, X', hL, e1, e2, ⟨u, hp, hb, hF⟩, hce, hcv, hcl, st⟩
  · cases hv
    obtain ⟨k1, k2, k3⟩ := vx_keep h0 e1 hS hA hf hL hF
    obtain ⟨t2, a1, b1⟩ := kk r u t T'.heap (locs ++ L) e1.symm (by rw [← e2]; exact X'.warmed.alike) hp hb k1 k2 k3 T' rfl X'
    exact ⟨t2, st t2 a1, b1⟩
  · obtain ⟨k1, k2, k3⟩ := vx_keep h0 e1 hS hAX hf hL hF
    obtain ⟨t2, a1, b1⟩ := kx E ce q u t T'.heap (locs ++ L) e1.symm (by rw [← e2]; exact X'.warmed.alike) hp hb k1 k2 k3 (by rw [e1]; exact hce) hcv hcl T' rfl X'
    exact ⟨t2, st.trans a1, b1⟩
theorem vx_callf {S SX : Type} {post : UInt32 → S → Prop} {px : SX → Prop} {B : S → State → Prop} {BX : String → SX → State → Prop} {AX : Nat → Prop} (hr : vx_Run p l e R s m args below meth c H locs cells slots mc ms (F0 m pc ls st0) rest (va_Qf post B A1 a) (vx_X px BX AX) free) (hS : va_S A0 H0 H locs) (hA : ∀ q, q < H.size → A1 q → A0 q) (hf : ∀ q, free q → A0 q) (hAX : ∀ q, q < H.size → AX q → A0 q)
    (kx : ∀ (E : String) (ce : Cell) (q9 : Addr) (u : SX) (t : State) (H1 : Heap) (locs1 : List Loc), t.heap = H1 → s.vm.Alike t.vm → px u → BX E u t → H.size ≤ H1.size → (∀ q : Nat, q < H.size → ¬ AX q → H1[q]? = H[q]?) → va_S A0 H0 H1 locs1 → H1[q9]? = some ce → ce.vm = .none → s.vm.findClass E = some ce.cls → vx_W p l e R s m args below meth c H1 locs1 (cells + mc) (slots + ms) Q (F0 m pc ls rest) q9)
    (kk : ∀ (r : UInt32) (u : S) (t : State) (H1 : Heap) (locs1 : List Loc), t.heap = H1 → s.vm.Alike t.vm → post r u → B u t → H.size ≤ H1.size → (∀ q : Nat, q < H.size → ¬ A1 q → H1[q]? = H[q]?) → va_S A0 H0 H1 locs1 → W p l e R s m args below meth c H1 locs1 (cells + mc) (slots + ms) Q (F0 m (pc + 3) ls (.float r :: rest))) : W p l e R s m args below meth c H locs cells slots Q (F0 m pc ls st0) := by
  intro T hT X
  rcases hr T hT X with ⟨v, st₀, t, T', L, h0, X', hL, e1, e2, ⟨⟨r, u, hv, hp, hb⟩, hF⟩, st⟩ | ⟨q, st₀, t, T', L, E, ce, h0, X', hL, e1, e2, ⟨u, hp, hb, hF⟩, hce, hcv, hcl, st⟩
  · cases hv
    obtain ⟨k1, k2, k3⟩ := vx_keep h0 e1 hS hA hf hL hF
    obtain ⟨t2, a1, b1⟩ := kk r u t T'.heap (locs ++ L) e1.symm (by rw [← e2]; exact X'.warmed.alike) hp hb k1 k2 k3 T' rfl X'
    exact ⟨t2, st t2 a1, b1⟩
  · obtain ⟨k1, k2, k3⟩ := vx_keep h0 e1 hS hAX hf hL hF
    obtain ⟨t2, a1, b1⟩ := kx E ce q u t T'.heap (locs ++ L) e1.symm (by rw [← e2]; exact X'.warmed.alike) hp hb k1 k2 k3 (by rw [e1]; exact hce) hcv hcl T' rfl X'
    exact ⟨t2, st.trans a1, b1⟩
theorem vx_calld {S SX : Type} {post : UInt64 → S → Prop} {px : SX → Prop} {B : S → State → Prop} {BX : String → SX → State → Prop} {AX : Nat → Prop} (hr : vx_Run p l e R s m args below meth c H locs cells slots mc ms (F0 m pc ls st0) rest (va_Qd post B A1 a) (vx_X px BX AX) free) (hS : va_S A0 H0 H locs) (hA : ∀ q, q < H.size → A1 q → A0 q) (hf : ∀ q, free q → A0 q) (hAX : ∀ q, q < H.size → AX q → A0 q)
    (kx : ∀ (E : String) (ce : Cell) (q9 : Addr) (u : SX) (t : State) (H1 : Heap) (locs1 : List Loc), t.heap = H1 → s.vm.Alike t.vm → px u → BX E u t → H.size ≤ H1.size → (∀ q : Nat, q < H.size → ¬ AX q → H1[q]? = H[q]?) → va_S A0 H0 H1 locs1 → H1[q9]? = some ce → ce.vm = .none → s.vm.findClass E = some ce.cls → vx_W p l e R s m args below meth c H1 locs1 (cells + mc) (slots + ms) Q (F0 m pc ls rest) q9)
    (kk : ∀ (r : UInt64) (u : S) (t : State) (H1 : Heap) (locs1 : List Loc), t.heap = H1 → s.vm.Alike t.vm → post r u → B u t → H.size ≤ H1.size → (∀ q : Nat, q < H.size → ¬ A1 q → H1[q]? = H[q]?) → va_S A0 H0 H1 locs1 → W p l e R s m args below meth c H1 locs1 (cells + mc) (slots + ms) Q (F0 m (pc + 3) ls (.double r :: rest))) : W p l e R s m args below meth c H locs cells slots Q (F0 m pc ls st0) := by
  intro T hT X
  rcases hr T hT X with ⟨v, st₀, t, T', L, h0, X', hL, e1, e2, ⟨⟨r, u, hv, hp, hb⟩, hF⟩, st⟩ | ⟨q, st₀, t, T', L, E, ce, h0, X', hL, e1, e2, ⟨u, hp, hb, hF⟩, hce, hcv, hcl, st⟩
  · cases hv
    obtain ⟨k1, k2, k3⟩ := vx_keep h0 e1 hS hA hf hL hF
    obtain ⟨t2, a1, b1⟩ := kk r u t T'.heap (locs ++ L) e1.symm (by rw [← e2]; exact X'.warmed.alike) hp hb k1 k2 k3 T' rfl X'
    exact ⟨t2, st t2 a1, b1⟩
  · obtain ⟨k1, k2, k3⟩ := vx_keep h0 e1 hS hAX hf hL hF
    obtain ⟨t2, a1, b1⟩ := kx E ce q u t T'.heap (locs ++ L) e1.symm (by rw [← e2]; exact X'.warmed.alike) hp hb k1 k2 k3 (by rw [e1]; exact hce) hcv hcl T' rfl X'
    exact ⟨t2, st.trans a1, b1⟩
theorem vx_callv {S SX : Type} {post : S → Prop} {px : SX → Prop} {B : S → State → Prop} {BX : String → SX → State → Prop} {AX : Nat → Prop} (hr : vx_Run p l e R s m args below meth c H locs cells slots mc ms (F0 m pc ls st0) rest (va_Qv post B A1 a) (vx_X px BX AX) free) (hS : va_S A0 H0 H locs) (hA : ∀ q, q < H.size → A1 q → A0 q) (hf : ∀ q, free q → A0 q) (hAX : ∀ q, q < H.size → AX q → A0 q)
    (kx : ∀ (E : String) (ce : Cell) (q9 : Addr) (u : SX) (t : State) (H1 : Heap) (locs1 : List Loc), t.heap = H1 → s.vm.Alike t.vm → px u → BX E u t → H.size ≤ H1.size → (∀ q : Nat, q < H.size → ¬ AX q → H1[q]? = H[q]?) → va_S A0 H0 H1 locs1 → H1[q9]? = some ce → ce.vm = .none → s.vm.findClass E = some ce.cls → vx_W p l e R s m args below meth c H1 locs1 (cells + mc) (slots + ms) Q (F0 m pc ls rest) q9)
    (kk : ∀ (u : S) (t : State) (H1 : Heap) (locs1 : List Loc), t.heap = H1 → s.vm.Alike t.vm → post u → B u t → H.size ≤ H1.size → (∀ q : Nat, q < H.size → ¬ A1 q → H1[q]? = H[q]?) → va_S A0 H0 H1 locs1 → W p l e R s m args below meth c H1 locs1 (cells + mc) (slots + ms) Q (F0 m (pc + 3) ls (rest))) : W p l e R s m args below meth c H locs cells slots Q (F0 m pc ls st0) := by
  intro T hT X
  rcases hr T hT X with ⟨v, st₀, t, T', L, h0, X', hL, e1, e2, ⟨⟨u, hv, hp, hb⟩, hF⟩, st⟩ | ⟨q, st₀, t, T', L, E, ce, h0, X', hL, e1, e2, ⟨u, hp, hb, hF⟩, hce, hcv, hcl, st⟩
  · cases hv
    obtain ⟨k1, k2, k3⟩ := vx_keep h0 e1 hS hA hf hL hF
    obtain ⟨t2, a1, b1⟩ := kk u t T'.heap (locs ++ L) e1.symm (by rw [← e2]; exact X'.warmed.alike) hp hb k1 k2 k3 T' rfl X'
    exact ⟨t2, st t2 a1, b1⟩
  · obtain ⟨k1, k2, k3⟩ := vx_keep h0 e1 hS hAX hf hL hF
    obtain ⟨t2, a1, b1⟩ := kx E ce q u t T'.heap (locs ++ L) e1.symm (by rw [← e2]; exact X'.warmed.alike) hp hb k1 k2 k3 (by rw [e1]; exact hce) hcv hcl T' rfl X'
    exact ⟨t2, st.trans a1, b1⟩
/-- caught by the row x of this method's table; the rows ahead don't take it -/
theorem vx_catch {own name : String} {E : String} {ce : Cell} {q : Addr} (hown : s.vm.findClass own = some m.cls) (pre : List ExceptionTableEntry) (x : ExceptionTableEntry) (suf : List ExceptionTableEntry) (hsplit : c.exceptionTable.toList = pre ++ x :: suf)
    (hpass : ∀ z ∈ pre, covers z pc = false ∨ (z.catchType ≠ 0 ∧ ∃ nm : String, (Cond.classLink own z.catchType nm).before args s = true ∧ va_Nc E nm s)) (hx : covers x pc = true) (h0 : x.catchType ≠ 0)
    (hlink : (Cond.classLink own x.catchType name).before args s = true) (hcast : (Cond.castable E name).before args s = true) (hcell : H[q]? = some ce) (hv : ce.vm = .none) (hcl : s.vm.findClass E = some ce.cls)
    (kk : W p l e R s m args below meth c H locs cells slots Q (F0 m x.handlerPc ls [.ref q])) : vx_W p l e R s m args below meth c H locs cells slots Q (F0 m pc ls rest) q := by
  intro T hT X
  have hpl : e.platform.magicAccessors = ({} : Platform).magicAccessors := by rw [X.admits.platform]
  obtain ⟨c3, c4, hc3, hc4, hasg⟩ := Cond.castable_spec hcast
  cases Option.some.inj (hc3.symm.trans hcl)
  obtain ⟨c5, hc5, hcl5⟩ := Cond.classLink_spec hown hlink e.platform hpl
  cases Option.some.inj (hc4.symm.trans hc5)
  obtain ⟨vm', X', st⟩ := X.thenCaughtThrough q (g := F0 m pc ls rest) rfl (Steps.refl _) (by rw [hT]; exact hcell) (by rw [hv]; rfl) (by obtain ⟨k9, h9, -⟩ := Vm.findClass_spec hcl; exact ⟨k9, h9⟩) pre x suf hsplit
    (fun z hz => by
      rcases hpass z hz with h | ⟨hz0, nm, hl1, hn1⟩
      · exact Or.inl h
      · obtain ⟨c6, hc6, hcl6⟩ := Cond.classLink_spec hown hl1 e.platform hpl
        obtain ⟨a8, b8, h1, h2, h3⟩ := hn1
        cases Option.some.inj (h1.symm.trans hcl)
        cases Option.some.inj (h2.symm.trans hc6)
        exact Or.inr ⟨hz0, _, hcl6, h3⟩) hx (Or.inr ⟨h0, c4, hcl5, hasg⟩)
  obtain ⟨t, a1, b1⟩ := kk (T.setVm vm') hT X'
  exact ⟨t, st.trans a1, b1⟩
end Rows
section Ends
variable {p : Program} {l : Launch} {e : Env} {R : Room} {s : State} {m : MethodId} {args : Array Value} {below : List Frame} {meth : Method} {c : Code} {H : Heap} {locs : List Loc} {cells slots : Nat} {Q : State → Prop}
variable {mc ms : Nat} {free : Addr → Prop} {A0 A1 : Nat → Prop} {H0 : Heap} {a : Array Value} {ls : Array Slot} {st0 rest : List Value}
variable {Qc : Array Value → State → Outcome → State → Prop} {XC : String → State → State → Prop}
/-- what a body that may throw owes at its end -/
def vx_MQ (below : List Frame) (Qc : Array Value → State → Outcome → State → Prop) (XC : String → State → State → Prop) (a : Array Value) (s : State) (mc ms : Nat) (free : Addr → Prop) : State → Prop := fun t =>
  ∃ o, t.status = .running ∧ Ended t below o ∧ vx_Q Qc XC mc ms free a s o t
theorem vx_ret {g : JFrame} {mc ms : Nat} (k : W p l e R s m args below meth c H locs cells slots (MQ below Qc args s mc ms free) g) : W p l e R s m args below meth c H locs cells slots (vx_MQ below Qc XC args s mc ms free) g := by
  intro T hT X
  obtain ⟨t, a1, o, b1, b2, b3, b4⟩ := k T hT X
  exact ⟨t, a1, o, b1, b2, Or.inl ⟨b3, b4⟩⟩
/-- not caught here: it goes on to the caller -/
theorem vx_widen {g : JFrame} {q : Addr} {k n : Nat} (h1 : cells ≤ k) (h2 : slots ≤ n) (kk : vx_W p l e R s m args below meth c H locs k n Q g q) : vx_W p l e R s m args below meth c H locs cells slots Q g q := fun T hT X => kk T hT (stand_widen X h1 h2)
theorem vx_out {pc : Nat} {E : String} {ce : Cell} {q : Addr} {mc ms : Nat} (hout : ∀ x ∈ c.exceptionTable.toList, covers x pc = false) (hlocks : meth.locks = false) (hcell : H[q]? = some ce) (hv : ce.vm = .none) (hcl : s.vm.findClass E = some ce.cls)
    (hx : ∀ t : State, t.heap = H → s.vm.Alike t.vm → XC E s t) (hf : ∀ z ∈ locs, free z.base) (hc : cells ≤ mc) (hs : slots ≤ ms) :
    vx_W p l e R s m args below meth c H locs cells slots (vx_MQ below Qc XC args s mc ms free) (F0 m pc ls rest) q := by
  intro T hT X
  obtain ⟨st1, hrun, hend, hW, hsm⟩ := X.leaveThrown q (g := F0 m pc ls rest) rfl rfl rfl hout hlocks
  have hcell9 : (T.setFrames (.throwing q :: below)).heap[q]? = some ce := by
    show T.heap[q]? = some ce
    rw [hT]; exact hcell
  exact ⟨_, st1, .threw q, hrun, hend, Or.inr ⟨q, rfl, E, ce, locs, hx _ hT hW.alike, hcell9, hv, hcl, hW, hsm.mono hc hs, hf⟩⟩
theorem vx_frame {U : State} {k n : Nat} (h : s.sameButNew ({ U with vm := s.vm } : State) locs k n) : s.heap.size ≤ U.heap.size ∧ ∀ q : Nat, q < s.heap.size → (∀ z ∈ locs, z.base ≠ q) → U.heap[q]? = s.heap[q]? := by
  obtain ⟨-, h2, -, -, -, h6⟩ := h
  refine ⟨h2, fun q hq hz => ?_⟩
  obtain ⟨c9, e1, e2, e3, e4⟩ := h6 q _ (Array.getElem?_eq_getElem hq)
  have hs : c9.slots = (s.heap[q]).slots := Array.ext_getElem? fun i => e4 i fun hm => hz _ hm rfl
  have h9 : c9 = s.heap[q] := by
    rw [hs] at e2
    exact e2
  have e5 : U.heap[q]? = some c9 := e1
  rw [e5, h9, Array.getElem?_eq_getElem hq]
/-- the words of a throw but the four that speak of the heap -/
def vx_no (w : Cond) : Bool := decide (w ≠ .isRef (.static Bundle.tN "UNASSIGNED_STACK" Bundle.steD)) && decide (w ≠ .isRef (.static Bundle.tN "SUPPRESSED_SENTINEL" Bundle.listD)) && decide (w ≠ .laysStatic Bundle.tN "UNASSIGNED_STACK" Bundle.steD) && decide (w ≠ .laysStatic Bundle.tN "SUPPRESSED_SENTINEL" Bundle.listD)
def vx_at0 (own : String) (ic : Nat) (X : String) (names : List String) : List Cond := (Bundle.ownAtoms0 own ic X names).filter vx_no
def vx_atS (own : String) (ic : Nat) (X : String) (names : List String) : List Cond := (Bundle.ownAtoms own ic X names).filter vx_no
/-- a word that the tables alone decide, or a good one -/
def vx_ot (w : Cond) : Bool := w.onTables || goodWord w
theorem vx_ot_at {args a' : Array Value} {s U : State} {w : Cond} (hW : s.WarmedH U.vm) (hvm : s.vm = U.vm) (hg : vx_ot w = true) (h : w.before args s = true) : w.before a' U = true := by
  simp only [vx_ot, Bool.or_eq_true] at hg
  rcases hg with hg | hg
  · exact va_tabs hg hvm h
  · exact word_at hW (good_of_word hg) h
/-- a list's words: the good ones out of the method's own list, the others by premises of their own -/
theorem vx_hat {args : Array Value} {s : State} {L B : List Cond} (h1 : ∀ w ∈ L.filter goodWord, w.before args s = true) (h2 : ∀ w ∈ L.filter (fun w => !goodWord w), w ∈ B) (h3 : ∀ w ∈ B, w.before args s = true) : ∀ w ∈ L, w.before args s = true := by
  intro w hw
  by_cases g : goodWord w = true
  · exact h1 w (List.mem_filter.mpr ⟨hw, g⟩)
  · refine h3 w (h2 w (List.mem_filter.mpr ⟨hw, ?_⟩))
    show (!goodWord w) = true
    cases hgw : goodWord w
    · rfl
    · exact absurd hgw g
theorem vx_c {args : Array Value} {s : State} {w : Cond} {B : List Cond} (h : w.before args s = true) (t : ∀ w ∈ B, w.before args s = true) : ∀ w' ∈ w :: B, w'.before args s = true := fun w' h' => (List.mem_cons.mp h').elim (fun e => by rw [e]; exact h) (t w')
theorem vx_n {args : Array Value} {s : State} : ∀ w ∈ ([] : List Cond), w.before args s = true := fun _ h => nomatch h
theorem vx_own {args : Array Value} {s : State} {L : List Cond} (h1 : ∀ w ∈ L.filter vx_no, w.before args s = true)
    (hU : (Cond.isRef (.static Bundle.tN "UNASSIGNED_STACK" Bundle.steD)).before args s = true) (hN : (Cond.isRef (.static Bundle.tN "SUPPRESSED_SENTINEL" Bundle.listD)).before args s = true)
    (lU : (Cond.laysStatic Bundle.tN "UNASSIGNED_STACK" Bundle.steD).before args s = true) (lN : (Cond.laysStatic Bundle.tN "SUPPRESSED_SENTINEL" Bundle.listD).before args s = true) : ∀ w ∈ L, w.before args s = true := by
  intro w hw
  by_cases e1 : w = .isRef (.static Bundle.tN "UNASSIGNED_STACK" Bundle.steD)
  · rw [e1]; exact hU
  · by_cases e2 : w = .isRef (.static Bundle.tN "SUPPRESSED_SENTINEL" Bundle.listD)
    · rw [e2]; exact hN
    · by_cases e3 : w = .laysStatic Bundle.tN "UNASSIGNED_STACK" Bundle.steD
      · rw [e3]; exact lU
      · by_cases e4 : w = .laysStatic Bundle.tN "SUPPRESSED_SENTINEL" Bundle.listD
        · rw [e4]; exact lN
        · exact h1 w (List.mem_filter.mpr ⟨hw, by unfold vx_no; rw [decide_eq_true e1, decide_eq_true e2, decide_eq_true e3, decide_eq_true e4]; rfl⟩)
/-- where a static field lies, its class's statics cell in H -/
def vx_L (C n d : String) (A : Nat → Prop) (U : State) (H : Heap) : Prop := ∃ (c : ClassId) (k : Class) (i : Nat) (f : Field) (a : Nat) (cell : Cell), U.vm.findClass C = some c ∧ U.fieldFound? C n d = some (c, k, i, f) ∧ f.isStatic = true ∧ k.statics = some a ∧ H[a]? = some cell ∧ cell.vm.isStatics = true ∧ cell.cls = c ∧ f.slot < cell.slots.size ∧ k.staticTypes[f.slot]? = some f.type ∧ ¬ A a
theorem vx_L.moved {C n d : String} {A : Nat → Prop} {u U : State} {H : Heap} (hvm : u.vm.Alike U.vm) (h : vx_L C n d A u H) : vx_L C n d A U H := by
  obtain ⟨c, k, i, f, a, cell, h1, h2, h3, h4, h5, h6, h7, h8, h9, h10⟩ := h
  obtain ⟨k', hi', he⟩ := State.fieldFound?_setVm hvm h2
  exact ⟨c, k', i, f, a, cell, by rw [hvm.findClass]; exact h1, hi', h3, by rw [he]; exact h4, h5, h6, h7, h8, by rw [he]; exact h9, h10⟩
theorem vx_L.kept {C n d : String} {A : Nat → Prop} {U : State} {H H1 : Heap} (h : vx_L C n d A U H) (hq : ∀ a : Nat, a < H.size → ¬ A a → H1[a]? = H[a]?) : vx_L C n d A U H1 := by
  obtain ⟨c, k, i, f, a, cell, h1, h2, h3, h4, h5, h6, h7, h8, h9, h10⟩ := h
  exact ⟨c, k, i, f, a, cell, h1, h2, h3, h4, by rw [hq a (Array.getElem?_eq_some_iff.mp h5).1 h10]; exact h5, h6, h7, h8, h9, h10⟩
theorem vx_L.narrow {C n d : String} {A B : Nat → Prop} {U : State} {H : Heap} (h : vx_L C n d A U H) (hAB : ∀ q, B q → A q) : vx_L C n d B U H := by
  obtain ⟨c, k, i, f, a, cell, h1, h2, h3, h4, h5, h6, h7, h8, h9, h10⟩ := h
  exact ⟨c, k, i, f, a, cell, h1, h2, h3, h4, h5, h6, h7, h8, h9, fun z => h10 (hAB _ z)⟩
theorem vx_L.word {C n d : String} {A : Nat → Prop} {s : State} {args : Array Value} (h : vx_L C n d A s s.heap) : (Cond.laysStatic C n d).before args s = true := by
  obtain ⟨c, k, i, f, a, cell, h1, h2, h3, h4, h5, h6, h7, h8, h9, -⟩ := h
  show (Cond.laysStatic C n d).holds args s none s [] = true
  exact Cond.laysStatic_of h1 h2 h3 h4 h5 h6 h7 h8 h9
/-- .. and what it holds: null or some reference -/
def vx_Zq (C n d : String) (A : Nat → Prop) (U : State) (H : Heap) : Prop := va_Zq C n d A U H ∧ vx_L C n d A U H
theorem vx_Zq.moved {C n d : String} {A : Nat → Prop} {u U : State} {H : Heap} (hvm : u.vm.Alike U.vm) (h : vx_Zq C n d A u H) : vx_Zq C n d A U H := ⟨va_Zq.moved hvm h.1, vx_L.moved hvm h.2⟩
theorem vx_Zq.kept {C n d : String} {A : Nat → Prop} {U : State} {H H1 : Heap} (h : vx_Zq C n d A U H) (hq : ∀ a : Nat, a < H.size → ¬ A a → H1[a]? = H[a]?) : vx_Zq C n d A U H1 := ⟨va_Zq.kept h.1 hq, vx_L.kept h.2 hq⟩
theorem vx_Zq.narrow {C n d : String} {A B : Nat → Prop} {U : State} {H : Heap} (h : vx_Zq C n d A U H) (hAB : ∀ q, B q → A q) : vx_Zq C n d B U H := ⟨va_Zq.narrow h.1 hAB, vx_L.narrow h.2 hAB⟩
theorem vx_Zqof {args : Array Value} {s : State} {C n d : String} {A : Nat → Prop} (hl : (Cond.laysStatic C n d).before args s = true) (hini : (Cond.initialized C).before args s = true) (h : (Cond.isRef (.static C n d)).before args s = true) (hA : ∀ a : Nat, a < s.heap.size → ¬ A a) : vx_Zq C n d A s s.heap := by
  refine ⟨va_Zqof hl hini h hA, ?_⟩
  obtain ⟨c, k, i, f, a, cell, h1, h2, h3, h4, h5, h6, h7, h8, h9⟩ := Cond.laysStatic_spec hl
  exact ⟨c, k, i, f, a, cell, h1, h2, h3, h4, h5, h6, h7, h8, h9, hA a (Array.getElem?_eq_some_iff.mp h5).1⟩
theorem vx_isRef {C n d : String} {v : Value} {A : Nat → Prop} {s : State} {args : Array Value} (h : va_Z C n d v A s s.heap) (hv : v.isRef = true) : (Cond.isRef (.static C n d)).before args s = true := by
  obtain ⟨cf, kf, fi, f, a, cell, h1, h2, h3, h4, h5, h6, h7, -⟩ := h
  have he : (Term.static C n d).eval args s none [] s = some v := by
    simp [Term.eval, State.fieldNamed?, h1, h2, h4, h5, h6, h7]
  simp only [Cond.before, Cond.holds, Cond.value, he]
  cases v <;> simp_all [Value.isRef]
theorem vx_isRefq {C n d : String} {A : Nat → Prop} {s : State} {args : Array Value} (h : va_Zq C n d A s s.heap) : (Cond.isRef (.static C n d)).before args s = true := by
  rcases h with h | ⟨t, h⟩
  · exact vx_isRef h rfl
  · exact vx_isRef h rfl
/-- the same frame, seen from here: as if the method were called anew in this heap -/
theorem vx_rebase {T : State} (X : Stand p l e R s m args below meth c T locs cells slots) {R' : Room} (hf : R'.frames ≤ R.frames) (hl : R'.locals ≤ R.locals) (hc : cells + R'.cells ≤ R.cells) (hs : slots + R'.slots ≤ R.slots) :
    Stand p l e R' ((T.setVm s.vm).setFrames (.invoking m args :: below)) m args below meth c T [] 0 0 := by
  have htop : (T.setVm s.vm).topJava?.isSome := X.here.top
  have hF : ((T.setVm s.vm).setFrames (.invoking m args :: below)).frames = .invoking m args :: below := State.frames_setFrames _ (State.cur_lt_of_top htop)
  obtain ⟨g₀, hg0⟩ := Option.isSome_iff_exists.mp htop
  obtain ⟨r, hr⟩ := State.topJava?_eq_some.mp hg0
  have hl9 : e.platform.stackLimits (T.setVm s.vm).me = e.platform.stackLimits s.me := X.limits
  have hb9 : (T.setVm s.vm).me.stackBytes = s.me.stackBytes := X.bytes
  refine ⟨X.admits, X.cas, X.clock, hF, ?_, X.hears, X.method, X.code, X.here, X.tail, X.warmed, ?_, ?_, ?_⟩
  · have h := X.room
    have hU : ((T.setVm s.vm).setFrames (.invoking m args :: below)).localsInUse = s.localsInUse := by
      rw [State.localsInUse_invoking hF (meth := meth) (c := c) X.method X.code, State.localsInUse_invoking X.frames X.method X.code]
    simp only [State.hasRoom, Bool.and_eq_true, decide_eq_true_eq] at h ⊢
    obtain ⟨⟨⟨⟨h1, h2, h3, h4, h5, h6⟩, h7⟩, h8⟩, h9⟩ := h
    rw [X.frames, List.length_cons] at h2 h3
    have q1 := X.heapSize
    have q2 := X.used
    simp only [hF, hU, List.length_cons, State.stackLimits_setFrames, State.stackBytes_setFrames, hl9, hb9]
    refine ⟨⟨⟨⟨by omega, by omega, by omega, by omega, by omega, h6⟩, ?_⟩, ?_⟩, X.book⟩
    · show T.heap.size + R'.cells ≤ e.platform.maxCells
      omega
    · show T.slotsUsed + R'.slots ≤ e.platform.maxSlots
      omega
  · rw [State.stackLimits_setFrames]; rfl
  · rw [State.stackBytes_setFrames]; rfl
  · refine ⟨?_, Nat.le_refl _, Nat.le_refl _, ?_, ?_, fun a c9 h9 => ⟨c9, h9, rfl, rfl, fun _ _ => rfl⟩⟩
    · obtain ⟨t, ht, -⟩ := State.frames_cons hr
      show T.setVm s.vm = { ((T.setVm s.vm).setFrames (.invoking m args :: below)).setFrames (T.setVm s.vm).frames with heap := T.heap, slotsUsed := T.slotsUsed }
      rw [State.setFrames_setFrames, State.setFrames_self ht]
      rfl
    · show T.slotsUsed = T.slotsUsed + ((T.heap.toList.drop T.heap.size).map (·.slots.size)).sum
      rw [List.drop_eq_nil_of_le (Nat.le_of_eq Array.length_toList)]
      rfl
    · show ((T.heap.toList.drop T.heap.size).map (·.slots.size)).sum ≤ 0
      rw [List.drop_eq_nil_of_le (Nat.le_of_eq Array.length_toList)]
      exact Nat.le_refl _
/-- 'throw new E()': new; dup; invokespecial; athrow -/
theorem vx_throw0 {cc : ByteArray} {pc : Nat} (hexec : p.tables.exec = Jvm.exec) (hb : c.code = cc) (hl : l.stackTraces = false) {own cls : String} {names : List String} {ik ic mc ms : Nat} {A : Nat → Prop}
    (hown : s.vm.findClass own = some m.cls) (hcls : Bundle.fit cls = true) (hnames : ∀ n ∈ names, Bundle.fit n = true)
    (hk : (Cond.classLink own ik cls).before args s = true) (hini : (Cond.initialized cls).before args s = true) (hat : ∀ w ∈ vx_at0 own ic cls names, w.before args s = true)
    (hgood : ∀ w ∈ Cond.classLink own ik cls :: Cond.initialized cls :: vx_at0 own ic cls names, vx_ot w = true)
    (hU : vx_Zq Bundle.tN "UNASSIGNED_STACK" Bundle.steD A s s.heap) (hN : vx_Zq Bundle.tN "SUPPRESSED_SENTINEL" Bundle.listD A s s.heap) (hS : va_S A s.heap H locs) (hsize : ls.size = c.maxLocals)
    (d0 : decode cc pc = .ok (.new ik, 3)) (d3 : decode cc (pc + 3) = .ok (.dup, 1)) (d4 : decode cc (pc + 4) = .ok (.invokespecial ic, 3)) (d7 : decode cc (pc + 7) = .ok (.athrow, 1))
    (hout : ∀ x ∈ c.exceptionTable.toList, covers x (pc + 7) = false)
    (hRframes : names.length + 3 < R.frames) (hRlocals : (rest.map fun v => v.category).sum + (13 * (names.length + 1) + 42) ≤ R.locals) (hRcells : cells + 1 ≤ R.cells) (hRslots : slots + 6 ≤ R.slots) (hlocks : meth.locks = false)
    (hx : ∀ t : State, s.vm.Alike t.vm → H.size ≤ t.heap.size → (∀ q : Nat, q < H.size → t.heap[q]? = H[q]?) → XC cls s t)
    (hf : ∀ z ∈ locs, free z.base) (hc : cells + 1 ≤ mc) (hs : slots + 6 ≤ ms) :
    W p l e R s m args below meth c H locs cells slots (vx_MQ below Qc XC args s mc ms free) (F0 m pc ls rest) := by
  intro T hT X
  have htr : e.platform.stackTraces = false := (show e.platform.stackTraces = l.stackTraces by rw [X.admits.platform]).trans hl
  have Y := vx_rebase X (R' := { frames := R.frames, locals := R.locals, cells := 1, slots := 6 }) (Nat.le_refl _) (Nat.le_refl _) hRcells hRslots
  obtain ⟨s', hA⟩ : ∃ z, z = (T.setVm s.vm).setFrames (.invoking m args :: below) := ⟨_, rfl⟩
  rw [← hA] at Y
  have hvm : s'.vm = s.vm := by rw [hA]; rfl
  have hhp : s'.heap = H := by rw [hA]; exact hT
  have hW0 : s.WarmedH s'.vm := by rw [hvm]; exact State.WarmedH.refl s
  have hat' : ∀ w ∈ vx_at0 own ic cls names, w.before args s' = true := fun w hw => vx_ot_at hW0 hvm.symm (hgood w (List.mem_cons_of_mem _ (List.mem_cons_of_mem _ hw))) (hat w hw)
  have hk' : (Cond.classLink own ik cls).before args s' = true := vx_ot_at hW0 hvm.symm (hgood _ List.mem_cons_self) hk
  have hini' : (Cond.initialized cls).before args s' = true := vx_ot_at hW0 hvm.symm (hgood _ (List.mem_cons_of_mem _ List.mem_cons_self)) hini
  have hU' : vx_Zq Bundle.tN "UNASSIGNED_STACK" Bundle.steD A s' s'.heap := by rw [hhp]; exact vx_Zq.moved hW0.alike (hU.kept hS.2.1)
  have hN' : vx_Zq Bundle.tN "SUPPRESSED_SENTINEL" Bundle.listD A s' s'.heap := by rw [hhp]; exact vx_Zq.moved hW0.alike (hN.kept hS.2.1)
  have h : ∀ w ∈ Bundle.ownAtoms0 own ic cls names, w.before args s' = true := vx_own hat' (vx_isRefq hU'.1) (vx_isRefq hN'.1) hU'.2.word hN'.2.word
  have hown' : s'.vm.findClass own = some m.cls := by rw [hvm]; exact hown
  have hins : (Cond.instantiable cls 6).before args s' = true := h _ (by simp [Bundle.ownAtoms0])
  obtain ⟨vm₁, cX, kX, hfX, hkX, -, -, X₁, st1⟩ := Y.newCold hexec (own := own) (C := cls) (index := ik) (n := 6) hown' hk' hins hini'
    (g := F0 m pc ls rest) rfl (by rw [hb]; exact d0) (Nat.le_refl _) (Nat.le_refl _)
  generalize hT1 : (T.setVm vm₁).pushCell { cls := cX, slots := kX.instanceTypes.map defaultValue, vm := .none } = T1 at X₁ st1
  have hcat : (Value.ref T.heap.size).category = 1 := rfl
  have hcellA : T1.heap[T.heap.size]? = some (freshCell cX kX) := by rw [← hT1]; exact State.heap_pushCell_size _ _
  have d3' : decode c.code (pc + 3) = .ok (.dup, 1) := by rw [hb]; exact d3
  obtain ⟨U, hsteps, hrun, hend, hW, hsame, ce, hce, hO⟩ := X₁.ctorThrow0 hexec htr (own := own) (cls := cls) (names := names) (ic := ic) hown' hcls hnames h (fun x hx => nomatch hx) hfX hkX hcellA (by rw [hhp, hT]; exact Nat.le_refl _)
    (g := { method := m, pc := pc + 4, locals := ls, stack := .ref T.heap.size :: .ref T.heap.size :: rest, locked := none }) rfl hsize rfl rfl (rest := rest) rfl
    (by rw [hb]; exact d4) (by rw [hb]; exact d7) hout hRframes (by simp only [List.map_cons, List.sum_cons, hcat]; omega) hlocks
  obtain ⟨f1, f2⟩ := vx_frame hsame
  rw [hhp] at f1 f2
  have hWs : s.WarmedH U.vm := State.WarmedH.trans hW0 hW
  have hcl : s.vm.findClass cls = some ce.cls := by
    have h9 := hO.cls
    rw [hvm] at h9
    exact h9
  have hall : s.sameButNew ({ U with vm := s.vm } : State) locs mc ms := by
    subst hA
    obtain ⟨e1, e2⟩ := hsame
    rw [State.setFrames_setFrames] at e1
    have h2 : (T.setVm s.vm).sameButNew ({ U with vm := s.vm } : State) [] (0 + 1) (0 + 6) := ⟨e1, e2⟩
    have h3 := X.same.trans h2
    rw [List.append_nil] at h3
    exact h3.mono hc hs
  refine ⟨U, ?_, .threw T.heap.size, hrun, hend, Or.inr ⟨T.heap.size, rfl, cls, ce, locs, hx U hWs.alike f1 (fun q hq => f2 q hq (fun z hz => nomatch hz)), hce, hO.vm, hcl, hWs, hall, hf⟩⟩
  refine st1 _ ?_
  show Steps p.tables e below (T1.setTop { method := m, pc := pc + 3, locals := ls, stack := .ref T.heap.size :: rest, locked := none }) _
  jvm_step X₁.here [X₁.here.top, hexec, d3', Value.category]
  exact hsteps
/-- 'throw new E("text")': new; dup; ldc; invokespecial; athrow -/
theorem vx_throwS {cc : ByteArray} {pc : Nat} (hexec : p.tables.exec = Jvm.exec) (hb : c.code = cc) (hl : l.stackTraces = false) {own cls text : String} {names : List String} {ik is ic mc ms sa : Nat} {A : Nat → Prop}
    (hown : s.vm.findClass own = some m.cls) (hcls : Bundle.fit cls = true) (hnames : ∀ n ∈ names, Bundle.fit n = true)
    (hk : (Cond.classLink own ik cls).before args s = true) (hini : (Cond.initialized cls).before args s = true) (hstr : vk_R own is text sa s) (hat : ∀ w ∈ vx_atS own ic cls names, w.before args s = true)
    (hgood : ∀ w ∈ Cond.classLink own ik cls :: Cond.initialized cls :: vx_atS own ic cls names, vx_ot w = true)
    (hU : vx_Zq Bundle.tN "UNASSIGNED_STACK" Bundle.steD A s s.heap) (hN : vx_Zq Bundle.tN "SUPPRESSED_SENTINEL" Bundle.listD A s s.heap) (hS : va_S A s.heap H locs) (hsize : ls.size = c.maxLocals)
    (d0 : decode cc pc = .ok (.new ik, 3)) (d3 : decode cc (pc + 3) = .ok (.dup, 1)) (d4 : decode cc (pc + 4) = .ok (.ldc is, 2)) (d6 : decode cc (pc + 6) = .ok (.invokespecial ic, 3)) (d9 : decode cc (pc + 9) = .ok (.athrow, 1))
    (hout : ∀ x ∈ c.exceptionTable.toList, covers x (pc + 9) = false)
    (hRframes : names.length + 3 < R.frames) (hRlocals : (rest.map fun v => v.category).sum + (13 * (names.length + 1) + 43) ≤ R.locals) (hRcells : cells + 1 ≤ R.cells) (hRslots : slots + 6 ≤ R.slots) (hlocks : meth.locks = false)
    (hx : ∀ t : State, s.vm.Alike t.vm → H.size ≤ t.heap.size → (∀ q : Nat, q < H.size → t.heap[q]? = H[q]?) → XC cls s t)
    (hf : ∀ z ∈ locs, free z.base) (hc : cells + 1 ≤ mc) (hs : slots + 6 ≤ ms) :
    W p l e R s m args below meth c H locs cells slots (vx_MQ below Qc XC args s mc ms free) (F0 m pc ls rest) := by
  intro T hT X
  have htr : e.platform.stackTraces = false := (show e.platform.stackTraces = l.stackTraces by rw [X.admits.platform]).trans hl
  have Y := vx_rebase X (R' := { frames := R.frames, locals := R.locals, cells := 1, slots := 6 }) (Nat.le_refl _) (Nat.le_refl _) hRcells hRslots
  obtain ⟨s', hA⟩ : ∃ z, z = (T.setVm s.vm).setFrames (.invoking m args :: below) := ⟨_, rfl⟩
  rw [← hA] at Y
  have hvm : s'.vm = s.vm := by rw [hA]; rfl
  have hhp : s'.heap = H := by rw [hA]; exact hT
  have hW0 : s.WarmedH s'.vm := by rw [hvm]; exact State.WarmedH.refl s
  have hat' : ∀ w ∈ vx_atS own ic cls names, w.before args s' = true := fun w hw => vx_ot_at hW0 hvm.symm (hgood w (List.mem_cons_of_mem _ (List.mem_cons_of_mem _ hw))) (hat w hw)
  have hk' : (Cond.classLink own ik cls).before args s' = true := vx_ot_at hW0 hvm.symm (hgood _ List.mem_cons_self) hk
  have hini' : (Cond.initialized cls).before args s' = true := vx_ot_at hW0 hvm.symm (hgood _ (List.mem_cons_of_mem _ List.mem_cons_self)) hini
  have hU' : vx_Zq Bundle.tN "UNASSIGNED_STACK" Bundle.steD A s' s'.heap := by rw [hhp]; exact vx_Zq.moved hW0.alike (hU.kept hS.2.1)
  have hN' : vx_Zq Bundle.tN "SUPPRESSED_SENTINEL" Bundle.listD A s' s'.heap := by rw [hhp]; exact vx_Zq.moved hW0.alike (hN.kept hS.2.1)
  have h : ∀ w ∈ Bundle.ownAtoms own ic cls names, w.before args s' = true := vx_own hat' (vx_isRefq hU'.1) (vx_isRefq hN'.1) hU'.2.word hN'.2.word
  have hown' : s'.vm.findClass own = some m.cls := by rw [hvm]; exact hown
  have hins : (Cond.instantiable cls 6).before args s' = true := h _ (by simp [Bundle.ownAtoms])
  obtain ⟨vm₁, cX, kX, hfX, hkX, -, -, X₁, st1⟩ := Y.newCold hexec (own := own) (C := cls) (index := ik) (n := 6) hown' hk' hins hini'
    (g := F0 m pc ls rest) rfl (by rw [hb]; exact d0) (Nat.le_refl _) (Nat.le_refl _)
  generalize hT1 : (T.setVm vm₁).pushCell { cls := cX, slots := kX.instanceTypes.map defaultValue, vm := .none } = T1 at X₁ st1
  have hcat : (Value.ref T.heap.size).category = 1 := rfl
  have hcellA : T1.heap[T.heap.size]? = some (freshCell cX kX) := by rw [← hT1]; exact State.heap_pushCell_size _ _
  have d3' : decode c.code (pc + 3) = .ok (.dup, 1) := by rw [hb]; exact d3
  have d4' : decode c.code (pc + 4) = .ok (.ldc is, 2) := by rw [hb]; exact d4
  have hstr' : vk_R own is text sa s' := vk_R.warm hW0 hstr
  obtain ⟨U, hsteps, hrun, hend, hW, hsame, ce, hce, hO⟩ := X₁.ctorThrowS hexec htr (own := own) (cls := cls) (names := names) (ic := ic) hown' hcls hnames h (fun x hx => nomatch hx) hfX hkX hcellA (by rw [hhp, hT]; exact Nat.le_refl _) (msg := .ref sa) rfl
    (g := { method := m, pc := pc + 6, locals := ls, stack := .ref sa :: .ref T.heap.size :: .ref T.heap.size :: rest, locked := none }) rfl hsize rfl rfl (rest := rest) rfl
    (by rw [hb]; exact d6) (by rw [hb]; exact d9) hout hRframes (by simp only [List.map_cons, List.sum_cons, hcat]; omega) hlocks
  obtain ⟨f1, f2⟩ := vx_frame hsame
  rw [hhp] at f1 f2
  have hWs : s.WarmedH U.vm := State.WarmedH.trans hW0 hW
  have hcl : s.vm.findClass cls = some ce.cls := by
    have h9 := hO.cls
    rw [hvm] at h9
    exact h9
  have hall : s.sameButNew ({ U with vm := s.vm } : State) locs mc ms := by
    subst hA
    obtain ⟨e1, e2⟩ := hsame
    rw [State.setFrames_setFrames] at e1
    have h2 : (T.setVm s.vm).sameButNew ({ U with vm := s.vm } : State) [] (0 + 1) (0 + 6) := ⟨e1, e2⟩
    have h3 := X.same.trans h2
    rw [List.append_nil] at h3
    exact h3.mono hc hs
  refine ⟨U, ?_, .threw T.heap.size, hrun, hend, Or.inr ⟨T.heap.size, rfl, cls, ce, locs, hx U hWs.alike f1 (fun q hq => f2 q hq (fun z hz => nomatch hz)), hce, hO.vm, hcl, hWs, hall, hf⟩⟩
  refine st1 _ ?_
  show Steps p.tables e below (T1.setTop { method := m, pc := pc + 3, locals := ls, stack := .ref T.heap.size :: rest, locked := none }) _
  jvm_step X₁.here [X₁.here.top, hexec, d3', Value.category]
  exact X₁.ldcString hexec (own := own) (text := text) (index := is) (a := sa) hown' hstr'.1 hstr'.2
    (g := { method := m, pc := pc + 4, locals := ls, stack := .ref T.heap.size :: .ref T.heap.size :: rest, locked := none }) rfl d4' _ hsteps
/-- 'throw new E("text")', the text by a wide index -/
theorem vx_throwSW {cc : ByteArray} {pc : Nat} (hexec : p.tables.exec = Jvm.exec) (hb : c.code = cc) (hl : l.stackTraces = false) {own cls text : String} {names : List String} {ik is ic mc ms sa : Nat} {A : Nat → Prop}
    (hown : s.vm.findClass own = some m.cls) (hcls : Bundle.fit cls = true) (hnames : ∀ n ∈ names, Bundle.fit n = true)
    (hk : (Cond.classLink own ik cls).before args s = true) (hini : (Cond.initialized cls).before args s = true) (hstr : vk_R own is text sa s) (hat : ∀ w ∈ vx_atS own ic cls names, w.before args s = true)
    (hgood : ∀ w ∈ Cond.classLink own ik cls :: Cond.initialized cls :: vx_atS own ic cls names, vx_ot w = true)
    (hU : vx_Zq Bundle.tN "UNASSIGNED_STACK" Bundle.steD A s s.heap) (hN : vx_Zq Bundle.tN "SUPPRESSED_SENTINEL" Bundle.listD A s s.heap) (hS : va_S A s.heap H locs) (hsize : ls.size = c.maxLocals)
    (d0 : decode cc pc = .ok (.new ik, 3)) (d3 : decode cc (pc + 3) = .ok (.dup, 1)) (d4 : decode cc (pc + 4) = .ok (.ldc_w is, 3)) (d7 : decode cc (pc + 7) = .ok (.invokespecial ic, 3)) (d10 : decode cc (pc + 10) = .ok (.athrow, 1))
    (hout : ∀ x ∈ c.exceptionTable.toList, covers x (pc + 10) = false)
    (hRframes : names.length + 3 < R.frames) (hRlocals : (rest.map fun v => v.category).sum + (13 * (names.length + 1) + 43) ≤ R.locals) (hRcells : cells + 1 ≤ R.cells) (hRslots : slots + 6 ≤ R.slots) (hlocks : meth.locks = false)
    (hx : ∀ t : State, s.vm.Alike t.vm → H.size ≤ t.heap.size → (∀ q : Nat, q < H.size → t.heap[q]? = H[q]?) → XC cls s t)
    (hf : ∀ z ∈ locs, free z.base) (hc : cells + 1 ≤ mc) (hs : slots + 6 ≤ ms) :
    W p l e R s m args below meth c H locs cells slots (vx_MQ below Qc XC args s mc ms free) (F0 m pc ls rest) := by
  intro T hT X
  have htr : e.platform.stackTraces = false := (show e.platform.stackTraces = l.stackTraces by rw [X.admits.platform]).trans hl
  have Y := vx_rebase X (R' := { frames := R.frames, locals := R.locals, cells := 1, slots := 6 }) (Nat.le_refl _) (Nat.le_refl _) hRcells hRslots
  obtain ⟨s', hA⟩ : ∃ z, z = (T.setVm s.vm).setFrames (.invoking m args :: below) := ⟨_, rfl⟩
  rw [← hA] at Y
  have hvm : s'.vm = s.vm := by rw [hA]; rfl
  have hhp : s'.heap = H := by rw [hA]; exact hT
  have hW0 : s.WarmedH s'.vm := by rw [hvm]; exact State.WarmedH.refl s
  have hat' : ∀ w ∈ vx_atS own ic cls names, w.before args s' = true := fun w hw => vx_ot_at hW0 hvm.symm (hgood w (List.mem_cons_of_mem _ (List.mem_cons_of_mem _ hw))) (hat w hw)
  have hk' : (Cond.classLink own ik cls).before args s' = true := vx_ot_at hW0 hvm.symm (hgood _ List.mem_cons_self) hk
  have hini' : (Cond.initialized cls).before args s' = true := vx_ot_at hW0 hvm.symm (hgood _ (List.mem_cons_of_mem _ List.mem_cons_self)) hini
  have hU' : vx_Zq Bundle.tN "UNASSIGNED_STACK" Bundle.steD A s' s'.heap := by rw [hhp]; exact vx_Zq.moved hW0.alike (hU.kept hS.2.1)
  have hN' : vx_Zq Bundle.tN "SUPPRESSED_SENTINEL" Bundle.listD A s' s'.heap := by rw [hhp]; exact vx_Zq.moved hW0.alike (hN.kept hS.2.1)
  have h : ∀ w ∈ Bundle.ownAtoms own ic cls names, w.before args s' = true := vx_own hat' (vx_isRefq hU'.1) (vx_isRefq hN'.1) hU'.2.word hN'.2.word
  have hown' : s'.vm.findClass own = some m.cls := by rw [hvm]; exact hown
  have hins : (Cond.instantiable cls 6).before args s' = true := h _ (by simp [Bundle.ownAtoms])
  obtain ⟨vm₁, cX, kX, hfX, hkX, -, -, X₁, st1⟩ := Y.newCold hexec (own := own) (C := cls) (index := ik) (n := 6) hown' hk' hins hini'
    (g := F0 m pc ls rest) rfl (by rw [hb]; exact d0) (Nat.le_refl _) (Nat.le_refl _)
  generalize hT1 : (T.setVm vm₁).pushCell { cls := cX, slots := kX.instanceTypes.map defaultValue, vm := .none } = T1 at X₁ st1
  have hcat : (Value.ref T.heap.size).category = 1 := rfl
  have hcellA : T1.heap[T.heap.size]? = some (freshCell cX kX) := by rw [← hT1]; exact State.heap_pushCell_size _ _
  have d3' : decode c.code (pc + 3) = .ok (.dup, 1) := by rw [hb]; exact d3
  have d4' : decode c.code (pc + 4) = .ok (.ldc_w is, 3) := by rw [hb]; exact d4
  have hstr' : vk_R own is text sa s' := vk_R.warm hW0 hstr
  obtain ⟨U, hsteps, hrun, hend, hW, hsame, ce, hce, hO⟩ := X₁.ctorThrowS hexec htr (own := own) (cls := cls) (names := names) (ic := ic) hown' hcls hnames h (fun x hx => nomatch hx) hfX hkX hcellA (by rw [hhp, hT]; exact Nat.le_refl _) (msg := .ref sa) rfl
    (g := { method := m, pc := pc + 7, locals := ls, stack := .ref sa :: .ref T.heap.size :: .ref T.heap.size :: rest, locked := none }) rfl hsize rfl rfl (rest := rest) rfl
    (by rw [hb]; exact d7) (by rw [hb]; exact d10) hout hRframes (by simp only [List.map_cons, List.sum_cons, hcat]; omega) hlocks
  obtain ⟨f1, f2⟩ := vx_frame hsame
  rw [hhp] at f1 f2
  have hWs : s.WarmedH U.vm := State.WarmedH.trans hW0 hW
  have hcl : s.vm.findClass cls = some ce.cls := by
    have h9 := hO.cls
    rw [hvm] at h9
    exact h9
  have hall : s.sameButNew ({ U with vm := s.vm } : State) locs mc ms := by
    subst hA
    obtain ⟨e1, e2⟩ := hsame
    rw [State.setFrames_setFrames] at e1
    have h2 : (T.setVm s.vm).sameButNew ({ U with vm := s.vm } : State) [] (0 + 1) (0 + 6) := ⟨e1, e2⟩
    have h3 := X.same.trans h2
    rw [List.append_nil] at h3
    exact h3.mono hc hs
  refine ⟨U, ?_, .threw T.heap.size, hrun, hend, Or.inr ⟨T.heap.size, rfl, cls, ce, locs, hx U hWs.alike f1 (fun q hq => f2 q hq (fun z hz => nomatch hz)), hce, hO.vm, hcl, hWs, hall, hf⟩⟩
  refine st1 _ ?_
  show Steps p.tables e below (T1.setTop { method := m, pc := pc + 3, locals := ls, stack := .ref T.heap.size :: rest, locked := none }) _
  jvm_step X₁.here [X₁.here.top, hexec, d3', Value.category]
  exact X₁.ldcStringW hexec (own := own) (text := text) (index := is) (a := sa) hown' hstr'.1 hstr'.2
    (g := { method := m, pc := pc + 4, locals := ls, stack := .ref T.heap.size :: .ref T.heap.size :: rest, locked := none }) rfl d4' _ hsteps
end Ends
section Bodies
variable {l : Launch}
theorem vx_ofW {y : MethodName} {ws ws' : List Cond} {rm : Room} {Pc : Array Value → State → Prop} {Qc : Array Value → State → Outcome → State → Prop} {XC : String → State → State → Prop} {mc ms : Nat} {free : Addr → Prop} {cc : ByteArray} {maxL : Nat} {ret : Option FieldType}
    (hy : plainName y.cls = true) (hw : ws = Cond.code y cc maxL ret :: ws')
    (body : ∀ p e s m args below meth c s₁, BodyLoose p l y (headSpec ws rm) cc maxL ret e s m args below meth c s₁ → c.maxLocals = maxL → (∀ x ∈ c.exceptionTable.toList, False) → Pc args s →
      W p l e (headSpec ws rm).room s m args below meth c s.heap [] 0 0 (vx_MQ below Qc XC args s mc ms free) (entryFrame m args maxL)) : vx_Met l y ws rm Pc Qc XC mc ms free := by
  refine MetFree.of_bodyS (code := cc) (maxLocals := maxL) (ret := ret) hy ?_ ?_
  · intro args s m h hn
    obtain ⟨meth, c, h1, h2, h3, h4, h5, h6, -, -⟩ := Cond.code_spec hn (atoms_spec (ws := ws) h _ (by rw [hw]; exact List.mem_cons_self))
    exact ⟨meth, c, h1, h2, h3, h4, h5, h6⟩
  · intro p e s m args below meth c s₁ B hml hP _
    have hh0 : s₁.heap = s.heap := by rw [B.state]; rfl
    have ht : ∀ x ∈ c.exceptionTable.toList, False := by
      obtain ⟨meth9, c9, h1, h2, -, -, -, -, h7, -⟩ := Cond.code_spec B.named (atoms_spec (ws := ws) B.pre _ (by rw [hw]; exact List.mem_cons_self))
      cases Option.some.inj (h1.symm.trans B.method)
      cases Option.some.inj (h2.symm.trans (Stand.of_body B).code)
      intro x hx
      rw [Array.isEmpty_iff.mp h7] at hx
      cases hx
    obtain ⟨t, a1, o, b1, b2, b3⟩ := body p e s m args below meth c s₁ B hml ht hP s₁ hh0 (Stand.of_body B)
    exact ⟨t, o, a1, b1, b2, b3⟩
/-- the table of a body with handlers -/
theorem vx_table {p : Program} {x y : MethodName} {S : Spec} {cc bytes : ByteArray} {maxL maxL' : Nat} {ret ret' : Option FieldType} {e : Env} {s s₁ : State} {m : MethodId} {args : Array Value} {below : List Frame} {meth : Method} {c : Code} {hh : List (Nat × Nat × Nat × Nat)}
    (B : BodyLoose p l y S cc maxL ret e s m args below meth c s₁) (h : (Cond.codeWith y bytes maxL' ret' hh).before args s = true) : c.exceptionTable.toList = tableOf hh := by
  obtain ⟨m9, meth9, c9, hn9, h1, h2, -, -, h6, -⟩ := Cond.codeWith_spec h
  cases Option.some.inj (hn9.symm.trans B.named)
  cases Option.some.inj (h1.symm.trans B.method)
  cases Option.some.inj (h2.symm.trans (Stand.of_body B).code)
  rw [← h6, table_eq]
end Bodies
end VXA
/-! ===== END ===== -/
/-! ===== BEGIN a static call of a method with an exception table ===== -/
section VXS
variable {p : Program} {l : Launch} {e : Env} {R : Room} {s : State} {m : MethodId} {args : Array Value} {below : List Frame} {meth : Method} {c : Code} {T : State} {H : Heap} {locs : List Loc} {cells slots : Nat}
abbrev vx_CSW (R : Room) (s : State) (args : Array Value) (own : String) (index : Nat) (y : MethodName) (bytes : ByteArray) (maxL : Nat) (ret : Option FieldType) (hh : List (Nat × Nat × Nat × Nat)) (ws : List Cond) (rm : Room) (mc ms n : Nat) : Prop :=
  (rm.cells = mc ∧ rm.slots = ms ∧ rm.frames + 1 ≤ R.frames ∧ 8 + (maxL + 11) + rm.locals ≤ R.locals ∧ (∀ w ∈ ws, ∀ (a' : Array Value) (U : State), s.WarmedH U.vm → w.before a' U = true) ∧ Cond.codeWith y bytes maxL ret hh ∈ ws) ∧
  (Cond.codeWith y bytes maxL ret hh).before args s = true ∧ (Cond.initialized y.cls).before args s = true ∧ (y.cls ≠ "java/lang/invoke/MethodHandle" ∧ y.cls ≠ "java/lang/invoke/VarHandle") ∧
  (∀ sig, parseMethodDescriptor y.desc = some sig → n = sig.parameters.length) ∧ (Cond.methodLink own index y).before args s = true ∧ (Cond.static y).before args s = true
theorem vx_cwSW {own : String} {index maxL mc ms : Nat} {y : MethodName} {bytes : ByteArray} {ret : Option FieldType} {hh : List (Nat × Nat × Nat × Nat)} {Ts ws ws' : List Cond} {rm : Room} (n : Nat) (ht : ∀ w ∈ Ts, w.before args s = true) (hT : GoodIn Ts (va_wsS own index y ws)) (hw : ws = Cond.codeWith y bytes maxL ret hh :: ws') (hrc : rm.cells = mc) (hrs : rm.slots = ms)
    (hd : y.cls ≠ "java/lang/invoke/MethodHandle" ∧ y.cls ≠ "java/lang/invoke/VarHandle" ∧ (parseMethodDescriptor y.desc).map (fun d => d.parameters.length) = some n) (hR : rm.frames + 1 ≤ R.frames ∧ 8 + (maxL + 11) + rm.locals ≤ R.locals) :
    vx_CSW R s args own index y bytes maxL ret hh ws rm mc ms n := by
  have ok : ∀ w ∈ va_wsS own index y ws, w.before args s = true := fun w h => ht w (hT w h).1
  have hG : GoodIn Ts ws := fun w h => hT w (by unfold va_wsS; exact List.mem_append_right _ h)
  have hc : Cond.codeWith y bytes maxL ret hh ∈ ws := by rw [hw]; exact List.mem_cons_self
  refine ⟨⟨hrc, hrs, hR.1, hR.2, pay_in ht hG, hc⟩, ht _ (hG _ hc).1, ok _ (by simp [va_wsS]), ⟨hd.1, hd.2.1⟩, fun sig h => ?_, ok _ (by simp [va_wsS]), ok _ (by simp [va_wsS])⟩
  have h2 := hd.2.2
  rw [h] at h2
  exact (Option.some.inj h2).symm
theorem vx_callSW (X : Stand p l e R s m args below meth c T locs cells slots) (hexec : p.tables.exec = Jvm.exec) {own : String} {index : Nat} {y : MethodName} {bytes : ByteArray} {maxL : Nat} {ret : Option FieldType} {hh : List (Nat × Nat × Nat × Nat)}
    (hown : s.vm.findClass own = some m.cls) (hlink : (Cond.methodLink own index y).before args s = true) (hstat : (Cond.static y).before args s = true) (hinit : (Cond.initialized y.cls).before args s = true)
    (hcode : (Cond.codeWith y bytes maxL ret hh).before args s = true) (hy : y.cls ≠ "java/lang/invoke/MethodHandle" ∧ y.cls ≠ "java/lang/invoke/VarHandle")
    {W9 : Nat} {Pre : Pt → Array Value → Prop} {Post : Pt → Array Value → Option Value → Pt → Prop} (hK : Back l R p e below s args y 3 W9 Pre Post)
    {g : JFrame} (hg : g.method = m) (hsize : g.locals.size = c.maxLocals) {argsL rest : List Value} (hlen : ∀ sig, parseMethodDescriptor y.desc = some sig → argsL.length = sig.parameters.length)
    (hstack : g.stack = argsL.reverse ++ rest) (hW : 2 * g.monitorRoom + (rest.map fun v => v.category).sum ≤ W9) (hdg : decode c.code g.pc = .ok (.invokestatic index, 3))
    (hpre : ∀ vm₁, s.WarmedH vm₁ → Pre ⟨T.setVm vm₁, locs, cells, slots⟩ argsL.toArray) :
    ∃ (v : Option Value) (vm₁ : Vm) (B : Pt), s.WarmedH vm₁ ∧ Stand p l e R s m args below meth c B.U B.locs B.cells B.slots ∧ Post ⟨T.setVm vm₁, locs, cells, slots⟩ argsL.toArray v B ∧
      ∀ target, Steps p.tables e below (B.U.setTop { g with pc := g.pc + 3, stack := v.toList ++ rest }) target → Steps p.tables e below (T.setTop g) target := by
  obtain ⟨mk, methM, cM, hnamed, hmethM, -, -, -, -, -, -, hsigM⟩ := Cond.codeWith_spec hcode
  have hstatic : methM.isStatic = true := Cond.static_spec hnamed hmethM hstat
  obtain ⟨kP, hkP, -⟩ := className_of_methodNamed hnamed
  have hinitP : kP.init = .initialized := Cond.initialized_spec (findClass_of_methodNamed hnamed) hkP hinit
  obtain ⟨vm₁, X₁, hstep₁⟩ := X.invokestatic hexec hown hlink hnamed hmethM hstatic hkP hinitP hy (g := g) hg (argsL := argsL) (rest := rest) (hlen _ hsigM) hstack hdg
  obtain ⟨v, B, X', hpost, hsteps⟩ := hK m meth c ⟨T.setVm vm₁, locs, cells, slots⟩ { g with stack := rest } (.invokestatic index) mk argsL.toArray X₁ hg hsize hdg hW (X₁.named hnamed) (hpre vm₁ X₁.warmed)
  exact ⟨v, vm₁, B, X₁.warmed, X', hpost, fun target h => hstep₁ _ fun acts => by rw [doInvoke_state]; exact hsteps.trans h⟩
theorem vx_runSW {y : MethodName} {bytes cc : ByteArray} {maxL nL mc ms n index : Nat} {ret : Option FieldType} {hh : List (Nat × Nat × Nat × Nat)} {ws : List Cond} {rm : Room} {Pc : Array Value → State → Prop} {Qc : Array Value → State → Outcome → State → Prop} {free : Addr → Prop} {Ts : List Cond} {own : String} {As rest : List Value} {g : JFrame}
    (S : CallFix p m c cc nL s args Ts own) (hM : Met l y ws rm Pc Qc mc ms free) (cw : vx_CSW R s args own index y bytes maxL ret hh ws rm mc ms n) (hp : PreS s H Pc As)
    (hg : g.method = m) (hn : As.length = n) (hsize : g.locals.size = nL) (hstack : g.stack = As.reverse ++ rest) (hW : 2 * g.monitorRoom + (rest.map fun v => v.category).sum ≤ 8) (hdg : decode cc g.pc = .ok (.invokestatic index, 3)) (hf : cells + mc ≤ R.cells ∧ slots + ms ≤ R.slots) :
    va_Run p l e R s m args below meth c H locs cells slots mc ms g rest (Qc As.toArray) (free) := by
  obtain ⟨⟨hrc, hrs, hfr, hlo, hws, hcw⟩, hcode, hini, hy, hlen, hl, hstt⟩ := cw
  have hK : Back l R p e below s args y 3 8 (PreOf R mc ms Pc) (PostOf Qc mc ms free) := va_backW (hh := hh) (bytes := bytes) (maxL := maxL) (ret := ret) hM hp.1 hrc hrs hfr hlo hws hcw (fun a' U hW => word_at hW (Or.inl (by first | rfl | simp [Cond.onTables, Cond.keeps, Cond.steady])) hini)
  obtain ⟨hx, hb, hml, ho, -⟩ := S
  intro T hT X
  obtain ⟨v, vm₁, ⟨U', l2, c2, s2⟩, hW₁, X', ⟨g', mk, t, L, e1, e2, hq, h1, hL, h2, h3⟩, st⟩ := vx_callSW X hx (hh := hh) (bytes := bytes) (maxL := maxL) (ret := ret) ho hl hstt hini hcode hy hK hg (hsize.trans hml.symm) (argsL := As) (rest := rest) (fun sig h => hn.trans (hlen sig h)) hstack hW (by rw [hb]; exact hdg)
    (fun vm₁ hW₁ => ⟨hf.1, hf.2, hp.2 (T.setVm vm₁) hT hW₁⟩)
  dsimp only [Pt.U, Pt.locs, Pt.cells, Pt.slots] at X' e1 e2 h1 h2 h3 st
  subst h1; subst h2; subst h3
  exact ⟨v, (T.setVm vm₁).calling g' mk As.toArray, t, U', L, hT, X', hL, e1, e2, hq, st⟩
/-- not caught here, past rows that name other classes: it goes on to the caller -/
theorem vx_outP {p : Program} {l : Launch} {e : Env} {R : Room} {s : State} {m : MethodId} {args : Array Value} {below : List Frame} {meth : Method} {c : Code} {H : Heap} {locs : List Loc} {cells slots : Nat} {free : Addr → Prop} {ls : Array Slot} {rest : List Value} {Qc : Array Value → State → Outcome → State → Prop} {XC : String → State → State → Prop}
    {pc : Nat} {own E : String} {ce : Cell} {q : Addr} {mc ms : Nat} (hown : s.vm.findClass own = some m.cls) (hlocks : meth.locks = false)
    (hpass : ∀ z ∈ c.exceptionTable.toList, covers z pc = false ∨ (z.catchType ≠ 0 ∧ ∃ nm : String, (Cond.classLink own z.catchType nm).before args s = true ∧ va_Nc E nm s)) (hcell : H[q]? = some ce) (hv : ce.vm = .none) (hcl : s.vm.findClass E = some ce.cls)
    (hx : ∀ t : State, t.heap = H → s.vm.Alike t.vm → XC E s t) (hf : ∀ z ∈ locs, free z.base) (hc : cells ≤ mc) (hs : slots ≤ ms) :
    vx_W p l e R s m args below meth c H locs cells slots (vx_MQ below Qc XC args s mc ms free) (F0 m pc ls rest) q := by
  intro T hT X
  have hpl : e.platform.magicAccessors = ({} : Platform).magicAccessors := by rw [X.admits.platform]
  obtain ⟨vm', hW', X', st⟩ := X.outThrough hlocks q (g := F0 m pc ls rest) rfl rfl rfl (cell := ce) (by rw [hT]; exact hcell) (by rw [hv]; rfl)
    (by obtain ⟨k9, h9, -⟩ := Vm.findClass_spec hcl; exact ⟨k9, h9⟩) (fun z hz => by
      rcases hpass z hz with h | ⟨hz0, nm, hl1, hn1⟩
      · exact Or.inl h
      · obtain ⟨c6, hc6, hcl6⟩ := Cond.classLink_spec hown hl1 e.platform hpl
        obtain ⟨a8, b8, h1, h2, h3⟩ := hn1
        cases Option.some.inj (h1.symm.trans hcl)
        cases Option.some.inj (h2.symm.trans hc6)
        exact Or.inr ⟨hz0, _, hcl6, h3⟩)
  obtain ⟨g₀, hfr⟩ := X'.frames_eq
  have hcell9 : ((T.setVm vm').setFrames (.throwing q :: below)).heap[q]? = some ce := by
    show T.heap[q]? = some ce
    rw [hT]; exact hcell
  have hend : Ended ((T.setVm vm').setFrames (.throwing q :: below)) below (.threw q) := State.frames_setFrames _ (State.cur_lt_of_frames hfr)
  refine ⟨(T.setVm vm').setFrames (.throwing q :: below), ?_, .threw q, X'.here.running, hend, Or.inr ⟨q, rfl, E, ce, locs, hx _ hT (X'.ends _).1.alike, hcell9, hv, hcl, (X'.ends _).1, (X'.ends _).2.mono hc hs, hf⟩⟩
  rw [X.pushThrowing_eq]
  exact st
/-- a thing of a world lies in the heap -/
theorem vx_lt {D : va_G} {cl : List vw_C} {ws : va_W} {H1 : Heap} (h : va_P D cl ws H1) {k : Nat} {q : Nat × va_E} (hk : ws[k]? = some q) : q.1 < H1.size := (h k q hk).lt
end VXS
/-! ===== END ===== -/
/-! ===== BEGIN methods with a table of their own: called by a name, returning or throwing ===== -/
section VXH
/-! vx_backW, vx_callVX, vx_callSX, vx_callVW, vx_runVW, vx_runVX, vx_runSX, vx_ofWH follow the same proofs as their sisters above (Free/Laws.lean, Shelf42/LK1.lean); vx_outP calls Shelf42/NT130.lean (outThrough). -/
section
variable {l : Launch} {R : Room} {p : Program} {e : Env} {below : List Frame} {s : State} {sargs : Array Value} {y : MethodName} {len W9 : Nat}
theorem vx_backW {ws : List Cond} {rm : Room} {Pc : Array Value → State → Prop} {Qc : Array Value → State → Outcome → State → Prop} {XC : String → State → State → Prop} {mc ms : Nat} {free : Addr → Prop} {bytes : ByteArray} {maxL : Nat} {ret : Option FieldType} {hh : List (Nat × Nat × Nat × Nat)}
    (hM : vx_Met l y ws rm Pc Qc XC mc ms free) (hblind : FrameBlind Pc) (hrc : rm.cells = mc) (hrs : rm.slots = ms)
    (hframes : rm.frames + 1 ≤ R.frames) (hlocals : W9 + (maxL + 11) + rm.locals ≤ R.locals)
    (hws : ∀ w ∈ ws, ∀ a' U, s.WarmedH U.vm → w.before a' U = true) (hcode : Cond.codeWith y bytes maxL ret hh ∈ ws) (hinit : ∀ a' U, s.WarmedH U.vm → (Cond.initialized y.cls).before a' U = true) :
    vx_Back l R p e below s sargs y len W9 (PreOf R mc ms Pc) (PostOf Qc mc ms free) (vx_Post XC mc ms free) := by
  intro m meth c A g ig mk a X hg hsize hdg hW hn hp
  have h1 : (headSpec ws rm).pre.before a A.U = true := atoms_intro fun w hw => hws w hw _ _ X.warmed
  have h2 : (Cond.codeWith y bytes maxL ret hh).before a A.U = true := hws _ hcode _ _ X.warmed
  have h3 : (Cond.initialized y.cls).before a A.U = true := hinit _ _ X.warmed
  have h4 : A.cells + (headSpec ws rm).room.cells ≤ R.cells := by rw [show (headSpec ws rm).room.cells = mc from hrc]; exact hp.1
  have h5 : A.slots + (headSpec ws rm).room.slots ≤ R.slots := by rw [show (headSpec ws rm).room.slots = ms from hrs]; exact hp.2.1
  have hPc : Pc a (A.U.calling g mk a) := hblind _ _ _ _ hp.2.2
  obtain ⟨U, Ls, c0, s0⟩ := A
  dsimp only [Pt.U, Pt.locs, Pt.cells, Pt.slots] at h1 h2 h3 h4 h5 X hn hPc ⊢
  obtain ⟨m9, methY, cY, hn9, hmY, hcY, -, hlY, -⟩ := Cond.codeWith_spec h2
  cases Option.some.inj (hn9.symm.trans hn)
  obtain ⟨kY, hkY, -⟩ := className_of_methodNamed hn
  have hinitY : kY.init = .initialized := Cond.initialized_spec (findClass_of_methodNamed hn) hkY h3
  have h : At U g.method c below := by rw [hg]; exact X.here
  have hlocals9 : W9 + (maxL + 11) + (headSpec ws rm).room.locals ≤ R.locals := hlocals
  have happ : (headSpec ws rm).appliesLoose y e.platform (U.calling g mk a) = true :=
    Spec.appliesLoose_calling (g := g) h hdg hn hkY hinitY
      (X.room_calling (g := g) (R' := (headSpec ws rm).room) hsize hmY hcY hframes (by rw [hlY]; omega) h4 h5) h1
  obtain ⟨mid, hmid⟩ := h.above
  have hfr : (U.setTop g).frames = (.java g :: mid) ++ below := by rw [State.frames_setTop' g h.top, hmid]; rfl
  obtain ⟨o, s₂, hsteps, -, hend, hq⟩ := Steps.callFree hM p X.admits X.cas X.clock (acts := []) hfr happ hPc trivial
  have hq' : vx_Q Qc XC mc ms free a (U.calling g mk a) o s₂ := hq
  rw [State.frames_setTop' g h.top] at hend
  obtain ⟨g₀, hg0⟩ := Option.isSome_iff_exists.mp h.top
  obtain ⟨r, hr⟩ := State.topJava?_eq_some.mp hg0
  have hr' : (({ U with heap := s₂.heap, slotsUsed := s₂.slotsUsed } : State).setVm s₂.vm).frames = .java g₀ :: r := hr
  rcases hq' with ⟨hqc, L, hfe, hL⟩ | ⟨q, rfl, E, ce, L, hx, hce, hcv, hcl, hW₂, hsm, hL⟩
  · obtain ⟨⟨v, rfl⟩, hW₂, e2, q2, q3, q4, q5, q6⟩ := id hfe
    have e3 : s₂ = ({ (U.calling g mk a).setFrames s₂.frames with heap := s₂.heap, slotsUsed := s₂.slotsUsed } : State).setVm s₂.vm := by
      have : s₂ = ({ s₂ with vm := (U.calling g mk a).vm } : State).setVm s₂.vm := rfl
      rw [e2] at this
      exact this
    obtain ⟨c₂, i₂, len₂, hc₂, hd₂, hf₂⟩ := hend
    have hW' : U.WarmedH s₂.vm := hW₂
    have hcc : c₂ = c := by
      have h1 : s₂.code? g.method = U.code? g.method := by
        rw [State.code?_eq, State.code?_eq, hW'.alike.method?]
      exact Option.some.inj (hc₂.symm.trans (h1.trans h.code))
    subst hcc
    have hlen : len₂ = len := by rw [hdg] at hd₂; cases hd₂; rfl
    subst hlen
    have hs₂ : s₂ = (({ U with heap := s₂.heap, slotsUsed := s₂.slotsUsed } : State).setVm s₂.vm).setTop { g with pc := g.pc + len₂, stack := v.toList ++ g.stack } := by
      refine e3.trans ?_
      rw [hf₂, State.calling_eq h.top, State.setFrames_setFrames, State.setTop_of_frames _ hr', hr]
      rfl
    have hsame : U.sameButNew ({ U with heap := s₂.heap, slotsUsed := s₂.slotsUsed } : State) L mc ms := by
      refine ⟨?_, q2, q3, q4, q5, q6⟩
      obtain ⟨t, ht, -⟩ := State.frames_cons hr
      show ({ U with heap := s₂.heap, slotsUsed := s₂.slotsUsed } : State) = { U.setFrames U.frames with heap := s₂.heap, slotsUsed := s₂.slotsUsed }
      rw [State.setFrames_self ht]
    subst hg
    refine Or.inl ⟨v, ⟨(({ U with heap := s₂.heap, slotsUsed := s₂.slotsUsed } : State).setVm s₂.vm), Ls ++ L, c0 + mc, s0 + ms⟩,
      ⟨X.admits, X.cas, X.clock, X.frames, X.room, X.hears, X.method, X.code, (X.here.setHeapUsed s₂.heap s₂.slotsUsed).setVm hW'.alike, X.tail, State.WarmedH.trans X.warmed hW', X.limits, X.bytes, X.same.trans (hsame.setVm s.vm)⟩,
      ⟨g, mk, s₂, L, rfl, rfl, hqc, rfl, hL, rfl, rfl⟩, ?_⟩
    show Steps p.tables e below _ ((({ U with heap := s₂.heap, slotsUsed := s₂.slotsUsed } : State).setVm s₂.vm).setTop { g with pc := g.pc + len₂, stack := v.toList ++ g.stack })
    rw [← hs₂]
    exact hsteps
  · obtain ⟨e2, q2, q3, q4, q5, q6⟩ := id hsm
    have e3 : s₂ = ({ (U.calling g mk a).setFrames s₂.frames with heap := s₂.heap, slotsUsed := s₂.slotsUsed } : State).setVm s₂.vm := by
      have : s₂ = ({ s₂ with vm := (U.calling g mk a).vm } : State).setVm s₂.vm := rfl
      rw [e2] at this
      exact this
    have hf₂ : s₂.frames = .throwing q :: .java g :: U.frames.tail := hend
    have hW' : U.WarmedH s₂.vm := hW₂
    have hs₂ : s₂ = ((({ U with heap := s₂.heap, slotsUsed := s₂.slotsUsed } : State).setVm s₂.vm).setTop g).pushFrame (.throwing q) := by
      refine e3.trans ?_
      rw [hf₂, State.calling_eq h.top, State.setFrames_setFrames, State.pushFrame, State.frames_setTop _ hr', State.setTop_of_frames _ hr', State.setFrames_setFrames, hr]
      rfl
    have hsame : U.sameButNew ({ U with heap := s₂.heap, slotsUsed := s₂.slotsUsed } : State) L mc ms := by
      refine ⟨?_, q2, q3, q4, q5, q6⟩
      obtain ⟨t, ht, -⟩ := State.frames_cons hr
      show ({ U with heap := s₂.heap, slotsUsed := s₂.slotsUsed } : State) = { U.setFrames U.frames with heap := s₂.heap, slotsUsed := s₂.slotsUsed }
      rw [State.setFrames_self ht]
    subst hg
    refine Or.inr ⟨q, ⟨(({ U with heap := s₂.heap, slotsUsed := s₂.slotsUsed } : State).setVm s₂.vm), Ls ++ L, c0 + mc, s0 + ms⟩,
      ⟨X.admits, X.cas, X.clock, X.frames, X.room, X.hears, X.method, X.code, (X.here.setHeapUsed s₂.heap s₂.slotsUsed).setVm hW'.alike, X.tail, State.WarmedH.trans X.warmed hW', X.limits, X.bytes, X.same.trans (hsame.setVm s.vm)⟩,
      ⟨g, mk, s₂, L, E, ce, rfl, rfl, hx, hce, hcv, hcl, rfl, hL, rfl, rfl⟩, ?_⟩
    show Steps p.tables e below _ (((({ U with heap := s₂.heap, slotsUsed := s₂.slotsUsed } : State).setVm s₂.vm).setTop g).pushFrame (.throwing q))
    rw [← hs₂]
    exact hsteps
end
variable {p : Program} {l : Launch} {e : Env} {R : Room} {s : State} {m : MethodId} {args : Array Value} {below : List Frame} {meth : Method} {c : Code} {T : State} {H : Heap} {locs : List Loc} {cells slots : Nat}
theorem vx_callVX (X : Stand p l e R s m args below meth c T locs cells slots) (hexec : p.tables.exec = Jvm.exec) {own C : String} {index : Nat} {y : MethodName} {bytes : ByteArray} {maxL : Nat} {ret : Option FieldType} {hh : List (Nat × Nat × Nat × Nat)}
    (hown : s.vm.findClass own = some m.cls) (hlink : (Cond.methodLink own index y).before args s = true) (hinst : (Cond.instanceMethod y).before args s = true) (hsel : (Cond.selects C y y).before args s = true)
    (hcode : (Cond.codeWith y bytes maxL ret hh).before args s = true) (hy : y.cls ≠ "java/lang/invoke/MethodHandle" ∧ y.cls ≠ "java/lang/invoke/VarHandle")
    {W9 : Nat} {Pre : Pt → Array Value → Prop} {Post : Pt → Array Value → Option Value → Pt → Prop} {PostX : Pt → Array Value → Addr → Pt → Prop} (hK : vx_Back l R p e below s args y 3 W9 Pre Post PostX)
    {b : Addr} {cellB : Cell} (hcell : T.heap[b]? = some cellB) (hobj : cellB.vm.isStatics = false) (hcls : s.vm.findClass C = some cellB.cls)
    {g : JFrame} (hg : g.method = m) (hsize : g.locals.size = c.maxLocals) {argsL rest : List Value} (hlen : ∀ sig, parseMethodDescriptor y.desc = some sig → argsL.length = sig.parameters.length)
    (hstack : g.stack = argsL.reverse ++ .ref b :: rest) (hW : 2 * g.monitorRoom + (rest.map fun v => v.category).sum ≤ W9) (hdg : decode c.code g.pc = .ok (.invokevirtual index, 3))
    (hpre : ∀ vm₁, s.WarmedH vm₁ → Pre ⟨T.setVm vm₁, locs, cells, slots⟩ (Value.ref b :: argsL).toArray) :
    (∃ (v : Option Value) (vm₁ : Vm) (B : Pt), s.WarmedH vm₁ ∧ Stand p l e R s m args below meth c B.U B.locs B.cells B.slots ∧ Post ⟨T.setVm vm₁, locs, cells, slots⟩ (Value.ref b :: argsL).toArray v B ∧
      ∀ target, Steps p.tables e below (B.U.setTop { g with pc := g.pc + 3, stack := v.toList ++ rest }) target → Steps p.tables e below (T.setTop g) target) ∨
    (∃ (q : Addr) (vm₁ : Vm) (B : Pt), s.WarmedH vm₁ ∧ Stand p l e R s m args below meth c B.U B.locs B.cells B.slots ∧ PostX ⟨T.setVm vm₁, locs, cells, slots⟩ (Value.ref b :: argsL).toArray q B ∧
      Steps p.tables e below (T.setTop g) ((B.U.setTop { g with stack := rest }).pushFrame (.throwing q))) := by
  obtain ⟨mk, methM, hnamed, hmethM, hstM, habM⟩ := Cond.instanceMethod_spec hinst
  obtain ⟨m8, methM', cM, hn8, hmethM', -, -, -, -, -, -, hsigM⟩ := Cond.codeWith_spec hcode
  cases Option.some.inj (hn8.symm.trans hnamed)
  cases hmethM.symm.trans hmethM'
  obtain ⟨c2, r2, m2, q1, q2, q3, q4, kP, hkP, hkPi⟩ := Cond.selects_spec hsel
  cases hcls.symm.trans q1
  cases (State.methodFound?_of_named hnamed hy).symm.trans q2
  cases hnamed.symm.trans q3
  have hselP : selectMethod e.platform s.vm cellB.cls mk = .method mk := by rw [Launch.admits_selectMethod X.admits]; exact q4
  obtain ⟨vm₁, X₁, hstep₁⟩ := X.invokevirtual hexec hown hlink hnamed hmethM hstM hkP hkPi hy (a := b) (cell := cellB) hcell
    (fun z h => by rw [h] at hobj; cases hobj) hselP hmethM habM hkP hkPi (g := g) hg (argsL := argsL) (rest := rest) (hlen _ hsigM) hstack hdg
  rcases hK m meth c ⟨T.setVm vm₁, locs, cells, slots⟩ { g with stack := rest } (.invokevirtual index) mk (Value.ref b :: argsL).toArray X₁ hg hsize hdg hW (X₁.named hnamed) (hpre vm₁ X₁.warmed) with ⟨v, B, X', hpost, hsteps⟩ | ⟨q, B, X', hpost, hsteps⟩
  · exact Or.inl ⟨v, vm₁, B, X₁.warmed, X', hpost, fun target h => hstep₁ _ fun acts => by rw [doInvoke_state]; exact hsteps.trans h⟩
  · exact Or.inr ⟨q, vm₁, B, X₁.warmed, X', hpost, hstep₁ _ fun acts => by rw [doInvoke_state]; exact hsteps⟩
theorem vx_callSX (X : Stand p l e R s m args below meth c T locs cells slots) (hexec : p.tables.exec = Jvm.exec) {own : String} {index : Nat} {y : MethodName} {bytes : ByteArray} {maxL : Nat} {ret : Option FieldType} {hh : List (Nat × Nat × Nat × Nat)}
    (hown : s.vm.findClass own = some m.cls) (hlink : (Cond.methodLink own index y).before args s = true) (hstat : (Cond.static y).before args s = true) (hinit : (Cond.initialized y.cls).before args s = true)
    (hcode : (Cond.codeWith y bytes maxL ret hh).before args s = true) (hy : y.cls ≠ "java/lang/invoke/MethodHandle" ∧ y.cls ≠ "java/lang/invoke/VarHandle")
    {W9 : Nat} {Pre : Pt → Array Value → Prop} {Post : Pt → Array Value → Option Value → Pt → Prop} {PostX : Pt → Array Value → Addr → Pt → Prop} (hK : vx_Back l R p e below s args y 3 W9 Pre Post PostX)
    {g : JFrame} (hg : g.method = m) (hsize : g.locals.size = c.maxLocals) {argsL rest : List Value} (hlen : ∀ sig, parseMethodDescriptor y.desc = some sig → argsL.length = sig.parameters.length)
    (hstack : g.stack = argsL.reverse ++ rest) (hW : 2 * g.monitorRoom + (rest.map fun v => v.category).sum ≤ W9) (hdg : decode c.code g.pc = .ok (.invokestatic index, 3))
    (hpre : ∀ vm₁, s.WarmedH vm₁ → Pre ⟨T.setVm vm₁, locs, cells, slots⟩ argsL.toArray) :
    (∃ (v : Option Value) (vm₁ : Vm) (B : Pt), s.WarmedH vm₁ ∧ Stand p l e R s m args below meth c B.U B.locs B.cells B.slots ∧ Post ⟨T.setVm vm₁, locs, cells, slots⟩ argsL.toArray v B ∧
      ∀ target, Steps p.tables e below (B.U.setTop { g with pc := g.pc + 3, stack := v.toList ++ rest }) target → Steps p.tables e below (T.setTop g) target) ∨
    (∃ (q : Addr) (vm₁ : Vm) (B : Pt), s.WarmedH vm₁ ∧ Stand p l e R s m args below meth c B.U B.locs B.cells B.slots ∧ PostX ⟨T.setVm vm₁, locs, cells, slots⟩ argsL.toArray q B ∧
      Steps p.tables e below (T.setTop g) ((B.U.setTop { g with stack := rest }).pushFrame (.throwing q))) := by
  obtain ⟨mk, methM, cM, hnamed, hmethM, -, -, -, -, -, -, hsigM⟩ := Cond.codeWith_spec hcode
  have hstatic : methM.isStatic = true := Cond.static_spec hnamed hmethM hstat
  obtain ⟨kP, hkP, -⟩ := className_of_methodNamed hnamed
  have hinitP : kP.init = .initialized := Cond.initialized_spec (findClass_of_methodNamed hnamed) hkP hinit
  obtain ⟨vm₁, X₁, hstep₁⟩ := X.invokestatic hexec hown hlink hnamed hmethM hstatic hkP hinitP hy (g := g) hg (argsL := argsL) (rest := rest) (hlen _ hsigM) hstack hdg
  rcases hK m meth c ⟨T.setVm vm₁, locs, cells, slots⟩ { g with stack := rest } (.invokestatic index) mk argsL.toArray X₁ hg hsize hdg hW (X₁.named hnamed) (hpre vm₁ X₁.warmed) with ⟨v, B, X', hpost, hsteps⟩ | ⟨q, B, X', hpost, hsteps⟩
  · exact Or.inl ⟨v, vm₁, B, X₁.warmed, X', hpost, fun target h => hstep₁ _ fun acts => by rw [doInvoke_state]; exact hsteps.trans h⟩
  · exact Or.inr ⟨q, vm₁, B, X₁.warmed, X', hpost, hstep₁ _ fun acts => by rw [doInvoke_state]; exact hsteps⟩
theorem vx_callVW (X : Stand p l e R s m args below meth c T locs cells slots) (hexec : p.tables.exec = Jvm.exec) {own C : String} {index : Nat} {y : MethodName} {bytes : ByteArray} {maxL : Nat} {ret : Option FieldType} {hh : List (Nat × Nat × Nat × Nat)}
    (hown : s.vm.findClass own = some m.cls) (hlink : (Cond.methodLink own index y).before args s = true) (hinst : (Cond.instanceMethod y).before args s = true) (hsel : (Cond.selects C y y).before args s = true)
    (hcode : (Cond.codeWith y bytes maxL ret hh).before args s = true) (hy : y.cls ≠ "java/lang/invoke/MethodHandle" ∧ y.cls ≠ "java/lang/invoke/VarHandle")
    {W9 : Nat} {Pre : Pt → Array Value → Prop} {Post : Pt → Array Value → Option Value → Pt → Prop} (hK : Back l R p e below s args y 3 W9 Pre Post)
    {b : Addr} {cellB : Cell} (hcell : T.heap[b]? = some cellB) (hobj : cellB.vm.isStatics = false) (hcls : s.vm.findClass C = some cellB.cls)
    {g : JFrame} (hg : g.method = m) (hsize : g.locals.size = c.maxLocals) {argsL rest : List Value} (hlen : ∀ sig, parseMethodDescriptor y.desc = some sig → argsL.length = sig.parameters.length)
    (hstack : g.stack = argsL.reverse ++ .ref b :: rest) (hW : 2 * g.monitorRoom + (rest.map fun v => v.category).sum ≤ W9) (hdg : decode c.code g.pc = .ok (.invokevirtual index, 3))
    (hpre : ∀ vm₁, s.WarmedH vm₁ → Pre ⟨T.setVm vm₁, locs, cells, slots⟩ (Value.ref b :: argsL).toArray) :
    ∃ (v : Option Value) (vm₁ : Vm) (B : Pt), s.WarmedH vm₁ ∧ Stand p l e R s m args below meth c B.U B.locs B.cells B.slots ∧ Post ⟨T.setVm vm₁, locs, cells, slots⟩ (Value.ref b :: argsL).toArray v B ∧
      ∀ target, Steps p.tables e below (B.U.setTop { g with pc := g.pc + 3, stack := v.toList ++ rest }) target → Steps p.tables e below (T.setTop g) target := by
  obtain ⟨mk, methM, hnamed, hmethM, hstM, habM⟩ := Cond.instanceMethod_spec hinst
  obtain ⟨m8, methM', cM, hn8, hmethM', -, -, -, -, -, -, hsigM⟩ := Cond.codeWith_spec hcode
  cases Option.some.inj (hn8.symm.trans hnamed)
  cases hmethM.symm.trans hmethM'
  obtain ⟨c2, r2, m2, q1, q2, q3, q4, kP, hkP, hkPi⟩ := Cond.selects_spec hsel
  cases hcls.symm.trans q1
  cases (State.methodFound?_of_named hnamed hy).symm.trans q2
  cases hnamed.symm.trans q3
  have hselP : selectMethod e.platform s.vm cellB.cls mk = .method mk := by rw [Launch.admits_selectMethod X.admits]; exact q4
  obtain ⟨vm₁, X₁, hstep₁⟩ := X.invokevirtual hexec hown hlink hnamed hmethM hstM hkP hkPi hy (a := b) (cell := cellB) hcell
    (fun z h => by rw [h] at hobj; cases hobj) hselP hmethM habM hkP hkPi (g := g) hg (argsL := argsL) (rest := rest) (hlen _ hsigM) hstack hdg
  obtain ⟨v, B, X', hpost, hsteps⟩ := hK m meth c ⟨T.setVm vm₁, locs, cells, slots⟩ { g with stack := rest } (.invokevirtual index) mk (Value.ref b :: argsL).toArray X₁ hg hsize hdg hW (X₁.named hnamed) (hpre vm₁ X₁.warmed)
  exact ⟨v, vm₁, B, X₁.warmed, X', hpost, fun target h => hstep₁ _ fun acts => by rw [doInvoke_state]; exact hsteps.trans h⟩
abbrev vx_CVW (R : Room) (s : State) (args : Array Value) (own C : String) (index : Nat) (y : MethodName) (bytes : ByteArray) (maxL : Nat) (ret : Option FieldType) (hh : List (Nat × Nat × Nat × Nat)) (ws : List Cond) (rm : Room) (mc ms n : Nat) : Prop :=
  (rm.cells = mc ∧ rm.slots = ms ∧ rm.frames + 1 ≤ R.frames ∧ 8 + (maxL + 11) + rm.locals ≤ R.locals ∧ (∀ w ∈ ws, ∀ (a' : Array Value) (U : State), s.WarmedH U.vm → w.before a' U = true) ∧ Cond.codeWith y bytes maxL ret hh ∈ ws) ∧
  (Cond.codeWith y bytes maxL ret hh).before args s = true ∧ (Cond.initialized y.cls).before args s = true ∧ (y.cls ≠ "java/lang/invoke/MethodHandle" ∧ y.cls ≠ "java/lang/invoke/VarHandle") ∧
  (∀ sig, parseMethodDescriptor y.desc = some sig → n = sig.parameters.length) ∧ (Cond.methodLink own index y).before args s = true ∧ (Cond.instanceMethod y).before args s = true ∧ (Cond.selects C y y).before args s = true
theorem vx_cwVW {own C : String} {index maxL mc ms : Nat} {y : MethodName} {bytes : ByteArray} {ret : Option FieldType} {hh : List (Nat × Nat × Nat × Nat)} {Ts ws ws' : List Cond} {rm : Room} (n : Nat) (ht : ∀ w ∈ Ts, w.before args s = true) (hT : GoodIn Ts (wsV own index C y ws)) (hw : ws = Cond.codeWith y bytes maxL ret hh :: ws') (hrc : rm.cells = mc) (hrs : rm.slots = ms)
    (hd : y.cls = C ∧ y.cls ≠ "java/lang/invoke/MethodHandle" ∧ y.cls ≠ "java/lang/invoke/VarHandle" ∧ (parseMethodDescriptor y.desc).map (fun d => d.parameters.length) = some n) (hR : rm.frames + 1 ≤ R.frames ∧ 8 + (maxL + 11) + rm.locals ≤ R.locals) :
    vx_CVW R s args own C index y bytes maxL ret hh ws rm mc ms n := by
  obtain ⟨hC, hd⟩ := hd
  subst hC
  have ok : ∀ w ∈ wsV own index y.cls y ws, w.before args s = true := fun w h => ht w (hT w h).1
  have hG : GoodIn Ts ws := fun w h => hT w (by unfold wsV; exact List.mem_append_right _ h)
  have hc : Cond.codeWith y bytes maxL ret hh ∈ ws := by rw [hw]; exact List.mem_cons_self
  refine ⟨⟨hrc, hrs, hR.1, hR.2, pay_in ht hG, hc⟩, ht _ (hG _ hc).1, ok _ (by simp [wsV]), ⟨hd.1, hd.2.1⟩, fun sig h => ?_, ok _ (by simp [wsV]), ok _ (by simp [wsV]), ok _ (by simp [wsV])⟩
  have h2 := hd.2.2
  rw [h] at h2
  exact (Option.some.inj h2).symm
theorem vx_runVW {y : MethodName} {bytes cc : ByteArray} {maxL nL mc ms n index : Nat} {ret : Option FieldType} {hh : List (Nat × Nat × Nat × Nat)} {ws : List Cond} {rm : Room} {Pc : Array Value → State → Prop} {Qc : Array Value → State → Outcome → State → Prop} {free : Addr → Prop} {Ts : List Cond} {own C : String} {b : Addr} {As rest : List Value} {g : JFrame}
    (S : CallFix p m c cc nL s args Ts own) (hM : Met l y ws rm Pc Qc mc ms free) (cw : vx_CVW R s args own C index y bytes maxL ret hh ws rm mc ms n) (hp : PreV s H C b Pc As)
    (hg : g.method = m) (hn : As.length = n) (hsize : g.locals.size = nL) (hstack : g.stack = As.reverse ++ .ref b :: rest) (hW : 2 * g.monitorRoom + (rest.map fun v => v.category).sum ≤ 8) (hdg : decode cc g.pc = .ok (.invokevirtual index, 3)) (hf : cells + mc ≤ R.cells ∧ slots + ms ≤ R.slots) :
    va_Run p l e R s m args below meth c H locs cells slots mc ms g rest (Qc (Value.ref b :: As).toArray) free := by
  obtain ⟨⟨hrc, hrs, hfr, hlo, hws, hcw⟩, hcode, hini, hy, hlen, hl, hin, hse⟩ := cw
  have hK : Back l R p e below s args y 3 8 (PreOf R mc ms Pc) (PostOf Qc mc ms free) := va_backW (hh := hh) (bytes := bytes) (maxL := maxL) (ret := ret) hM hp.1 hrc hrs hfr hlo hws hcw (fun a' U hW => word_at hW (Or.inl (by first | rfl | simp [Cond.onTables, Cond.keeps, Cond.steady])) hini)
  obtain ⟨hx, hb, hml, ho, -⟩ := S
  obtain ⟨-, ⟨cellB, hcB, hoB, hclB⟩, hPc⟩ := hp
  intro T hT X
  obtain ⟨v, vm₁, ⟨U', l2, c2, s2⟩, hW₁, X', ⟨g', mk, t, L, e1, e2, hq, h1, hL, h2, h3⟩, st⟩ := vx_callVW X hx (C := C) (hh := hh) (bytes := bytes) (maxL := maxL) (ret := ret) ho hl hin hse hcode hy hK (by rw [hT]; exact hcB) hoB hclB hg (hsize.trans hml.symm) (argsL := As) (rest := rest) (fun sig h => hn.trans (hlen sig h)) hstack hW (by rw [hb]; exact hdg)
    (fun vm₁ hW₁ => ⟨hf.1, hf.2, hPc (T.setVm vm₁) hT hW₁⟩)
  dsimp only [Pt.U, Pt.locs, Pt.cells, Pt.slots] at X' e1 e2 h1 h2 h3 st
  subst h1; subst h2; subst h3
  exact ⟨v, (T.setVm vm₁).calling g' mk (Value.ref b :: As).toArray, t, U', L, hT, X', hL, e1, e2, hq, st⟩
section
variable {y : MethodName} {bytes cc : ByteArray} {maxL nL mc ms n index : Nat} {ret : Option FieldType} {ws : List Cond} {rm : Room} {Pc : Array Value → State → Prop} {Qc : Array Value → State → Outcome → State → Prop} {XC : String → State → State → Prop} {free : Addr → Prop} {Ts : List Cond} {own C : String} {b : Addr} {As rest : List Value} {g : JFrame}
theorem vx_runVX {hh : List (Nat × Nat × Nat × Nat)} (S : CallFix p m c cc nL s args Ts own) (hM : vx_Met l y ws rm Pc Qc XC mc ms free) (cw : vx_CVW R s args own C index y bytes maxL ret hh ws rm mc ms n) (hp : PreV s H C b Pc As)
    (hg : g.method = m) (hn : As.length = n) (hsize : g.locals.size = nL) (hstack : g.stack = As.reverse ++ .ref b :: rest) (hW : 2 * g.monitorRoom + (rest.map fun v => v.category).sum ≤ 8) (hdg : decode cc g.pc = .ok (.invokevirtual index, 3)) (hf : cells + mc ≤ R.cells ∧ slots + ms ≤ R.slots) :
    vx_Run p l e R s m args below meth c H locs cells slots mc ms g rest (Qc (Value.ref b :: As).toArray) XC free := by
  obtain ⟨⟨hrc, hrs, hfr, hlo, hws, hcw⟩, hcode, hini, hy, hlen, hl, hin, hse⟩ := cw
  have hK : vx_Back l R p e below s args y 3 8 (PreOf R mc ms Pc) (PostOf Qc mc ms free) (vx_Post XC mc ms free) := vx_backW (hh := hh) (bytes := bytes) (maxL := maxL) (ret := ret) hM hp.1 hrc hrs hfr hlo hws hcw (fun a' U hW => word_at hW (Or.inl (by first | rfl | simp [Cond.onTables, Cond.keeps, Cond.steady])) hini)
  obtain ⟨hx, hb, hml, ho, -⟩ := S
  obtain ⟨-, ⟨cellB, hcB, hoB, hclB⟩, hPc⟩ := hp
  intro T hT X
  rcases vx_callVX X hx (C := C) (hh := hh) (bytes := bytes) (maxL := maxL) (ret := ret) ho hl hin hse hcode hy hK (by rw [hT]; exact hcB) hoB hclB hg (hsize.trans hml.symm) (argsL := As) (rest := rest) (fun sig h => hn.trans (hlen sig h)) hstack hW (by rw [hb]; exact hdg)
    (fun vm₁ hW₁ => ⟨hf.1, hf.2, hPc (T.setVm vm₁) hT hW₁⟩) with ⟨v, vm₁, ⟨U', l2, c2, s2⟩, hW₁, X', ⟨g', mk, t, L, e1, e2, hq, h1, hL, h2, h3⟩, st⟩ | ⟨q, vm₁, ⟨U', l2, c2, s2⟩, hW₁, X', ⟨g', mk, t, L, E, ce, e1, e2, hq, hce, hcv, hcl, h1, hL, h2, h3⟩, st⟩
  · dsimp only [Pt.U, Pt.locs, Pt.cells, Pt.slots] at X' e1 e2 h1 h2 h3 st
    subst h1; subst h2; subst h3
    exact Or.inl ⟨v, (T.setVm vm₁).calling g' mk (Value.ref b :: As).toArray, t, U', L, hT, X', hL, e1, e2, hq, st⟩
  · dsimp only [Pt.U, Pt.locs, Pt.cells, Pt.slots] at X' e1 e2 h1 h2 h3 st hcl
    subst h1; subst h2; subst h3
    exact Or.inr ⟨q, (T.setVm vm₁).calling g' mk (Value.ref b :: As).toArray, t, U', L, E, ce, hT, X', hL, e1, e2, hq, hce, hcv, vx_cls hW₁ hcl, st⟩
theorem vx_runSX {hh : List (Nat × Nat × Nat × Nat)} (S : CallFix p m c cc nL s args Ts own) (hM : vx_Met l y ws rm Pc Qc XC mc ms free) (cw : vx_CSW R s args own index y bytes maxL ret hh ws rm mc ms n) (hp : PreS s H Pc As)
    (hg : g.method = m) (hn : As.length = n) (hsize : g.locals.size = nL) (hstack : g.stack = As.reverse ++ rest) (hW : 2 * g.monitorRoom + (rest.map fun v => v.category).sum ≤ 8) (hdg : decode cc g.pc = .ok (.invokestatic index, 3)) (hf : cells + mc ≤ R.cells ∧ slots + ms ≤ R.slots) :
    vx_Run p l e R s m args below meth c H locs cells slots mc ms g rest (Qc As.toArray) XC free := by
  obtain ⟨⟨hrc, hrs, hfr, hlo, hws, hcw⟩, hcode, hini, hy, hlen, hl, hstt⟩ := cw
  have hK : vx_Back l R p e below s args y 3 8 (PreOf R mc ms Pc) (PostOf Qc mc ms free) (vx_Post XC mc ms free) := vx_backW (hh := hh) (bytes := bytes) (maxL := maxL) (ret := ret) hM hp.1 hrc hrs hfr hlo hws hcw (fun a' U hW => word_at hW (Or.inl (by first | rfl | simp [Cond.onTables, Cond.keeps, Cond.steady])) hini)
  obtain ⟨hx, hb, hml, ho, -⟩ := S
  intro T hT X
  rcases vx_callSX X hx (hh := hh) (bytes := bytes) (maxL := maxL) (ret := ret) ho hl hstt hini hcode hy hK hg (hsize.trans hml.symm) (argsL := As) (rest := rest) (fun sig h => hn.trans (hlen sig h)) hstack hW (by rw [hb]; exact hdg)
    (fun vm₁ hW₁ => ⟨hf.1, hf.2, hp.2 (T.setVm vm₁) hT hW₁⟩) with ⟨v, vm₁, ⟨U', l2, c2, s2⟩, hW₁, X', ⟨g', mk, t, L, e1, e2, hq, h1, hL, h2, h3⟩, st⟩ | ⟨q, vm₁, ⟨U', l2, c2, s2⟩, hW₁, X', ⟨g', mk, t, L, E, ce, e1, e2, hq, hce, hcv, hcl, h1, hL, h2, h3⟩, st⟩
  · dsimp only [Pt.U, Pt.locs, Pt.cells, Pt.slots] at X' e1 e2 h1 h2 h3 st
    subst h1; subst h2; subst h3
    exact Or.inl ⟨v, (T.setVm vm₁).calling g' mk As.toArray, t, U', L, hT, X', hL, e1, e2, hq, st⟩
  · dsimp only [Pt.U, Pt.locs, Pt.cells, Pt.slots] at X' e1 e2 h1 h2 h3 st hcl
    subst h1; subst h2; subst h3
    exact Or.inr ⟨q, (T.setVm vm₁).calling g' mk As.toArray, t, U', L, E, ce, hT, X', hL, e1, e2, hq, hce, hcv, vx_cls hW₁ hcl, st⟩
end
end VXH
theorem vx_ofWH {l : Launch} {y : MethodName} {ws ws' : List Cond} {rm : Room} {Pc : Array Value → State → Prop} {Qc : Array Value → State → Outcome → State → Prop} {XC : String → State → State → Prop} {mc ms : Nat} {free : Addr → Prop} {cc : ByteArray} {maxL : Nat} {ret : Option FieldType} {hh : List (Nat × Nat × Nat × Nat)}
    (hy : plainName y.cls = true) (hw : ws = Cond.codeWith y cc maxL ret hh :: ws')
    (body : ∀ p e s m args below meth c s₁, BodyLoose p l y (headSpec ws rm) cc maxL ret e s m args below meth c s₁ → c.maxLocals = maxL → Pc args s →
      W p l e (headSpec ws rm).room s m args below meth c s.heap [] 0 0 (vx_MQ below Qc XC args s mc ms free) (entryFrame m args maxL)) : vx_Met l y ws rm Pc Qc XC mc ms free := by
  refine MetFree.of_bodyS (code := cc) (maxLocals := maxL) (ret := ret) hy ?_ ?_
  · intro args s m h hn
    obtain ⟨m9, meth, c, hn9, h1, h2, h3, h4, -, h5, h6, -⟩ := Cond.codeWith_spec (atoms_spec (ws := ws) h _ (by rw [hw]; exact List.mem_cons_self))
    cases hn.symm.trans hn9
    exact ⟨meth, c, h1, h2, h3, h4, h5, h6⟩
  · intro p e s m args below meth c s₁ B hml hP _
    have hh0 : s₁.heap = s.heap := by rw [B.state]; rfl
    obtain ⟨t, a1, o, b1, b2, b3⟩ := body p e s m args below meth c s₁ B hml hP s₁ hh0 (Stand.of_body B)
    exact ⟨t, o, a1, b1, b2, b3⟩
/-! ===== END ===== -/
end
section
/-! NAMES, by program (wip/whole/names.py): the good words of the tables, by their places; methods; fields -/
def zT : List Cond := lw_tbl.filter goodWord
theorem zT_in {w : Cond} (h : w ∈ lw_tbl) (g : goodWord w = true) : w ∈ zT := List.mem_filter.mpr ⟨h, g⟩
theorem zT_good {w : Cond} (h : w ∈ zT) : (w.onTables && w.keeps) = true ∨ ∃ ty, w = .arrayClass ty := good_of_word (List.mem_filter.mp h).2
theorem zT_hts {args : Array Value} {s : State} (h : ∀ w ∈ lw_tbl, w.before args s = true) : ∀ w ∈ zT, w.before args s = true := fun w hw => h w (List.mem_filter.mp hw).1
def yK_init : MethodName := ⟨"PolynomialDesk", "<init>", "()V"⟩
abbrev bK_init : ByteArray := prog_1_method_1_code
def yR_init : MethodName := ⟨"PolynomialDesk$Ring", "<init>", "()V"⟩
abbrev bR_init : ByteArray := prog_4_method_1_code
def yR_prepare : MethodName := ⟨"PolynomialDesk$Ring", "prepare", "(III)V"⟩
abbrev bR_prepare : ByteArray := prog_4_method_2_code
def yJ_fill : MethodName := ⟨"java/util/Arrays", "fill", "([II)V"⟩
abbrev bJ_fill : ByteArray := prog_17_method_103_code
def yR_listMonomials : MethodName := ⟨"PolynomialDesk$Ring", "listMonomials", "(III)V"⟩
abbrev bR_listMonomials : ByteArray := prog_4_method_3_code
def yR_recordMonomial : MethodName := ⟨"PolynomialDesk$Ring", "recordMonomial", "(I)V"⟩
abbrev bR_recordMonomial : ByteArray := prog_4_method_4_code
def yE_init : MethodName := ⟨"PolynomialDesk$Reader", "<init>", "(LPolynomialDesk$Ring;)V"⟩
abbrev bE_init : ByteArray := prog_3_method_1_code
def yP_init : MethodName := ⟨"PolynomialDesk$Printer", "<init>", "(LPolynomialDesk$Ring;)V"⟩
abbrev bP_init : ByteArray := prog_2_method_1_code
def yK_put : MethodName := ⟨"PolynomialDesk", "put", "(JI)Z"⟩
abbrev bK_put : ByteArray := prog_1_method_3_code
def yE_takeBytes : MethodName := ⟨"PolynomialDesk$Reader", "takeBytes", "(JI)Z"⟩
abbrev bE_takeBytes : ByteArray := prog_3_method_2_code
def yK_fault : MethodName := ⟨"PolynomialDesk", "fault", "(I)I"⟩
abbrev bK_fault : ByteArray := prog_1_method_5_code
def yE_latestFault : MethodName := ⟨"PolynomialDesk$Reader", "latestFault", "()I"⟩
abbrev bE_latestFault : ByteArray := prog_3_method_3_code
def yE_latestPlace : MethodName := ⟨"PolynomialDesk$Reader", "latestPlace", "()I"⟩
abbrev bE_latestPlace : ByteArray := prog_3_method_4_code
def yK_about : MethodName := ⟨"PolynomialDesk", "about", "(II)I"⟩
abbrev bK_about : ByteArray := prog_1_method_11_code
def yK_isPolynomial : MethodName := ⟨"PolynomialDesk", "isPolynomial", "(I)Z"⟩
abbrev bK_isPolynomial : ByteArray := prog_1_method_15_code
def yR_countTerms : MethodName := ⟨"PolynomialDesk$Ring", "countTerms", "([I)I"⟩
abbrev bR_countTerms : ByteArray := prog_4_method_7_code
def yR_degreeOf : MethodName := ⟨"PolynomialDesk$Ring", "degreeOf", "([I)I"⟩
abbrev bR_degreeOf : ByteArray := prog_4_method_9_code
def yR_leadingOf : MethodName := ⟨"PolynomialDesk$Ring", "leadingOf", "([I)I"⟩
abbrev bR_leadingOf : ByteArray := prog_4_method_23_code
def yK_term : MethodName := ⟨"PolynomialDesk", "term", "(III)I"⟩
abbrev bK_term : ByteArray := prog_1_method_12_code
def yR_indexOfTerm : MethodName := ⟨"PolynomialDesk$Ring", "indexOfTerm", "([II)I"⟩
abbrev bR_indexOfTerm : ByteArray := prog_4_method_8_code
def yR_exponentOf : MethodName := ⟨"PolynomialDesk$Ring", "exponentOf", "(II)I"⟩
abbrev bR_exponentOf : ByteArray := prog_4_method_6_code
def yK_output : MethodName := ⟨"PolynomialDesk", "output", "(I)I"⟩
abbrev bK_output : ByteArray := prog_1_method_14_code
def yP_byteAt : MethodName := ⟨"PolynomialDesk$Printer", "byteAt", "(I)I"⟩
abbrev bP_byteAt : ByteArray := prog_2_method_3_code
def yL_field : MethodName := ⟨"PolynomialDeskLaw", "field", "(LPolynomialDesk;III)I"⟩
abbrev bL_field : ByteArray := method_3_code
def yK_field : MethodName := ⟨"PolynomialDesk", "field", "(III)V"⟩
abbrev bK_field : ByteArray := prog_1_method_2_code
def yK_isPrime : MethodName := ⟨"PolynomialDesk", "isPrime", "(I)Z"⟩
abbrev bK_isPrime : ByteArray := prog_1_method_18_code
def yP_clear : MethodName := ⟨"PolynomialDesk$Printer", "clear", "()V"⟩
abbrev bP_clear : ByteArray := prog_2_method_2_code
def yL_read : MethodName := ⟨"PolynomialDeskLaw", "read", "(LPolynomialDesk;I[J)I"⟩
abbrev bL_read : ByteArray := method_4_code
def yK_read : MethodName := ⟨"PolynomialDesk", "read", "(I)I"⟩
abbrev bK_read : ByteArray := prog_1_method_4_code
def yK_requirePolynomial : MethodName := ⟨"PolynomialDesk", "requirePolynomial", "(I)V"⟩
abbrev bK_requirePolynomial : ByteArray := prog_1_method_16_code
def yE_readText : MethodName := ⟨"PolynomialDesk$Reader", "readText", "([I)Z"⟩
abbrev bE_readText : ByteArray := prog_3_method_5_code
def yE_readSum : MethodName := ⟨"PolynomialDesk$Reader", "readSum", "(I)V"⟩
abbrev bE_readSum : ByteArray := prog_3_method_6_code
def yE_nextByte : MethodName := ⟨"PolynomialDesk$Reader", "nextByte", "()I"⟩
abbrev bE_nextByte : ByteArray := prog_3_method_12_code
def yE_readTerm : MethodName := ⟨"PolynomialDesk$Reader", "readTerm", "(I)V"⟩
abbrev bE_readTerm : ByteArray := prog_3_method_7_code
def yE_readFactor : MethodName := ⟨"PolynomialDesk$Reader", "readFactor", "(I)V"⟩
abbrev bE_readFactor : ByteArray := prog_3_method_8_code
def yE_readBareFactor : MethodName := ⟨"PolynomialDesk$Reader", "readBareFactor", "(I)V"⟩
abbrev bE_readBareFactor : ByteArray := prog_3_method_9_code
def yE_variableOf : MethodName := ⟨"PolynomialDesk$Reader", "variableOf", "(I)I"⟩
abbrev bE_variableOf : ByteArray := prog_3_method_16_code
def yE_isDigit : MethodName := ⟨"PolynomialDesk$Reader", "isDigit", "(I)Z"⟩
abbrev bE_isDigit : ByteArray := prog_3_method_15_code
def yE_readNumber : MethodName := ⟨"PolynomialDesk$Reader", "readNumber", "(I)I"⟩
abbrev bE_readNumber : ByteArray := prog_3_method_11_code
def yE_noteFault : MethodName := ⟨"PolynomialDesk$Reader", "noteFault", "(II)V"⟩
abbrev bE_noteFault : ByteArray := prog_3_method_13_code
def yR_writeNumber : MethodName := ⟨"PolynomialDesk$Ring", "writeNumber", "(I[I)V"⟩
abbrev bR_writeNumber : ByteArray := prog_4_method_12_code
def yR_reduce : MethodName := ⟨"PolynomialDesk$Ring", "reduce", "(I)I"⟩
abbrev bR_reduce : ByteArray := prog_4_method_24_code
def yR_addAt : MethodName := ⟨"PolynomialDesk$Ring", "addAt", "(II[I)V"⟩
abbrev bR_addAt : ByteArray := prog_4_method_22_code
def yR_variables : MethodName := ⟨"PolynomialDesk$Ring", "variables", "()I"⟩
abbrev bR_variables : ByteArray := prog_4_method_5_code
def yR_writeVariable : MethodName := ⟨"PolynomialDesk$Ring", "writeVariable", "(I[I)V"⟩
abbrev bR_writeVariable : ByteArray := prog_4_method_13_code
def yE_readGroup : MethodName := ⟨"PolynomialDesk$Reader", "readGroup", "(I)V"⟩
abbrev bE_readGroup : ByteArray := prog_3_method_10_code
def yR_writeCopy : MethodName := ⟨"PolynomialDesk$Ring", "writeCopy", "([I[I)V"⟩
abbrev bR_writeCopy : ByteArray := prog_4_method_14_code
def yR_isPowerTooHigh : MethodName := ⟨"PolynomialDesk$Ring", "isPowerTooHigh", "([II)Z"⟩
abbrev bR_isPowerTooHigh : ByteArray := prog_4_method_11_code
def yR_writePower : MethodName := ⟨"PolynomialDesk$Ring", "writePower", "([II[I)V"⟩
abbrev bR_writePower : ByteArray := prog_4_method_17_code
def yR_writeProduct : MethodName := ⟨"PolynomialDesk$Ring", "writeProduct", "([I[I[I)V"⟩
abbrev bR_writeProduct : ByteArray := prog_4_method_16_code
def yR_isProductTooHigh : MethodName := ⟨"PolynomialDesk$Ring", "isProductTooHigh", "([I[I)Z"⟩
abbrev bR_isProductTooHigh : ByteArray := prog_4_method_10_code
def yR_writeSum : MethodName := ⟨"PolynomialDesk$Ring", "writeSum", "([II[I[I)V"⟩
abbrev bR_writeSum : ByteArray := prog_4_method_15_code
def yE_isSign : MethodName := ⟨"PolynomialDesk$Reader", "isSign", "(I)Z"⟩
abbrev bE_isSign : ByteArray := prog_3_method_14_code
def yL_add : MethodName := ⟨"PolynomialDeskLaw", "add", "(LPolynomialDesk;IIII)I"⟩
abbrev bL_add : ByteArray := method_5_code
def yK_add : MethodName := ⟨"PolynomialDesk", "add", "(IIII)V"⟩
abbrev bK_add : ByteArray := prog_1_method_6_code
def yL_multiply : MethodName := ⟨"PolynomialDeskLaw", "multiply", "(LPolynomialDesk;III)I"⟩
abbrev bL_multiply : ByteArray := method_6_code
def yK_multiply : MethodName := ⟨"PolynomialDesk", "multiply", "(III)V"⟩
abbrev bK_multiply : ByteArray := prog_1_method_7_code
def yL_derive : MethodName := ⟨"PolynomialDeskLaw", "derive", "(LPolynomialDesk;III)I"⟩
abbrev bL_derive : ByteArray := method_7_code
def yK_derive : MethodName := ⟨"PolynomialDesk", "derive", "(III)V"⟩
abbrev bK_derive : ByteArray := prog_1_method_8_code
def yK_requireVariable : MethodName := ⟨"PolynomialDesk", "requireVariable", "(I)V"⟩
abbrev bK_requireVariable : ByteArray := prog_1_method_17_code
def yR_writeDerivative : MethodName := ⟨"PolynomialDesk$Ring", "writeDerivative", "([II[I)V"⟩
abbrev bR_writeDerivative : ByteArray := prog_4_method_18_code
def yL_set : MethodName := ⟨"PolynomialDeskLaw", "set", "(LPolynomialDesk;IIII)I"⟩
abbrev bL_set : ByteArray := method_8_code
def yK_set : MethodName := ⟨"PolynomialDesk", "set", "(IIII)V"⟩
abbrev bK_set : ByteArray := prog_1_method_9_code
def yR_writeSubstitute : MethodName := ⟨"PolynomialDesk$Ring", "writeSubstitute", "([III[I)V"⟩
abbrev bR_writeSubstitute : ByteArray := prog_4_method_19_code
def yR_timesPower : MethodName := ⟨"PolynomialDesk$Ring", "timesPower", "(III)I"⟩
abbrev bR_timesPower : ByteArray := prog_4_method_21_code
def yL_value : MethodName := ⟨"PolynomialDeskLaw", "value", "(LPolynomialDesk;IIIII[J)I"⟩
abbrev bL_value : ByteArray := method_9_code
def yK_value : MethodName := ⟨"PolynomialDesk", "value", "(IIIII)I"⟩
abbrev bK_value : ByteArray := prog_1_method_10_code
def yR_evaluate : MethodName := ⟨"PolynomialDesk$Ring", "evaluate", "([I[I)I"⟩
abbrev bR_evaluate : ByteArray := prog_4_method_20_code
def yL_print : MethodName := ⟨"PolynomialDeskLaw", "print", "(LPolynomialDesk;I[J)I"⟩
abbrev bL_print : ByteArray := method_10_code
def yK_print : MethodName := ⟨"PolynomialDesk", "print", "(I)I"⟩
abbrev bK_print : ByteArray := prog_1_method_13_code
def yP_writePolynomial : MethodName := ⟨"PolynomialDesk$Printer", "writePolynomial", "([I)I"⟩
abbrev bP_writePolynomial : ByteArray := prog_2_method_4_code
def yP_writeByte : MethodName := ⟨"PolynomialDesk$Printer", "writeByte", "(C)V"⟩
abbrev bP_writeByte : ByteArray := prog_2_method_7_code
def yP_writeTerm : MethodName := ⟨"PolynomialDesk$Printer", "writeTerm", "(II)V"⟩
abbrev bP_writeTerm : ByteArray := prog_2_method_5_code
def yP_writeNumber : MethodName := ⟨"PolynomialDesk$Printer", "writeNumber", "(I)V"⟩
abbrev bP_writeNumber : ByteArray := prog_2_method_6_code
def yM_init : MethodName := ⟨"PolynomialDeskModel", "<init>", "()V"⟩
abbrev bM_init : ByteArray := prog_6_method_1_code
def yM_prepare : MethodName := ⟨"PolynomialDeskModel", "prepare", "(III)V"⟩
abbrev bM_prepare : ByteArray := prog_6_method_4_code
def yM_list : MethodName := ⟨"PolynomialDeskModel", "list", "(I)V"⟩
abbrev bM_list : ByteArray := prog_6_method_5_code
def yM_isGreater : MethodName := ⟨"PolynomialDeskModel", "isGreater", "(II)Z"⟩
abbrev bM_isGreater : ByteArray := prog_6_method_6_code
def yM_thrown : MethodName := ⟨"PolynomialDeskModel", "thrown", "()I"⟩
abbrev bM_thrown : ByteArray := prog_6_method_2_code
def yM_field : MethodName := ⟨"PolynomialDeskModel", "field", "(III)V"⟩
abbrev bM_field : ByteArray := prog_6_method_7_code
def yM_isPrime : MethodName := ⟨"PolynomialDeskModel", "isPrime", "(I)Z"⟩
abbrev bM_isPrime : ByteArray := prog_6_method_3_code
def yM_put : MethodName := ⟨"PolynomialDeskModel", "put", "(JI)Z"⟩
abbrev bM_put : ByteArray := prog_6_method_18_code
def yM_read : MethodName := ⟨"PolynomialDeskModel", "read", "(I)I"⟩
abbrev bM_read : ByteArray := prog_6_method_31_code
def yM_isPolynomial : MethodName := ⟨"PolynomialDeskModel", "isPolynomial", "(I)Z"⟩
abbrev bM_isPolynomial : ByteArray := prog_6_method_33_code
def yM_begin : MethodName := ⟨"PolynomialDeskModel", "begin", "()V"⟩
abbrev bM_begin : ByteArray := prog_6_method_27_code
def yM_sum : MethodName := ⟨"PolynomialDeskModel", "sum", "()I"⟩
abbrev bM_sum : ByteArray := prog_6_method_19_code
def yM_clear : MethodName := ⟨"PolynomialDeskModel", "clear", "(I)V"⟩
abbrev bM_clear : ByteArray := prog_6_method_11_code
def yM_lay : MethodName := ⟨"PolynomialDeskModel", "lay", "(III)V"⟩
abbrev bM_lay : ByteArray := prog_6_method_10_code
def yM_here : MethodName := ⟨"PolynomialDeskModel", "here", "()I"⟩
abbrev bM_here : ByteArray := prog_6_method_22_code
def yM_readFactor : MethodName := ⟨"PolynomialDeskModel", "readFactor", "(I)V"⟩
abbrev bM_readFactor : ByteArray := prog_6_method_28_code
def yM_fail : MethodName := ⟨"PolynomialDeskModel", "fail", "(II)V"⟩
abbrev bM_fail : ByteArray := prog_6_method_23_code
def yM_variable : MethodName := ⟨"PolynomialDeskModel", "variable", "(I)I"⟩
abbrev bM_variable : ByteArray := prog_6_method_26_code
def yM_isDigit : MethodName := ⟨"PolynomialDeskModel", "isDigit", "(I)Z"⟩
abbrev bM_isDigit : ByteArray := prog_6_method_24_code
def yM_factor : MethodName := ⟨"PolynomialDeskModel", "factor", "()I"⟩
abbrev bM_factor : ByteArray := prog_6_method_21_code
def yM_number : MethodName := ⟨"PolynomialDeskModel", "number", "(I)J"⟩
abbrev bM_number : ByteArray := prog_6_method_25_code
def yM_modulo : MethodName := ⟨"PolynomialDeskModel", "modulo", "(J)I"⟩
abbrev bM_modulo : ByteArray := prog_6_method_8_code
def yM_readPower : MethodName := ⟨"PolynomialDeskModel", "readPower", "(I)V"⟩
abbrev bM_readPower : ByteArray := prog_6_method_29_code
def yM_degreeOf : MethodName := ⟨"PolynomialDeskModel", "degreeOf", "(I)I"⟩
abbrev bM_degreeOf : ByteArray := prog_6_method_13_code
def yM_cell : MethodName := ⟨"PolynomialDeskModel", "cell", "(II)I"⟩
abbrev bM_cell : ByteArray := prog_6_method_9_code
def yM_times : MethodName := ⟨"PolynomialDeskModel", "times", "(III)V"⟩
abbrev bM_times : ByteArray := prog_6_method_17_code
def yM_copy : MethodName := ⟨"PolynomialDeskModel", "copy", "(II)V"⟩
abbrev bM_copy : ByteArray := prog_6_method_12_code
def yM_goOn : MethodName := ⟨"PolynomialDeskModel", "goOn", "(I)V"⟩
abbrev bM_goOn : ByteArray := prog_6_method_30_code
def yM_product : MethodName := ⟨"PolynomialDeskModel", "product", "()I"⟩
abbrev bM_product : ByteArray := prog_6_method_20_code
def yM_isTooHigh : MethodName := ⟨"PolynomialDeskModel", "isTooHigh", "(II)Z"⟩
abbrev bM_isTooHigh : ByteArray := prog_6_method_16_code
def yM_addTo : MethodName := ⟨"PolynomialDeskModel", "addTo", "(III)V"⟩
abbrev bM_addTo : ByteArray := prog_6_method_15_code
def yM_terms : MethodName := ⟨"PolynomialDeskModel", "terms", "(I)I"⟩
abbrev bM_terms : ByteArray := prog_6_method_14_code
def yM_fault : MethodName := ⟨"PolynomialDeskModel", "fault", "(I)I"⟩
abbrev bM_fault : ByteArray := prog_6_method_32_code
def yM_add : MethodName := ⟨"PolynomialDeskModel", "add", "(IIII)V"⟩
abbrev bM_add : ByteArray := prog_6_method_35_code
def yM_lacks : MethodName := ⟨"PolynomialDeskModel", "lacks", "(IIZ)Z"⟩
abbrev bM_lacks : ByteArray := prog_6_method_34_code
def yM_multiply : MethodName := ⟨"PolynomialDeskModel", "multiply", "(III)V"⟩
abbrev bM_multiply : ByteArray := prog_6_method_36_code
def yM_derive : MethodName := ⟨"PolynomialDeskModel", "derive", "(III)V"⟩
abbrev bM_derive : ByteArray := prog_6_method_37_code
def yM_set : MethodName := ⟨"PolynomialDeskModel", "set", "(IIII)V"⟩
abbrev bM_set : ByteArray := prog_6_method_39_code
def yM_power : MethodName := ⟨"PolynomialDeskModel", "power", "(II)I"⟩
abbrev bM_power : ByteArray := prog_6_method_38_code
def yM_value : MethodName := ⟨"PolynomialDeskModel", "value", "(IIIII)I"⟩
abbrev bM_value : ByteArray := prog_6_method_40_code
def yM_about : MethodName := ⟨"PolynomialDeskModel", "about", "(II)I"⟩
abbrev bM_about : ByteArray := prog_6_method_41_code
def yM_term : MethodName := ⟨"PolynomialDeskModel", "term", "(III)I"⟩
abbrev bM_term : ByteArray := prog_6_method_43_code
def yM_placeOf : MethodName := ⟨"PolynomialDeskModel", "placeOf", "(II)I"⟩
abbrev bM_placeOf : ByteArray := prog_6_method_42_code
def yM_print : MethodName := ⟨"PolynomialDeskModel", "print", "(I)I"⟩
abbrev bM_print : ByteArray := prog_6_method_47_code
def yM_say : MethodName := ⟨"PolynomialDeskModel", "say", "(I)V"⟩
abbrev bM_say : ByteArray := prog_6_method_44_code
def yM_sayTerm : MethodName := ⟨"PolynomialDeskModel", "sayTerm", "(II)V"⟩
abbrev bM_sayTerm : ByteArray := prog_6_method_46_code
def yM_sayNumber : MethodName := ⟨"PolynomialDeskModel", "sayNumber", "(I)V"⟩
abbrev bM_sayNumber : ByteArray := prog_6_method_45_code
def yM_output : MethodName := ⟨"PolynomialDeskModel", "output", "(I)I"⟩
abbrev bM_output : ByteArray := prog_6_method_48_code
abbrev bL_law : ByteArray := code
abbrev kK_init : Cond := .code yK_init bK_init 1 none
theorem mk_K_init : kK_init ∈ zT := zT_in (List.mem_append_right _ (List.mem_append_left _ (List.mem_of_getElem? (l := tables_1_1) (i := 22) rfl))) rfl
abbrev wK_init : List Cond := kK_init :: zT
abbrev kR_init : Cond := .code yR_init bR_init 1 none
theorem mk_R_init : kR_init ∈ zT := zT_in (List.mem_append_right _ (List.mem_append_left _ (List.mem_of_getElem? (l := tables_1_1) (i := 30) rfl))) rfl
abbrev wR_init : List Cond := kR_init :: zT
abbrev kR_prepare : Cond := .code yR_prepare bR_prepare 6 none
theorem mk_R_prepare : kR_prepare ∈ zT := zT_in (List.mem_append_right _ (List.mem_append_left _ (List.mem_of_getElem? (l := tables_1_1) (i := 78) rfl))) rfl
abbrev wR_prepare : List Cond := kR_prepare :: zT
abbrev kJ_fill : Cond := .code yJ_fill bJ_fill 4 none
theorem mk_J_fill : kJ_fill ∈ zT := zT_in (List.mem_append_right _ (List.mem_append_left _ (List.mem_of_getElem? (l := tables_1_1) (i := 83) rfl))) rfl
abbrev wJ_fill : List Cond := kJ_fill :: zT
abbrev kR_listMonomials : Cond := .code yR_listMonomials bR_listMonomials 7 none
theorem mk_R_listMonomials : kR_listMonomials ∈ zT := zT_in (List.mem_append_right _ (List.mem_append_left _ (List.mem_of_getElem? (l := tables_1_1) (i := 87) rfl))) rfl
abbrev wR_listMonomials : List Cond := kR_listMonomials :: zT
abbrev kR_recordMonomial : Cond := .code yR_recordMonomial bR_recordMonomial 4 none
theorem mk_R_recordMonomial : kR_recordMonomial ∈ zT := zT_in (List.mem_append_right _ (List.mem_append_left _ (List.mem_of_getElem? (l := tables_1_1) (i := 91) rfl))) rfl
abbrev wR_recordMonomial : List Cond := kR_recordMonomial :: zT
abbrev kE_init : Cond := .code yE_init bE_init 2 none
theorem mk_E_init : kE_init ∈ zT := zT_in (List.mem_append_right _ (List.mem_append_left _ (List.mem_of_getElem? (l := tables_1_1) (i := 96) rfl))) rfl
abbrev wE_init : List Cond := kE_init :: zT
abbrev kP_init : Cond := .code yP_init bP_init 2 none
theorem mk_P_init : kP_init ∈ zT := zT_in (List.mem_append_right _ (List.mem_append_left _ (List.mem_of_getElem? (l := tables_1_1) (i := 132) rfl))) rfl
abbrev wP_init : List Cond := kP_init :: zT
abbrev kK_put : Cond := .code yK_put bK_put 4 (some .boolean)
theorem mk_K_put : kK_put ∈ zT := zT_in (List.mem_append_right _ (List.mem_append_left _ (List.mem_of_getElem? (l := tables_1_1) (i := 164) rfl))) rfl
abbrev wK_put : List Cond := kK_put :: zT
abbrev kE_takeBytes : Cond := .code yE_takeBytes bE_takeBytes 5 (some .boolean)
theorem mk_E_takeBytes : kE_takeBytes ∈ zT := zT_in (List.mem_append_right _ (List.mem_append_left _ (List.mem_of_getElem? (l := tables_1_1) (i := 168) rfl))) rfl
abbrev wE_takeBytes : List Cond := kE_takeBytes :: zT
abbrev kK_fault : Cond := .code yK_fault bK_fault 2 (some .int)
theorem mk_K_fault : kK_fault ∈ zT := zT_in (List.mem_append_right _ (List.mem_append_left _ (List.mem_of_getElem? (l := tables_1_1) (i := 173) rfl))) rfl
abbrev wK_fault : List Cond := kK_fault :: zT
abbrev kE_latestFault : Cond := .code yE_latestFault bE_latestFault 1 (some .int)
theorem mk_E_latestFault : kE_latestFault ∈ zT := zT_in (List.mem_append_right _ (List.mem_append_left _ (List.mem_of_getElem? (l := tables_1_1) (i := 177) rfl))) rfl
abbrev wE_latestFault : List Cond := kE_latestFault :: zT
abbrev kE_latestPlace : Cond := .code yE_latestPlace bE_latestPlace 1 (some .int)
theorem mk_E_latestPlace : kE_latestPlace ∈ zT := zT_in (List.mem_append_right _ (List.mem_append_left _ (List.mem_of_getElem? (l := tables_1_1) (i := 181) rfl))) rfl
abbrev wE_latestPlace : List Cond := kE_latestPlace :: zT
abbrev kK_about : Cond := .code yK_about bK_about 3 (some .int)
theorem mk_K_about : kK_about ∈ zT := zT_in (List.mem_append_right _ (List.mem_append_left _ (List.mem_of_getElem? (l := tables_1_1) (i := 185) rfl))) rfl
abbrev wK_about : List Cond := kK_about :: zT
abbrev kK_isPolynomial : Cond := .code yK_isPolynomial bK_isPolynomial 1 (some .boolean)
theorem mk_K_isPolynomial : kK_isPolynomial ∈ zT := zT_in (List.mem_append_right _ (List.mem_append_left _ (List.mem_of_getElem? (l := tables_1_1) (i := 188) rfl))) rfl
abbrev wK_isPolynomial : List Cond := kK_isPolynomial :: zT
abbrev kR_countTerms : Cond := .code yR_countTerms bR_countTerms 4 (some .int)
theorem mk_R_countTerms : kR_countTerms ∈ zT := zT_in (List.mem_append_right _ (List.mem_append_left _ (List.mem_of_getElem? (l := tables_1_1) (i := 192) rfl))) rfl
abbrev wR_countTerms : List Cond := kR_countTerms :: zT
abbrev kR_degreeOf : Cond := .code yR_degreeOf bR_degreeOf 3 (some .int)
theorem mk_R_degreeOf : kR_degreeOf ∈ zT := zT_in (List.mem_append_right _ (List.mem_append_left _ (List.mem_of_getElem? (l := tables_1_1) (i := 196) rfl))) rfl
abbrev wR_degreeOf : List Cond := kR_degreeOf :: zT
abbrev kR_leadingOf : Cond := .code yR_leadingOf bR_leadingOf 3 (some .int)
theorem mk_R_leadingOf : kR_leadingOf ∈ zT := zT_in (List.mem_append_right _ (List.mem_append_left _ (List.mem_of_getElem? (l := tables_1_1) (i := 200) rfl))) rfl
abbrev wR_leadingOf : List Cond := kR_leadingOf :: zT
abbrev kK_term : Cond := .code yK_term bK_term 5 (some .int)
theorem mk_K_term : kK_term ∈ zT := zT_in (List.mem_append_right _ (List.mem_append_left _ (List.mem_of_getElem? (l := tables_1_1) (i := 204) rfl))) rfl
abbrev wK_term : List Cond := kK_term :: zT
abbrev kR_indexOfTerm : Cond := .code yR_indexOfTerm bR_indexOfTerm 5 (some .int)
theorem mk_R_indexOfTerm : kR_indexOfTerm ∈ zT := zT_in (List.mem_append_right _ (List.mem_append_left _ (List.mem_of_getElem? (l := tables_1_1) (i := 208) rfl))) rfl
abbrev wR_indexOfTerm : List Cond := kR_indexOfTerm :: zT
abbrev kR_exponentOf : Cond := .code yR_exponentOf bR_exponentOf 3 (some .int)
theorem mk_R_exponentOf : kR_exponentOf ∈ zT := zT_in (List.mem_append_right _ (List.mem_append_left _ (List.mem_of_getElem? (l := tables_1_1) (i := 212) rfl))) rfl
abbrev wR_exponentOf : List Cond := kR_exponentOf :: zT
abbrev kK_output : Cond := .code yK_output bK_output 2 (some .int)
theorem mk_K_output : kK_output ∈ zT := zT_in (List.mem_append_right _ (List.mem_append_left _ (List.mem_of_getElem? (l := tables_1_1) (i := 216) rfl))) rfl
abbrev wK_output : List Cond := kK_output :: zT
abbrev kP_byteAt : Cond := .code yP_byteAt bP_byteAt 2 (some .int)
theorem mk_P_byteAt : kP_byteAt ∈ zT := zT_in (List.mem_append_right _ (List.mem_append_left _ (List.mem_of_getElem? (l := tables_1_1) (i := 220) rfl))) rfl
abbrev wP_byteAt : List Cond := kP_byteAt :: zT
abbrev kL_field : Cond := .codeWith yL_field bL_field 5 (some .int) [(0, 7, 10, 13)]
abbrev kK_field : Cond := .code yK_field bK_field 5 none
theorem mk_K_field : kK_field ∈ zT := zT_in (List.mem_append_right _ (List.mem_append_left _ (List.mem_of_getElem? (l := tables_1_1) (i := 228) rfl))) rfl
abbrev wK_field : List Cond := kK_field :: zT
abbrev kK_isPrime : Cond := .code yK_isPrime bK_isPrime 2 (some .boolean)
theorem mk_K_isPrime : kK_isPrime ∈ zT := zT_in (List.mem_append_right _ (List.mem_append_left _ (List.mem_of_getElem? (l := tables_1_1) (i := 231) rfl))) rfl
abbrev wK_isPrime : List Cond := kK_isPrime :: zT
abbrev kP_clear : Cond := .code yP_clear bP_clear 1 none
theorem mk_P_clear : kP_clear ∈ zT := zT_in (List.mem_append_right _ (List.mem_append_right _ (List.mem_append_left _ (List.mem_of_getElem? (l := tables_1_2) (i := 66) rfl)))) rfl
abbrev wP_clear : List Cond := kP_clear :: zT
abbrev kL_read : Cond := .codeWith yL_read bL_read 4 (some .int) [(0, 9, 12, 19), (0, 9, 15, 13)]
abbrev kK_read : Cond := .code yK_read bK_read 2 (some .int)
theorem mk_K_read : kK_read ∈ zT := zT_in (List.mem_append_right _ (List.mem_append_right _ (List.mem_append_left _ (List.mem_of_getElem? (l := tables_1_2) (i := 74) rfl)))) rfl
abbrev wK_read : List Cond := kK_read :: zT
abbrev kK_requirePolynomial : Cond := .code yK_requirePolynomial bK_requirePolynomial 1 none
theorem mk_K_requirePolynomial : kK_requirePolynomial ∈ zT := zT_in (List.mem_append_right _ (List.mem_append_right _ (List.mem_append_left _ (List.mem_of_getElem? (l := tables_1_2) (i := 77) rfl)))) rfl
abbrev wK_requirePolynomial : List Cond := kK_requirePolynomial :: zT
abbrev kE_readText : Cond := .code yE_readText bE_readText 2 (some .boolean)
theorem mk_E_readText : kE_readText ∈ zT := zT_in (List.mem_append_right _ (List.mem_append_right _ (List.mem_append_left _ (List.mem_of_getElem? (l := tables_1_2) (i := 97) rfl)))) rfl
abbrev wE_readText : List Cond := kE_readText :: zT
abbrev kE_readSum : Cond := .code yE_readSum bE_readSum 5 none
theorem mk_E_readSum : kE_readSum ∈ zT := zT_in (List.mem_append_right _ (List.mem_append_right _ (List.mem_append_left _ (List.mem_of_getElem? (l := tables_1_2) (i := 101) rfl)))) rfl
abbrev wE_readSum : List Cond := kE_readSum :: zT
abbrev kE_nextByte : Cond := .code yE_nextByte bE_nextByte 1 (some .int)
theorem mk_E_nextByte : kE_nextByte ∈ zT := zT_in (List.mem_append_right _ (List.mem_append_right _ (List.mem_append_left _ (List.mem_of_getElem? (l := tables_1_2) (i := 106) rfl)))) rfl
abbrev wE_nextByte : List Cond := kE_nextByte :: zT
abbrev kE_readTerm : Cond := .code yE_readTerm bE_readTerm 5 none
theorem mk_E_readTerm : kE_readTerm ∈ zT := zT_in (List.mem_append_right _ (List.mem_append_right _ (List.mem_append_left _ (List.mem_of_getElem? (l := tables_1_2) (i := 110) rfl)))) rfl
abbrev wE_readTerm : List Cond := kE_readTerm :: zT
abbrev kE_readFactor : Cond := .code yE_readFactor bE_readFactor 4 none
theorem mk_E_readFactor : kE_readFactor ∈ zT := zT_in (List.mem_append_right _ (List.mem_append_right _ (List.mem_append_left _ (List.mem_of_getElem? (l := tables_1_2) (i := 114) rfl)))) rfl
abbrev wE_readFactor : List Cond := kE_readFactor :: zT
abbrev kE_readBareFactor : Cond := .code yE_readBareFactor bE_readBareFactor 4 none
theorem mk_E_readBareFactor : kE_readBareFactor ∈ zT := zT_in (List.mem_append_right _ (List.mem_append_right _ (List.mem_append_left _ (List.mem_of_getElem? (l := tables_1_2) (i := 118) rfl)))) rfl
abbrev wE_readBareFactor : List Cond := kE_readBareFactor :: zT
abbrev kE_variableOf : Cond := .code yE_variableOf bE_variableOf 1 (some .int)
theorem mk_E_variableOf : kE_variableOf ∈ zT := zT_in (List.mem_append_right _ (List.mem_append_right _ (List.mem_append_left _ (List.mem_of_getElem? (l := tables_1_2) (i := 121) rfl)))) rfl
abbrev wE_variableOf : List Cond := kE_variableOf :: zT
abbrev kE_isDigit : Cond := .code yE_isDigit bE_isDigit 1 (some .boolean)
theorem mk_E_isDigit : kE_isDigit ∈ zT := zT_in (List.mem_append_right _ (List.mem_append_right _ (List.mem_append_left _ (List.mem_of_getElem? (l := tables_1_2) (i := 124) rfl)))) rfl
abbrev wE_isDigit : List Cond := kE_isDigit :: zT
abbrev kE_readNumber : Cond := .code yE_readNumber bE_readNumber 4 (some .int)
theorem mk_E_readNumber : kE_readNumber ∈ zT := zT_in (List.mem_append_right _ (List.mem_append_right _ (List.mem_append_left _ (List.mem_of_getElem? (l := tables_1_2) (i := 128) rfl)))) rfl
abbrev wE_readNumber : List Cond := kE_readNumber :: zT
abbrev kE_noteFault : Cond := .code yE_noteFault bE_noteFault 3 none
theorem mk_E_noteFault : kE_noteFault ∈ zT := zT_in (List.mem_append_right _ (List.mem_append_right _ (List.mem_append_left _ (List.mem_of_getElem? (l := tables_1_2) (i := 132) rfl)))) rfl
abbrev wE_noteFault : List Cond := kE_noteFault :: zT
abbrev kR_writeNumber : Cond := .code yR_writeNumber bR_writeNumber 3 none
theorem mk_R_writeNumber : kR_writeNumber ∈ zT := zT_in (List.mem_append_right _ (List.mem_append_right _ (List.mem_append_left _ (List.mem_of_getElem? (l := tables_1_2) (i := 136) rfl)))) rfl
abbrev wR_writeNumber : List Cond := kR_writeNumber :: zT
abbrev kR_reduce : Cond := .code yR_reduce bR_reduce 3 (some .int)
theorem mk_R_reduce : kR_reduce ∈ zT := zT_in (List.mem_append_right _ (List.mem_append_right _ (List.mem_append_left _ (List.mem_of_getElem? (l := tables_1_2) (i := 140) rfl)))) rfl
abbrev wR_reduce : List Cond := kR_reduce :: zT
abbrev kR_addAt : Cond := .code yR_addAt bR_addAt 5 none
theorem mk_R_addAt : kR_addAt ∈ zT := zT_in (List.mem_append_right _ (List.mem_append_right _ (List.mem_append_left _ (List.mem_of_getElem? (l := tables_1_2) (i := 144) rfl)))) rfl
abbrev wR_addAt : List Cond := kR_addAt :: zT
abbrev kR_variables : Cond := .code yR_variables bR_variables 1 (some .int)
theorem mk_R_variables : kR_variables ∈ zT := zT_in (List.mem_append_right _ (List.mem_append_right _ (List.mem_append_left _ (List.mem_of_getElem? (l := tables_1_2) (i := 148) rfl)))) rfl
abbrev wR_variables : List Cond := kR_variables :: zT
abbrev kR_writeVariable : Cond := .code yR_writeVariable bR_writeVariable 3 none
theorem mk_R_writeVariable : kR_writeVariable ∈ zT := zT_in (List.mem_append_right _ (List.mem_append_right _ (List.mem_append_left _ (List.mem_of_getElem? (l := tables_1_2) (i := 152) rfl)))) rfl
abbrev wR_writeVariable : List Cond := kR_writeVariable :: zT
abbrev kE_readGroup : Cond := .code yE_readGroup bE_readGroup 2 none
theorem mk_E_readGroup : kE_readGroup ∈ zT := zT_in (List.mem_append_right _ (List.mem_append_right _ (List.mem_append_left _ (List.mem_of_getElem? (l := tables_1_2) (i := 156) rfl)))) rfl
abbrev wE_readGroup : List Cond := kE_readGroup :: zT
abbrev kR_writeCopy : Cond := .code yR_writeCopy bR_writeCopy 3 none
theorem mk_R_writeCopy : kR_writeCopy ∈ zT := zT_in (List.mem_append_right _ (List.mem_append_right _ (List.mem_append_left _ (List.mem_of_getElem? (l := tables_1_2) (i := 160) rfl)))) rfl
abbrev wR_writeCopy : List Cond := kR_writeCopy :: zT
abbrev kR_isPowerTooHigh : Cond := .code yR_isPowerTooHigh bR_isPowerTooHigh 4 (some .boolean)
theorem mk_R_isPowerTooHigh : kR_isPowerTooHigh ∈ zT := zT_in (List.mem_append_right _ (List.mem_append_right _ (List.mem_append_left _ (List.mem_of_getElem? (l := tables_1_2) (i := 167) rfl)))) rfl
abbrev wR_isPowerTooHigh : List Cond := kR_isPowerTooHigh :: zT
abbrev kR_writePower : Cond := .code yR_writePower bR_writePower 5 none
theorem mk_R_writePower : kR_writePower ∈ zT := zT_in (List.mem_append_right _ (List.mem_append_right _ (List.mem_append_left _ (List.mem_of_getElem? (l := tables_1_2) (i := 172) rfl)))) rfl
abbrev wR_writePower : List Cond := kR_writePower :: zT
abbrev kR_writeProduct : Cond := .code yR_writeProduct bR_writeProduct 7 none
theorem mk_R_writeProduct : kR_writeProduct ∈ zT := zT_in (List.mem_append_right _ (List.mem_append_right _ (List.mem_append_left _ (List.mem_of_getElem? (l := tables_1_2) (i := 177) rfl)))) rfl
abbrev wR_writeProduct : List Cond := kR_writeProduct :: zT
abbrev kR_isProductTooHigh : Cond := .code yR_isProductTooHigh bR_isProductTooHigh 5 (some .boolean)
theorem mk_R_isProductTooHigh : kR_isProductTooHigh ∈ zT := zT_in (List.mem_append_right _ (List.mem_append_right _ (List.mem_append_left _ (List.mem_of_getElem? (l := tables_1_2) (i := 181) rfl)))) rfl
abbrev wR_isProductTooHigh : List Cond := kR_isProductTooHigh :: zT
abbrev kR_writeSum : Cond := .code yR_writeSum bR_writeSum 7 none
theorem mk_R_writeSum : kR_writeSum ∈ zT := zT_in (List.mem_append_right _ (List.mem_append_right _ (List.mem_append_left _ (List.mem_of_getElem? (l := tables_1_2) (i := 186) rfl)))) rfl
abbrev wR_writeSum : List Cond := kR_writeSum :: zT
abbrev kE_isSign : Cond := .code yE_isSign bE_isSign 1 (some .boolean)
theorem mk_E_isSign : kE_isSign ∈ zT := zT_in (List.mem_append_right _ (List.mem_append_right _ (List.mem_append_left _ (List.mem_of_getElem? (l := tables_1_2) (i := 189) rfl)))) rfl
abbrev wE_isSign : List Cond := kE_isSign :: zT
abbrev kL_add : Cond := .codeWith yL_add bL_add 6 (some .int) [(0, 9, 12, 19)]
abbrev kK_add : Cond := .code yK_add bK_add 5 none
theorem mk_K_add : kK_add ∈ zT := zT_in (List.mem_append_right _ (List.mem_append_right _ (List.mem_append_left _ (List.mem_of_getElem? (l := tables_1_2) (i := 197) rfl)))) rfl
abbrev wK_add : List Cond := kK_add :: zT
abbrev kL_multiply : Cond := .codeWith yL_multiply bL_multiply 5 (some .int) [(0, 7, 10, 19), (0, 7, 14, 28)]
abbrev kK_multiply : Cond := .code yK_multiply bK_multiply 4 none
theorem mk_K_multiply : kK_multiply ∈ zT := zT_in (List.mem_append_right _ (List.mem_append_right _ (List.mem_append_left _ (List.mem_of_getElem? (l := tables_1_2) (i := 206) rfl)))) rfl
abbrev wK_multiply : List Cond := kK_multiply :: zT
abbrev kL_derive : Cond := .codeWith yL_derive bL_derive 5 (some .int) [(0, 7, 10, 19)]
abbrev kK_derive : Cond := .code yK_derive bK_derive 4 none
theorem mk_K_derive : kK_derive ∈ zT := zT_in (List.mem_append_right _ (List.mem_append_right _ (List.mem_append_left _ (List.mem_of_getElem? (l := tables_1_2) (i := 231) rfl)))) rfl
abbrev wK_derive : List Cond := kK_derive :: zT
abbrev kK_requireVariable : Cond := .code yK_requireVariable bK_requireVariable 2 none
theorem mk_K_requireVariable : kK_requireVariable ∈ zT := zT_in (List.mem_append_right _ (List.mem_append_right _ (List.mem_append_left _ (List.mem_of_getElem? (l := tables_1_2) (i := 235) rfl)))) rfl
abbrev wK_requireVariable : List Cond := kK_requireVariable :: zT
abbrev kR_writeDerivative : Cond := .code yR_writeDerivative bR_writeDerivative 6 none
theorem mk_R_writeDerivative : kR_writeDerivative ∈ zT := zT_in (List.mem_append_right _ (List.mem_append_right _ (List.mem_append_right _ (List.mem_append_left _ (List.mem_of_getElem? (l := tables_1_3) (i := 1) rfl))))) rfl
abbrev wR_writeDerivative : List Cond := kR_writeDerivative :: zT
abbrev kL_set : Cond := .codeWith yL_set bL_set 6 (some .int) [(0, 9, 12, 19)]
abbrev kK_set : Cond := .code yK_set bK_set 5 none
theorem mk_K_set : kK_set ∈ zT := zT_in (List.mem_append_right _ (List.mem_append_right _ (List.mem_append_right _ (List.mem_append_left _ (List.mem_of_getElem? (l := tables_1_3) (i := 9) rfl))))) rfl
abbrev wK_set : List Cond := kK_set :: zT
abbrev kR_writeSubstitute : Cond := .code yR_writeSubstitute bR_writeSubstitute 8 none
theorem mk_R_writeSubstitute : kR_writeSubstitute ∈ zT := zT_in (List.mem_append_right _ (List.mem_append_right _ (List.mem_append_right _ (List.mem_append_left _ (List.mem_of_getElem? (l := tables_1_3) (i := 13) rfl))))) rfl
abbrev wR_writeSubstitute : List Cond := kR_writeSubstitute :: zT
abbrev kR_timesPower : Cond := .code yR_timesPower bR_timesPower 6 (some .int)
theorem mk_R_timesPower : kR_timesPower ∈ zT := zT_in (List.mem_append_right _ (List.mem_append_right _ (List.mem_append_right _ (List.mem_append_left _ (List.mem_of_getElem? (l := tables_1_3) (i := 17) rfl))))) rfl
abbrev wR_timesPower : List Cond := kR_timesPower :: zT
abbrev kL_value : Cond := .codeWith yL_value bL_value 8 (some .int) [(0, 16, 19, 19)]
abbrev kK_value : Cond := .code yK_value bK_value 6 (some .int)
theorem mk_K_value : kK_value ∈ zT := zT_in (List.mem_append_right _ (List.mem_append_right _ (List.mem_append_right _ (List.mem_append_left _ (List.mem_of_getElem? (l := tables_1_3) (i := 24) rfl))))) rfl
abbrev wK_value : List Cond := kK_value :: zT
abbrev kR_evaluate : Cond := .code yR_evaluate bR_evaluate 7 (some .int)
theorem mk_R_evaluate : kR_evaluate ∈ zT := zT_in (List.mem_append_right _ (List.mem_append_right _ (List.mem_append_right _ (List.mem_append_left _ (List.mem_of_getElem? (l := tables_1_3) (i := 28) rfl))))) rfl
abbrev wR_evaluate : List Cond := kR_evaluate :: zT
abbrev kL_print : Cond := .codeWith yL_print bL_print 4 (some .int) [(0, 9, 12, 19)]
abbrev kK_print : Cond := .code yK_print bK_print 2 (some .int)
theorem mk_K_print : kK_print ∈ zT := zT_in (List.mem_append_right _ (List.mem_append_right _ (List.mem_append_right _ (List.mem_append_left _ (List.mem_of_getElem? (l := tables_1_3) (i := 35) rfl))))) rfl
abbrev wK_print : List Cond := kK_print :: zT
abbrev kP_writePolynomial : Cond := .code yP_writePolynomial bP_writePolynomial 3 (some .int)
theorem mk_P_writePolynomial : kP_writePolynomial ∈ zT := zT_in (List.mem_append_right _ (List.mem_append_right _ (List.mem_append_right _ (List.mem_append_left _ (List.mem_of_getElem? (l := tables_1_3) (i := 39) rfl))))) rfl
abbrev wP_writePolynomial : List Cond := kP_writePolynomial :: zT
abbrev kP_writeByte : Cond := .code yP_writeByte bP_writeByte 2 none
theorem mk_P_writeByte : kP_writeByte ∈ zT := zT_in (List.mem_append_right _ (List.mem_append_right _ (List.mem_append_right _ (List.mem_append_left _ (List.mem_of_getElem? (l := tables_1_3) (i := 44) rfl))))) rfl
abbrev wP_writeByte : List Cond := kP_writeByte :: zT
abbrev kP_writeTerm : Cond := .code yP_writeTerm bP_writeTerm 6 none
theorem mk_P_writeTerm : kP_writeTerm ∈ zT := zT_in (List.mem_append_right _ (List.mem_append_right _ (List.mem_append_right _ (List.mem_append_left _ (List.mem_of_getElem? (l := tables_1_3) (i := 48) rfl))))) rfl
abbrev wP_writeTerm : List Cond := kP_writeTerm :: zT
abbrev kP_writeNumber : Cond := .code yP_writeNumber bP_writeNumber 5 none
theorem mk_P_writeNumber : kP_writeNumber ∈ zT := zT_in (List.mem_append_right _ (List.mem_append_right _ (List.mem_append_right _ (List.mem_append_left _ (List.mem_of_getElem? (l := tables_1_3) (i := 52) rfl))))) rfl
abbrev wP_writeNumber : List Cond := kP_writeNumber :: zT
abbrev kM_init : Cond := .code yM_init bM_init 1 none
theorem mk_M_init : kM_init ∈ zT := zT_in (List.mem_append_right _ (List.mem_append_right _ (List.mem_append_right _ (List.mem_append_left _ (List.mem_of_getElem? (l := tables_1_3) (i := 99) rfl))))) rfl
abbrev wM_init : List Cond := kM_init :: zT
abbrev kM_prepare : Cond := .code yM_prepare bM_prepare 7 none
theorem mk_M_prepare : kM_prepare ∈ zT := zT_in (List.mem_append_right _ (List.mem_append_right _ (List.mem_append_right _ (List.mem_append_left _ (List.mem_of_getElem? (l := tables_1_3) (i := 105) rfl))))) rfl
abbrev wM_prepare : List Cond := kM_prepare :: zT
abbrev kM_list : Cond := .code yM_list bM_list 3 none
theorem mk_M_list : kM_list ∈ zT := zT_in (List.mem_append_right _ (List.mem_append_right _ (List.mem_append_right _ (List.mem_append_left _ (List.mem_of_getElem? (l := tables_1_3) (i := 109) rfl))))) rfl
abbrev wM_list : List Cond := kM_list :: zT
abbrev kM_isGreater : Cond := .code yM_isGreater bM_isGreater 6 (some .boolean)
theorem mk_M_isGreater : kM_isGreater ∈ zT := zT_in (List.mem_append_right _ (List.mem_append_right _ (List.mem_append_right _ (List.mem_append_left _ (List.mem_of_getElem? (l := tables_1_3) (i := 113) rfl))))) rfl
abbrev wM_isGreater : List Cond := kM_isGreater :: zT
abbrev kM_thrown : Cond := .code yM_thrown bM_thrown 1 (some .int)
theorem mk_M_thrown : kM_thrown ∈ zT := zT_in (List.mem_append_right _ (List.mem_append_right _ (List.mem_append_right _ (List.mem_append_left _ (List.mem_of_getElem? (l := tables_1_3) (i := 199) rfl))))) rfl
abbrev wM_thrown : List Cond := kM_thrown :: zT
abbrev kM_field : Cond := .code yM_field bM_field 4 none
theorem mk_M_field : kM_field ∈ zT := zT_in (List.mem_append_right _ (List.mem_append_right _ (List.mem_append_right _ (List.mem_append_left _ (List.mem_of_getElem? (l := tables_1_3) (i := 203) rfl))))) rfl
abbrev wM_field : List Cond := kM_field :: zT
abbrev kM_isPrime : Cond := .code yM_isPrime bM_isPrime 2 (some .boolean)
theorem mk_M_isPrime : kM_isPrime ∈ zT := zT_in (List.mem_append_right _ (List.mem_append_right _ (List.mem_append_right _ (List.mem_append_left _ (List.mem_of_getElem? (l := tables_1_3) (i := 206) rfl))))) rfl
abbrev wM_isPrime : List Cond := kM_isPrime :: zT
abbrev kM_put : Cond := .code yM_put bM_put 5 (some .boolean)
theorem mk_M_put : kM_put ∈ zT := zT_in (List.mem_append_right _ (List.mem_append_right _ (List.mem_append_right _ (List.mem_append_left _ (List.mem_of_getElem? (l := tables_1_3) (i := 210) rfl))))) rfl
abbrev wM_put : List Cond := kM_put :: zT
abbrev kM_read : Cond := .code yM_read bM_read 4 (some .int)
theorem mk_M_read : kM_read ∈ zT := zT_in (List.mem_append_right _ (List.mem_append_right _ (List.mem_append_right _ (List.mem_append_left _ (List.mem_of_getElem? (l := tables_1_3) (i := 214) rfl))))) rfl
abbrev wM_read : List Cond := kM_read :: zT
abbrev kM_isPolynomial : Cond := .code yM_isPolynomial bM_isPolynomial 1 (some .boolean)
theorem mk_M_isPolynomial : kM_isPolynomial ∈ zT := zT_in (List.mem_append_right _ (List.mem_append_right _ (List.mem_append_right _ (List.mem_append_left _ (List.mem_of_getElem? (l := tables_1_3) (i := 217) rfl))))) rfl
abbrev wM_isPolynomial : List Cond := kM_isPolynomial :: zT
abbrev kM_begin : Cond := .code yM_begin bM_begin 1 none
theorem mk_M_begin : kM_begin ∈ zT := zT_in (List.mem_append_right _ (List.mem_append_right _ (List.mem_append_right _ (List.mem_append_left _ (List.mem_of_getElem? (l := tables_1_3) (i := 221) rfl))))) rfl
abbrev wM_begin : List Cond := kM_begin :: zT
abbrev kM_sum : Cond := .code yM_sum bM_sum 1 (some .int)
theorem mk_M_sum : kM_sum ∈ zT := zT_in (List.mem_append_right _ (List.mem_append_right _ (List.mem_append_right _ (List.mem_append_left _ (List.mem_of_getElem? (l := tables_1_3) (i := 225) rfl))))) rfl
abbrev wM_sum : List Cond := kM_sum :: zT
abbrev kM_clear : Cond := .code yM_clear bM_clear 3 none
theorem mk_M_clear : kM_clear ∈ zT := zT_in (List.mem_append_right _ (List.mem_append_right _ (List.mem_append_right _ (List.mem_append_left _ (List.mem_of_getElem? (l := tables_1_3) (i := 229) rfl))))) rfl
abbrev wM_clear : List Cond := kM_clear :: zT
abbrev kM_lay : Cond := .code yM_lay bM_lay 4 none
theorem mk_M_lay : kM_lay ∈ zT := zT_in (List.mem_append_right _ (List.mem_append_right _ (List.mem_append_right _ (List.mem_append_left _ (List.mem_of_getElem? (l := tables_1_3) (i := 233) rfl))))) rfl
abbrev wM_lay : List Cond := kM_lay :: zT
abbrev kM_here : Cond := .code yM_here bM_here 1 (some .int)
theorem mk_M_here : kM_here ∈ zT := zT_in (List.mem_append_right _ (List.mem_append_right _ (List.mem_append_right _ (List.mem_append_left _ (List.mem_of_getElem? (l := tables_1_3) (i := 237) rfl))))) rfl
abbrev wM_here : List Cond := kM_here :: zT
abbrev kM_readFactor : Cond := .code yM_readFactor bM_readFactor 3 none
theorem mk_M_readFactor : kM_readFactor ∈ zT := zT_in (List.mem_append_right _ (List.mem_append_right _ (List.mem_append_right _ (List.mem_append_right _ (List.mem_of_getElem? (l := tables_1_4) (i := 1) rfl))))) rfl
abbrev wM_readFactor : List Cond := kM_readFactor :: zT
abbrev kM_fail : Cond := .code yM_fail bM_fail 3 none
theorem mk_M_fail : kM_fail ∈ zT := zT_in (List.mem_append_right _ (List.mem_append_right _ (List.mem_append_right _ (List.mem_append_right _ (List.mem_of_getElem? (l := tables_1_4) (i := 5) rfl))))) rfl
abbrev wM_fail : List Cond := kM_fail :: zT
abbrev kM_variable : Cond := .code yM_variable bM_variable 3 (some .int)
theorem mk_M_variable : kM_variable ∈ zT := zT_in (List.mem_append_right _ (List.mem_append_right _ (List.mem_append_right _ (List.mem_append_right _ (List.mem_of_getElem? (l := tables_1_4) (i := 9) rfl))))) rfl
abbrev wM_variable : List Cond := kM_variable :: zT
abbrev kM_isDigit : Cond := .code yM_isDigit bM_isDigit 1 (some .boolean)
theorem mk_M_isDigit : kM_isDigit ∈ zT := zT_in (List.mem_append_right _ (List.mem_append_right _ (List.mem_append_right _ (List.mem_append_right _ (List.mem_of_getElem? (l := tables_1_4) (i := 12) rfl))))) rfl
abbrev wM_isDigit : List Cond := kM_isDigit :: zT
abbrev kM_factor : Cond := .code yM_factor bM_factor 1 (some .int)
theorem mk_M_factor : kM_factor ∈ zT := zT_in (List.mem_append_right _ (List.mem_append_right _ (List.mem_append_right _ (List.mem_append_right _ (List.mem_of_getElem? (l := tables_1_4) (i := 16) rfl))))) rfl
abbrev wM_factor : List Cond := kM_factor :: zT
abbrev kM_number : Cond := .code yM_number bM_number 5 (some .long)
theorem mk_M_number : kM_number ∈ zT := zT_in (List.mem_append_right _ (List.mem_append_right _ (List.mem_append_right _ (List.mem_append_right _ (List.mem_of_getElem? (l := tables_1_4) (i := 20) rfl))))) rfl
abbrev wM_number : List Cond := kM_number :: zT
abbrev kM_modulo : Cond := .code yM_modulo bM_modulo 4 (some .int)
theorem mk_M_modulo : kM_modulo ∈ zT := zT_in (List.mem_append_right _ (List.mem_append_right _ (List.mem_append_right _ (List.mem_append_right _ (List.mem_of_getElem? (l := tables_1_4) (i := 26) rfl))))) rfl
abbrev wM_modulo : List Cond := kM_modulo :: zT
abbrev kM_readPower : Cond := .code yM_readPower bM_readPower 6 none
theorem mk_M_readPower : kM_readPower ∈ zT := zT_in (List.mem_append_right _ (List.mem_append_right _ (List.mem_append_right _ (List.mem_append_right _ (List.mem_of_getElem? (l := tables_1_4) (i := 30) rfl))))) rfl
abbrev wM_readPower : List Cond := kM_readPower :: zT
abbrev kM_degreeOf : Cond := .code yM_degreeOf bM_degreeOf 3 (some .int)
theorem mk_M_degreeOf : kM_degreeOf ∈ zT := zT_in (List.mem_append_right _ (List.mem_append_right _ (List.mem_append_right _ (List.mem_append_right _ (List.mem_of_getElem? (l := tables_1_4) (i := 34) rfl))))) rfl
abbrev wM_degreeOf : List Cond := kM_degreeOf :: zT
abbrev kM_cell : Cond := .code yM_cell bM_cell 3 (some .int)
theorem mk_M_cell : kM_cell ∈ zT := zT_in (List.mem_append_right _ (List.mem_append_right _ (List.mem_append_right _ (List.mem_append_right _ (List.mem_of_getElem? (l := tables_1_4) (i := 38) rfl))))) rfl
abbrev wM_cell : List Cond := kM_cell :: zT
abbrev kM_times : Cond := .code yM_times bM_times 8 none
theorem mk_M_times : kM_times ∈ zT := zT_in (List.mem_append_right _ (List.mem_append_right _ (List.mem_append_right _ (List.mem_append_right _ (List.mem_of_getElem? (l := tables_1_4) (i := 42) rfl))))) rfl
abbrev wM_times : List Cond := kM_times :: zT
abbrev kM_copy : Cond := .code yM_copy bM_copy 4 none
theorem mk_M_copy : kM_copy ∈ zT := zT_in (List.mem_append_right _ (List.mem_append_right _ (List.mem_append_right _ (List.mem_append_right _ (List.mem_of_getElem? (l := tables_1_4) (i := 46) rfl))))) rfl
abbrev wM_copy : List Cond := kM_copy :: zT
abbrev kM_goOn : Cond := .code yM_goOn bM_goOn 4 none
theorem mk_M_goOn : kM_goOn ∈ zT := zT_in (List.mem_append_right _ (List.mem_append_right _ (List.mem_append_right _ (List.mem_append_right _ (List.mem_of_getElem? (l := tables_1_4) (i := 50) rfl))))) rfl
abbrev wM_goOn : List Cond := kM_goOn :: zT
abbrev kM_product : Cond := .code yM_product bM_product 1 (some .int)
theorem mk_M_product : kM_product ∈ zT := zT_in (List.mem_append_right _ (List.mem_append_right _ (List.mem_append_right _ (List.mem_append_right _ (List.mem_of_getElem? (l := tables_1_4) (i := 54) rfl))))) rfl
abbrev wM_product : List Cond := kM_product :: zT
abbrev kM_isTooHigh : Cond := .code yM_isTooHigh bM_isTooHigh 5 (some .boolean)
theorem mk_M_isTooHigh : kM_isTooHigh ∈ zT := zT_in (List.mem_append_right _ (List.mem_append_right _ (List.mem_append_right _ (List.mem_append_right _ (List.mem_of_getElem? (l := tables_1_4) (i := 58) rfl))))) rfl
abbrev wM_isTooHigh : List Cond := kM_isTooHigh :: zT
abbrev kM_addTo : Cond := .code yM_addTo bM_addTo 5 none
theorem mk_M_addTo : kM_addTo ∈ zT := zT_in (List.mem_append_right _ (List.mem_append_right _ (List.mem_append_right _ (List.mem_append_right _ (List.mem_of_getElem? (l := tables_1_4) (i := 62) rfl))))) rfl
abbrev wM_addTo : List Cond := kM_addTo :: zT
abbrev kM_terms : Cond := .code yM_terms bM_terms 4 (some .int)
theorem mk_M_terms : kM_terms ∈ zT := zT_in (List.mem_append_right _ (List.mem_append_right _ (List.mem_append_right _ (List.mem_append_right _ (List.mem_of_getElem? (l := tables_1_4) (i := 66) rfl))))) rfl
abbrev wM_terms : List Cond := kM_terms :: zT
abbrev kM_fault : Cond := .code yM_fault bM_fault 2 (some .int)
theorem mk_M_fault : kM_fault ∈ zT := zT_in (List.mem_append_right _ (List.mem_append_right _ (List.mem_append_right _ (List.mem_append_right _ (List.mem_of_getElem? (l := tables_1_4) (i := 70) rfl))))) rfl
abbrev wM_fault : List Cond := kM_fault :: zT
abbrev kM_add : Cond := .code yM_add bM_add 5 none
theorem mk_M_add : kM_add ∈ zT := zT_in (List.mem_append_right _ (List.mem_append_right _ (List.mem_append_right _ (List.mem_append_right _ (List.mem_of_getElem? (l := tables_1_4) (i := 74) rfl))))) rfl
abbrev wM_add : List Cond := kM_add :: zT
abbrev kM_lacks : Cond := .code yM_lacks bM_lacks 4 (some .boolean)
theorem mk_M_lacks : kM_lacks ∈ zT := zT_in (List.mem_append_right _ (List.mem_append_right _ (List.mem_append_right _ (List.mem_append_right _ (List.mem_of_getElem? (l := tables_1_4) (i := 78) rfl))))) rfl
abbrev wM_lacks : List Cond := kM_lacks :: zT
abbrev kM_multiply : Cond := .code yM_multiply bM_multiply 4 none
theorem mk_M_multiply : kM_multiply ∈ zT := zT_in (List.mem_append_right _ (List.mem_append_right _ (List.mem_append_right _ (List.mem_append_right _ (List.mem_of_getElem? (l := tables_1_4) (i := 82) rfl))))) rfl
abbrev wM_multiply : List Cond := kM_multiply :: zT
abbrev kM_derive : Cond := .code yM_derive bM_derive 7 none
theorem mk_M_derive : kM_derive ∈ zT := zT_in (List.mem_append_right _ (List.mem_append_right _ (List.mem_append_right _ (List.mem_append_right _ (List.mem_of_getElem? (l := tables_1_4) (i := 86) rfl))))) rfl
abbrev wM_derive : List Cond := kM_derive :: zT
abbrev kM_set : Cond := .code yM_set bM_set 9 none
theorem mk_M_set : kM_set ∈ zT := zT_in (List.mem_append_right _ (List.mem_append_right _ (List.mem_append_right _ (List.mem_append_right _ (List.mem_of_getElem? (l := tables_1_4) (i := 90) rfl))))) rfl
abbrev wM_set : List Cond := kM_set :: zT
abbrev kM_power : Cond := .code yM_power bM_power 5 (some .int)
theorem mk_M_power : kM_power ∈ zT := zT_in (List.mem_append_right _ (List.mem_append_right _ (List.mem_append_right _ (List.mem_append_right _ (List.mem_of_getElem? (l := tables_1_4) (i := 94) rfl))))) rfl
abbrev wM_power : List Cond := kM_power :: zT
abbrev kM_value : Cond := .code yM_value bM_value 10 (some .int)
theorem mk_M_value : kM_value ∈ zT := zT_in (List.mem_append_right _ (List.mem_append_right _ (List.mem_append_right _ (List.mem_append_right _ (List.mem_of_getElem? (l := tables_1_4) (i := 98) rfl))))) rfl
abbrev wM_value : List Cond := kM_value :: zT
abbrev kM_about : Cond := .code yM_about bM_about 3 (some .int)
theorem mk_M_about : kM_about ∈ zT := zT_in (List.mem_append_right _ (List.mem_append_right _ (List.mem_append_right _ (List.mem_append_right _ (List.mem_of_getElem? (l := tables_1_4) (i := 102) rfl))))) rfl
abbrev wM_about : List Cond := kM_about :: zT
abbrev kM_term : Cond := .code yM_term bM_term 5 (some .int)
theorem mk_M_term : kM_term ∈ zT := zT_in (List.mem_append_right _ (List.mem_append_right _ (List.mem_append_right _ (List.mem_append_right _ (List.mem_of_getElem? (l := tables_1_4) (i := 106) rfl))))) rfl
abbrev wM_term : List Cond := kM_term :: zT
abbrev kM_placeOf : Cond := .code yM_placeOf bM_placeOf 5 (some .int)
theorem mk_M_placeOf : kM_placeOf ∈ zT := zT_in (List.mem_append_right _ (List.mem_append_right _ (List.mem_append_right _ (List.mem_append_right _ (List.mem_of_getElem? (l := tables_1_4) (i := 110) rfl))))) rfl
abbrev wM_placeOf : List Cond := kM_placeOf :: zT
abbrev kM_print : Cond := .code yM_print bM_print 3 (some .int)
theorem mk_M_print : kM_print ∈ zT := zT_in (List.mem_append_right _ (List.mem_append_right _ (List.mem_append_right _ (List.mem_append_right _ (List.mem_of_getElem? (l := tables_1_4) (i := 114) rfl))))) rfl
abbrev wM_print : List Cond := kM_print :: zT
abbrev kM_say : Cond := .code yM_say bM_say 2 none
theorem mk_M_say : kM_say ∈ zT := zT_in (List.mem_append_right _ (List.mem_append_right _ (List.mem_append_right _ (List.mem_append_right _ (List.mem_of_getElem? (l := tables_1_4) (i := 118) rfl))))) rfl
abbrev wM_say : List Cond := kM_say :: zT
abbrev kM_sayTerm : Cond := .code yM_sayTerm bM_sayTerm 7 none
theorem mk_M_sayTerm : kM_sayTerm ∈ zT := zT_in (List.mem_append_right _ (List.mem_append_right _ (List.mem_append_right _ (List.mem_append_right _ (List.mem_of_getElem? (l := tables_1_4) (i := 122) rfl))))) rfl
abbrev wM_sayTerm : List Cond := kM_sayTerm :: zT
abbrev kM_sayNumber : Cond := .code yM_sayNumber bM_sayNumber 3 none
theorem mk_M_sayNumber : kM_sayNumber ∈ zT := zT_in (List.mem_append_right _ (List.mem_append_right _ (List.mem_append_right _ (List.mem_append_right _ (List.mem_of_getElem? (l := tables_1_4) (i := 126) rfl))))) rfl
abbrev wM_sayNumber : List Cond := kM_sayNumber :: zT
abbrev kM_output : Cond := .code yM_output bM_output 2 (some .int)
theorem mk_M_output : kM_output ∈ zT := zT_in (List.mem_append_right _ (List.mem_append_right _ (List.mem_append_right _ (List.mem_append_right _ (List.mem_of_getElem? (l := tables_1_4) (i := 130) rfl))))) rfl
abbrev wM_output : List Cond := kM_output :: zT
theorem mn_L : (.initialized "PolynomialDeskLaw" : Cond) ∈ zT := zT_in (List.mem_append_right _ (List.mem_append_left _ (List.mem_of_getElem? (l := tables_1_1) (i := 0) rfl))) rfl
theorem mn_K : (.initialized "PolynomialDesk" : Cond) ∈ zT := zT_in (List.mem_append_right _ (List.mem_append_left _ (List.mem_of_getElem? (l := tables_1_1) (i := 1) rfl))) rfl
theorem mn_R : (.initialized "PolynomialDesk$Ring" : Cond) ∈ zT := zT_in (List.mem_append_right _ (List.mem_append_left _ (List.mem_of_getElem? (l := tables_1_1) (i := 2) rfl))) rfl
theorem mn_J : (.initialized "java/util/Arrays" : Cond) ∈ zT := zT_in (List.mem_append_right _ (List.mem_append_left _ (List.mem_of_getElem? (l := tables_1_1) (i := 3) rfl))) rfl
theorem mn_E : (.initialized "PolynomialDesk$Reader" : Cond) ∈ zT := zT_in (List.mem_append_right _ (List.mem_append_left _ (List.mem_of_getElem? (l := tables_1_1) (i := 4) rfl))) rfl
theorem mn_P : (.initialized "PolynomialDesk$Printer" : Cond) ∈ zT := zT_in (List.mem_append_right _ (List.mem_append_left _ (List.mem_of_getElem? (l := tables_1_1) (i := 5) rfl))) rfl
theorem mn_M : (.initialized "PolynomialDeskModel" : Cond) ∈ zT := zT_in (List.mem_append_right _ (List.mem_append_left _ (List.mem_of_getElem? (l := tables_1_1) (i := 6) rfl))) rfl
theorem mn_Throwable : (.initialized "java/lang/Throwable" : Cond) ∈ zT := zT_in (List.mem_append_right _ (List.mem_append_left _ (List.mem_of_getElem? (l := tables_1_1) (i := 7) rfl))) rfl
theorem mn_Exception : (.initialized "java/lang/Exception" : Cond) ∈ zT := zT_in (List.mem_append_right _ (List.mem_append_left _ (List.mem_of_getElem? (l := tables_1_1) (i := 8) rfl))) rfl
theorem mn_RuntimeException : (.initialized "java/lang/RuntimeException" : Cond) ∈ zT := zT_in (List.mem_append_right _ (List.mem_append_left _ (List.mem_of_getElem? (l := tables_1_1) (i := 9) rfl))) rfl
theorem mn_IllegalArgumentException : (.initialized "java/lang/IllegalArgumentException" : Cond) ∈ zT := zT_in (List.mem_append_right _ (List.mem_append_left _ (List.mem_of_getElem? (l := tables_1_1) (i := 10) rfl))) rfl
theorem mn_IndexOutOfBoundsException : (.initialized "java/lang/IndexOutOfBoundsException" : Cond) ∈ zT := zT_in (List.mem_append_right _ (List.mem_append_left _ (List.mem_of_getElem? (l := tables_1_1) (i := 11) rfl))) rfl
theorem mn_System : (.initialized "java/lang/System" : Cond) ∈ zT := zT_in (List.mem_append_right _ (List.mem_append_left _ (List.mem_of_getElem? (l := tables_1_1) (i := 12) rfl))) rfl
theorem mn_IllegalStateException : (.initialized "java/lang/IllegalStateException" : Cond) ∈ zT := zT_in (List.mem_append_right _ (List.mem_append_left _ (List.mem_of_getElem? (l := tables_1_1) (i := 13) rfl))) rfl
theorem mn_String : (.initialized "java/lang/String" : Cond) ∈ zT := zT_in (List.mem_append_right _ (List.mem_append_left _ (List.mem_of_getElem? (l := tables_1_1) (i := 14) rfl))) rfl
theorem mn_StringLatin1 : (.initialized "java/lang/StringLatin1" : Cond) ∈ zT := zT_in (List.mem_append_right _ (List.mem_append_left _ (List.mem_of_getElem? (l := tables_1_1) (i := 15) rfl))) rfl
theorem mn_Preconditions : (.initialized "jdk/internal/util/Preconditions" : Cond) ∈ zT := zT_in (List.mem_append_right _ (List.mem_append_left _ (List.mem_of_getElem? (l := tables_1_1) (i := 16) rfl))) rfl
theorem mn_StringUTF16 : (.initialized "java/lang/StringUTF16" : Cond) ∈ zT := zT_in (List.mem_append_right _ (List.mem_append_left _ (List.mem_of_getElem? (l := tables_1_1) (i := 17) rfl))) rfl
theorem mc_L_8 : (.classLink "PolynomialDeskLaw" 8 "PolynomialDesk" : Cond) ∈ zT := zT_in (List.mem_append_right _ (List.mem_append_left _ (List.mem_of_getElem? (l := tables_1_1) (i := 18) rfl))) rfl
theorem mb_K : (.instantiable "PolynomialDesk" 5 : Cond) ∈ zT := zT_in (List.mem_append_right _ (List.mem_append_left _ (List.mem_of_getElem? (l := tables_1_1) (i := 19) rfl))) rfl
theorem ml_L_43 : (.methodLink "PolynomialDeskLaw" 43 yK_init : Cond) ∈ zT := zT_in (List.mem_append_right _ (List.mem_append_left _ (List.mem_of_getElem? (l := tables_1_1) (i := 20) rfl))) rfl
theorem mi_K_init : (.instanceMethod yK_init : Cond) ∈ zT := zT_in (List.mem_append_right _ (List.mem_append_left _ (List.mem_of_getElem? (l := tables_1_1) (i := 21) rfl))) rfl
theorem ml_K_1 : (.methodLink "PolynomialDesk" 1 ⟨"java/lang/Object", "<init>", "()V"⟩ : Cond) ∈ zT := zT_in (List.mem_append_right _ (List.mem_append_left _ (List.mem_of_getElem? (l := tables_1_1) (i := 23) rfl))) rfl
theorem mi_obj : (.instanceMethod ⟨"java/lang/Object", "<init>", "()V"⟩ : Cond) ∈ zT := zT_in (List.mem_append_right _ (List.mem_append_left _ (List.mem_of_getElem? (l := tables_1_1) (i := 24) rfl))) rfl
theorem mk_obj : (.code ⟨"java/lang/Object", "<init>", "()V"⟩ object_method_1_code 1 none : Cond) ∈ zT := zT_in (List.mem_append_right _ (List.mem_append_left _ (List.mem_of_getElem? (l := tables_1_1) (i := 25) rfl))) rfl
theorem mc_K_7 : (.classLink "PolynomialDesk" 7 "PolynomialDesk$Ring" : Cond) ∈ zT := zT_in (List.mem_append_right _ (List.mem_append_left _ (List.mem_of_getElem? (l := tables_1_1) (i := 26) rfl))) rfl
theorem mb_R : (.instantiable "PolynomialDesk$Ring" 13 : Cond) ∈ zT := zT_in (List.mem_append_right _ (List.mem_append_left _ (List.mem_of_getElem? (l := tables_1_1) (i := 27) rfl))) rfl
theorem ml_K_9 : (.methodLink "PolynomialDesk" 9 yR_init : Cond) ∈ zT := zT_in (List.mem_append_right _ (List.mem_append_left _ (List.mem_of_getElem? (l := tables_1_1) (i := 28) rfl))) rfl
theorem mi_R_init : (.instanceMethod yR_init : Cond) ∈ zT := zT_in (List.mem_append_right _ (List.mem_append_left _ (List.mem_of_getElem? (l := tables_1_1) (i := 29) rfl))) rfl
theorem ml_R_3 : (.methodLink "PolynomialDesk$Ring" 3 ⟨"java/lang/Object", "<init>", "()V"⟩ : Cond) ∈ zT := zT_in (List.mem_append_right _ (List.mem_append_left _ (List.mem_of_getElem? (l := tables_1_1) (i := 31) rfl))) rfl
theorem mc_R_11 : (.classLink "PolynomialDesk$Ring" 11 "[[I" : Cond) ∈ zT := zT_in (List.mem_append_right _ (List.mem_append_left _ (List.mem_of_getElem? (l := tables_1_1) (i := 32) rfl))) rfl
theorem mf_R_38 : (.fieldLink "PolynomialDesk$Ring" 38 "PolynomialDesk$Ring" "prime" "I" : Cond) ∈ zT := zT_in (List.mem_append_right _ (List.mem_append_left _ (List.mem_of_getElem? (l := tables_1_1) (i := 34) rfl))) rfl
theorem mf_R_42 : (.fieldLink "PolynomialDesk$Ring" 42 "PolynomialDesk$Ring" "variables" "I" : Cond) ∈ zT := zT_in (List.mem_append_right _ (List.mem_append_left _ (List.mem_of_getElem? (l := tables_1_1) (i := 35) rfl))) rfl
theorem mf_R_45 : (.fieldLink "PolynomialDesk$Ring" 45 "PolynomialDesk$Ring" "order" "I" : Cond) ∈ zT := zT_in (List.mem_append_right _ (List.mem_append_left _ (List.mem_of_getElem? (l := tables_1_1) (i := 36) rfl))) rfl
theorem mf_R_51 : (.fieldLink "PolynomialDesk$Ring" 51 "PolynomialDesk$Ring" "highest" "I" : Cond) ∈ zT := zT_in (List.mem_append_right _ (List.mem_append_left _ (List.mem_of_getElem? (l := tables_1_1) (i := 37) rfl))) rfl
theorem mf_R_54 : (.fieldLink "PolynomialDesk$Ring" 54 "PolynomialDesk$Ring" "count" "I" : Cond) ∈ zT := zT_in (List.mem_append_right _ (List.mem_append_left _ (List.mem_of_getElem? (l := tables_1_1) (i := 38) rfl))) rfl
theorem mf_R_13 : (.fieldLink "PolynomialDesk$Ring" 13 "PolynomialDesk$Ring" "exponents" "[[I" : Cond) ∈ zT := zT_in (List.mem_append_right _ (List.mem_append_left _ (List.mem_of_getElem? (l := tables_1_1) (i := 39) rfl))) rfl
theorem mf_R_16 : (.fieldLink "PolynomialDesk$Ring" 16 "PolynomialDesk$Ring" "degrees" "[I" : Cond) ∈ zT := zT_in (List.mem_append_right _ (List.mem_append_left _ (List.mem_of_getElem? (l := tables_1_1) (i := 40) rfl))) rfl
theorem mf_R_20 : (.fieldLink "PolynomialDesk$Ring" 20 "PolynomialDesk$Ring" "keys" "[I" : Cond) ∈ zT := zT_in (List.mem_append_right _ (List.mem_append_left _ (List.mem_of_getElem? (l := tables_1_1) (i := 41) rfl))) rfl
theorem mf_R_23 : (.fieldLink "PolynomialDesk$Ring" 23 "PolynomialDesk$Ring" "weights" "[I" : Cond) ∈ zT := zT_in (List.mem_append_right _ (List.mem_append_left _ (List.mem_of_getElem? (l := tables_1_1) (i := 42) rfl))) rfl
theorem mf_R_26 : (.fieldLink "PolynomialDesk$Ring" 26 "PolynomialDesk$Ring" "indexes" "[I" : Cond) ∈ zT := zT_in (List.mem_append_right _ (List.mem_append_left _ (List.mem_of_getElem? (l := tables_1_1) (i := 43) rfl))) rfl
theorem mf_R_29 : (.fieldLink "PolynomialDesk$Ring" 29 "PolynomialDesk$Ring" "chosen" "[I" : Cond) ∈ zT := zT_in (List.mem_append_right _ (List.mem_append_left _ (List.mem_of_getElem? (l := tables_1_1) (i := 44) rfl))) rfl
theorem mf_R_32 : (.fieldLink "PolynomialDesk$Ring" 32 "PolynomialDesk$Ring" "scratch" "[I" : Cond) ∈ zT := zT_in (List.mem_append_right _ (List.mem_append_left _ (List.mem_of_getElem? (l := tables_1_1) (i := 45) rfl))) rfl
theorem mf_R_35 : (.fieldLink "PolynomialDesk$Ring" 35 "PolynomialDesk$Ring" "base" "[I" : Cond) ∈ zT := zT_in (List.mem_append_right _ (List.mem_append_left _ (List.mem_of_getElem? (l := tables_1_1) (i := 46) rfl))) rfl
theorem ma_int : (.arrayClass .int : Cond) ∈ zT := zT_in (List.mem_append_right _ (List.mem_append_left _ (List.mem_of_getElem? (l := tables_1_1) (i := 74) rfl))) rfl
theorem ml_K_16 : (.methodLink "PolynomialDesk" 16 yR_prepare : Cond) ∈ zT := zT_in (List.mem_append_right _ (List.mem_append_left _ (List.mem_of_getElem? (l := tables_1_1) (i := 75) rfl))) rfl
theorem mi_R_prepare : (.instanceMethod yR_prepare : Cond) ∈ zT := zT_in (List.mem_append_right _ (List.mem_append_left _ (List.mem_of_getElem? (l := tables_1_1) (i := 76) rfl))) rfl
theorem ms_R_prepare : (.selects "PolynomialDesk$Ring" yR_prepare yR_prepare : Cond) ∈ zT := zT_in (List.mem_append_right _ (List.mem_append_left _ (List.mem_of_getElem? (l := tables_1_1) (i := 77) rfl))) rfl
theorem mf_R_48 : (.fieldLink "PolynomialDesk$Ring" 48 "PolynomialDesk$Ring" "HIGHEST" "[I" : Cond) ∈ zT := zT_in (List.mem_append_right _ (List.mem_append_left _ (List.mem_of_getElem? (l := tables_1_1) (i := 79) rfl))) rfl
theorem ml_R_57 : (.methodLink "PolynomialDesk$Ring" 57 yJ_fill : Cond) ∈ zT := zT_in (List.mem_append_right _ (List.mem_append_left _ (List.mem_of_getElem? (l := tables_1_1) (i := 81) rfl))) rfl
theorem mt_J_fill : (.static yJ_fill : Cond) ∈ zT := zT_in (List.mem_append_right _ (List.mem_append_left _ (List.mem_of_getElem? (l := tables_1_1) (i := 82) rfl))) rfl
theorem ml_R_63 : (.methodLink "PolynomialDesk$Ring" 63 yR_listMonomials : Cond) ∈ zT := zT_in (List.mem_append_right _ (List.mem_append_left _ (List.mem_of_getElem? (l := tables_1_1) (i := 84) rfl))) rfl
theorem mi_R_listMonomials : (.instanceMethod yR_listMonomials : Cond) ∈ zT := zT_in (List.mem_append_right _ (List.mem_append_left _ (List.mem_of_getElem? (l := tables_1_1) (i := 86) rfl))) rfl
theorem ml_R_67 : (.methodLink "PolynomialDesk$Ring" 67 yR_recordMonomial : Cond) ∈ zT := zT_in (List.mem_append_right _ (List.mem_append_left _ (List.mem_of_getElem? (l := tables_1_1) (i := 88) rfl))) rfl
theorem mi_R_recordMonomial : (.instanceMethod yR_recordMonomial : Cond) ∈ zT := zT_in (List.mem_append_right _ (List.mem_append_left _ (List.mem_of_getElem? (l := tables_1_1) (i := 90) rfl))) rfl
theorem mc_K_20 : (.classLink "PolynomialDesk" 20 "PolynomialDesk$Reader" : Cond) ∈ zT := zT_in (List.mem_append_right _ (List.mem_append_left _ (List.mem_of_getElem? (l := tables_1_1) (i := 92) rfl))) rfl
theorem mb_E : (.instantiable "PolynomialDesk$Reader" 9 : Cond) ∈ zT := zT_in (List.mem_append_right _ (List.mem_append_left _ (List.mem_of_getElem? (l := tables_1_1) (i := 93) rfl))) rfl
theorem ml_K_22 : (.methodLink "PolynomialDesk" 22 yE_init : Cond) ∈ zT := zT_in (List.mem_append_right _ (List.mem_append_left _ (List.mem_of_getElem? (l := tables_1_1) (i := 94) rfl))) rfl
theorem mi_E_init : (.instanceMethod yE_init : Cond) ∈ zT := zT_in (List.mem_append_right _ (List.mem_append_left _ (List.mem_of_getElem? (l := tables_1_1) (i := 95) rfl))) rfl
theorem ml_E_3 : (.methodLink "PolynomialDesk$Reader" 3 ⟨"java/lang/Object", "<init>", "()V"⟩ : Cond) ∈ zT := zT_in (List.mem_append_right _ (List.mem_append_left _ (List.mem_of_getElem? (l := tables_1_1) (i := 97) rfl))) rfl
theorem mc_E_25 : (.classLink "PolynomialDesk$Reader" 25 "[[I" : Cond) ∈ zT := zT_in (List.mem_append_right _ (List.mem_append_left _ (List.mem_of_getElem? (l := tables_1_1) (i := 98) rfl))) rfl
theorem mf_E_9 : (.fieldLink "PolynomialDesk$Reader" 9 "PolynomialDesk$Reader" "ring" "LPolynomialDesk$Ring;" : Cond) ∈ zT := zT_in (List.mem_append_right _ (List.mem_append_left _ (List.mem_of_getElem? (l := tables_1_1) (i := 99) rfl))) rfl
theorem mf_E_15 : (.fieldLink "PolynomialDesk$Reader" 15 "PolynomialDesk$Reader" "text" "[C" : Cond) ∈ zT := zT_in (List.mem_append_right _ (List.mem_append_left _ (List.mem_of_getElem? (l := tables_1_1) (i := 100) rfl))) rfl
theorem mf_E_37 : (.fieldLink "PolynomialDesk$Reader" 37 "PolynomialDesk$Reader" "length" "I" : Cond) ∈ zT := zT_in (List.mem_append_right _ (List.mem_append_left _ (List.mem_of_getElem? (l := tables_1_1) (i := 101) rfl))) rfl
theorem mf_E_45 : (.fieldLink "PolynomialDesk$Reader" 45 "PolynomialDesk$Reader" "at" "I" : Cond) ∈ zT := zT_in (List.mem_append_right _ (List.mem_append_left _ (List.mem_of_getElem? (l := tables_1_1) (i := 102) rfl))) rfl
theorem mf_E_42 : (.fieldLink "PolynomialDesk$Reader" 42 "PolynomialDesk$Reader" "fault" "I" : Cond) ∈ zT := zT_in (List.mem_append_right _ (List.mem_append_left _ (List.mem_of_getElem? (l := tables_1_1) (i := 103) rfl))) rfl
theorem mf_E_19 : (.fieldLink "PolynomialDesk$Reader" 19 "PolynomialDesk$Reader" "place" "I" : Cond) ∈ zT := zT_in (List.mem_append_right _ (List.mem_append_left _ (List.mem_of_getElem? (l := tables_1_1) (i := 104) rfl))) rfl
theorem mf_E_27 : (.fieldLink "PolynomialDesk$Reader" 27 "PolynomialDesk$Reader" "sums" "[[I" : Cond) ∈ zT := zT_in (List.mem_append_right _ (List.mem_append_left _ (List.mem_of_getElem? (l := tables_1_1) (i := 105) rfl))) rfl
theorem mf_E_30 : (.fieldLink "PolynomialDesk$Reader" 30 "PolynomialDesk$Reader" "products" "[[I" : Cond) ∈ zT := zT_in (List.mem_append_right _ (List.mem_append_left _ (List.mem_of_getElem? (l := tables_1_1) (i := 106) rfl))) rfl
theorem mf_E_33 : (.fieldLink "PolynomialDesk$Reader" 33 "PolynomialDesk$Reader" "factor" "[I" : Cond) ∈ zT := zT_in (List.mem_append_right _ (List.mem_append_left _ (List.mem_of_getElem? (l := tables_1_1) (i := 107) rfl))) rfl
theorem ma_char : (.arrayClass .char : Cond) ∈ zT := zT_in (List.mem_append_right _ (List.mem_append_left _ (List.mem_of_getElem? (l := tables_1_1) (i := 127) rfl))) rfl
theorem mc_K_29 : (.classLink "PolynomialDesk" 29 "PolynomialDesk$Printer" : Cond) ∈ zT := zT_in (List.mem_append_right _ (List.mem_append_left _ (List.mem_of_getElem? (l := tables_1_1) (i := 128) rfl))) rfl
theorem mb_P : (.instantiable "PolynomialDesk$Printer" 3 : Cond) ∈ zT := zT_in (List.mem_append_right _ (List.mem_append_left _ (List.mem_of_getElem? (l := tables_1_1) (i := 129) rfl))) rfl
theorem ml_K_31 : (.methodLink "PolynomialDesk" 31 yP_init : Cond) ∈ zT := zT_in (List.mem_append_right _ (List.mem_append_left _ (List.mem_of_getElem? (l := tables_1_1) (i := 130) rfl))) rfl
theorem mi_P_init : (.instanceMethod yP_init : Cond) ∈ zT := zT_in (List.mem_append_right _ (List.mem_append_left _ (List.mem_of_getElem? (l := tables_1_1) (i := 131) rfl))) rfl
theorem ml_P_3 : (.methodLink "PolynomialDesk$Printer" 3 ⟨"java/lang/Object", "<init>", "()V"⟩ : Cond) ∈ zT := zT_in (List.mem_append_right _ (List.mem_append_left _ (List.mem_of_getElem? (l := tables_1_1) (i := 133) rfl))) rfl
theorem mf_P_9 : (.fieldLink "PolynomialDesk$Printer" 9 "PolynomialDesk$Printer" "ring" "LPolynomialDesk$Ring;" : Cond) ∈ zT := zT_in (List.mem_append_right _ (List.mem_append_left _ (List.mem_of_getElem? (l := tables_1_1) (i := 134) rfl))) rfl
theorem mf_P_17 : (.fieldLink "PolynomialDesk$Printer" 17 "PolynomialDesk$Printer" "bytes" "[C" : Cond) ∈ zT := zT_in (List.mem_append_right _ (List.mem_append_left _ (List.mem_of_getElem? (l := tables_1_1) (i := 135) rfl))) rfl
theorem mf_P_21 : (.fieldLink "PolynomialDesk$Printer" 21 "PolynomialDesk$Printer" "length" "I" : Cond) ∈ zT := zT_in (List.mem_append_right _ (List.mem_append_left _ (List.mem_of_getElem? (l := tables_1_1) (i := 136) rfl))) rfl
theorem mc_K_36 : (.classLink "PolynomialDesk" 36 "[[I" : Cond) ∈ zT := zT_in (List.mem_append_right _ (List.mem_append_left _ (List.mem_of_getElem? (l := tables_1_1) (i := 144) rfl))) rfl
theorem mf_K_10 : (.fieldLink "PolynomialDesk" 10 "PolynomialDesk" "ring" "LPolynomialDesk$Ring;" : Cond) ∈ zT := zT_in (List.mem_append_right _ (List.mem_append_left _ (List.mem_of_getElem? (l := tables_1_1) (i := 145) rfl))) rfl
theorem mf_K_25 : (.fieldLink "PolynomialDesk" 25 "PolynomialDesk" "reader" "LPolynomialDesk$Reader;" : Cond) ∈ zT := zT_in (List.mem_append_right _ (List.mem_append_left _ (List.mem_of_getElem? (l := tables_1_1) (i := 146) rfl))) rfl
theorem mf_K_32 : (.fieldLink "PolynomialDesk" 32 "PolynomialDesk" "printer" "LPolynomialDesk$Printer;" : Cond) ∈ zT := zT_in (List.mem_append_right _ (List.mem_append_left _ (List.mem_of_getElem? (l := tables_1_1) (i := 147) rfl))) rfl
theorem mf_K_38 : (.fieldLink "PolynomialDesk" 38 "PolynomialDesk" "polynomials" "[[I" : Cond) ∈ zT := zT_in (List.mem_append_right _ (List.mem_append_left _ (List.mem_of_getElem? (l := tables_1_1) (i := 148) rfl))) rfl
theorem mf_K_41 : (.fieldLink "PolynomialDesk" 41 "PolynomialDesk" "numbers" "[I" : Cond) ∈ zT := zT_in (List.mem_append_right _ (List.mem_append_left _ (List.mem_of_getElem? (l := tables_1_1) (i := 149) rfl))) rfl
theorem ml_L_59 : (.methodLink "PolynomialDeskLaw" 59 yK_put : Cond) ∈ zT := zT_in (List.mem_append_right _ (List.mem_append_left _ (List.mem_of_getElem? (l := tables_1_1) (i := 161) rfl))) rfl
theorem mi_K_put : (.instanceMethod yK_put : Cond) ∈ zT := zT_in (List.mem_append_right _ (List.mem_append_left _ (List.mem_of_getElem? (l := tables_1_1) (i := 162) rfl))) rfl
theorem ms_K_put : (.selects "PolynomialDesk" yK_put yK_put : Cond) ∈ zT := zT_in (List.mem_append_right _ (List.mem_append_left _ (List.mem_of_getElem? (l := tables_1_1) (i := 163) rfl))) rfl
theorem ml_K_69 : (.methodLink "PolynomialDesk" 69 yE_takeBytes : Cond) ∈ zT := zT_in (List.mem_append_right _ (List.mem_append_left _ (List.mem_of_getElem? (l := tables_1_1) (i := 165) rfl))) rfl
theorem mi_E_takeBytes : (.instanceMethod yE_takeBytes : Cond) ∈ zT := zT_in (List.mem_append_right _ (List.mem_append_left _ (List.mem_of_getElem? (l := tables_1_1) (i := 166) rfl))) rfl
theorem ms_E_takeBytes : (.selects "PolynomialDesk$Reader" yE_takeBytes yE_takeBytes : Cond) ∈ zT := zT_in (List.mem_append_right _ (List.mem_append_left _ (List.mem_of_getElem? (l := tables_1_1) (i := 167) rfl))) rfl
theorem mq_E_40 : (.constantLong "PolynomialDesk$Reader" 40 (255) : Cond) ∈ zT := zT_in (List.mem_append_right _ (List.mem_append_left _ (List.mem_of_getElem? (l := tables_1_1) (i := 169) rfl))) rfl
theorem ml_L_68 : (.methodLink "PolynomialDeskLaw" 68 yK_fault : Cond) ∈ zT := zT_in (List.mem_append_right _ (List.mem_append_left _ (List.mem_of_getElem? (l := tables_1_1) (i := 170) rfl))) rfl
theorem mi_K_fault : (.instanceMethod yK_fault : Cond) ∈ zT := zT_in (List.mem_append_right _ (List.mem_append_left _ (List.mem_of_getElem? (l := tables_1_1) (i := 171) rfl))) rfl
theorem ms_K_fault : (.selects "PolynomialDesk" yK_fault yK_fault : Cond) ∈ zT := zT_in (List.mem_append_right _ (List.mem_append_left _ (List.mem_of_getElem? (l := tables_1_1) (i := 172) rfl))) rfl
theorem ml_K_87 : (.methodLink "PolynomialDesk" 87 yE_latestFault : Cond) ∈ zT := zT_in (List.mem_append_right _ (List.mem_append_left _ (List.mem_of_getElem? (l := tables_1_1) (i := 174) rfl))) rfl
theorem mi_E_latestFault : (.instanceMethod yE_latestFault : Cond) ∈ zT := zT_in (List.mem_append_right _ (List.mem_append_left _ (List.mem_of_getElem? (l := tables_1_1) (i := 175) rfl))) rfl
theorem ms_E_latestFault : (.selects "PolynomialDesk$Reader" yE_latestFault yE_latestFault : Cond) ∈ zT := zT_in (List.mem_append_right _ (List.mem_append_left _ (List.mem_of_getElem? (l := tables_1_1) (i := 176) rfl))) rfl
theorem ml_K_91 : (.methodLink "PolynomialDesk" 91 yE_latestPlace : Cond) ∈ zT := zT_in (List.mem_append_right _ (List.mem_append_left _ (List.mem_of_getElem? (l := tables_1_1) (i := 178) rfl))) rfl
theorem mi_E_latestPlace : (.instanceMethod yE_latestPlace : Cond) ∈ zT := zT_in (List.mem_append_right _ (List.mem_append_left _ (List.mem_of_getElem? (l := tables_1_1) (i := 179) rfl))) rfl
theorem ms_E_latestPlace : (.selects "PolynomialDesk$Reader" yE_latestPlace yE_latestPlace : Cond) ∈ zT := zT_in (List.mem_append_right _ (List.mem_append_left _ (List.mem_of_getElem? (l := tables_1_1) (i := 180) rfl))) rfl
theorem ml_L_89 : (.methodLink "PolynomialDeskLaw" 89 yK_about : Cond) ∈ zT := zT_in (List.mem_append_right _ (List.mem_append_left _ (List.mem_of_getElem? (l := tables_1_1) (i := 182) rfl))) rfl
theorem mi_K_about : (.instanceMethod yK_about : Cond) ∈ zT := zT_in (List.mem_append_right _ (List.mem_append_left _ (List.mem_of_getElem? (l := tables_1_1) (i := 183) rfl))) rfl
theorem ms_K_about : (.selects "PolynomialDesk" yK_about yK_about : Cond) ∈ zT := zT_in (List.mem_append_right _ (List.mem_append_left _ (List.mem_of_getElem? (l := tables_1_1) (i := 184) rfl))) rfl
theorem ml_K_126 : (.methodLink "PolynomialDesk" 126 yK_isPolynomial : Cond) ∈ zT := zT_in (List.mem_append_right _ (List.mem_append_left _ (List.mem_of_getElem? (l := tables_1_1) (i := 186) rfl))) rfl
theorem mt_K_isPolynomial : (.static yK_isPolynomial : Cond) ∈ zT := zT_in (List.mem_append_right _ (List.mem_append_left _ (List.mem_of_getElem? (l := tables_1_1) (i := 187) rfl))) rfl
theorem ml_K_83 : (.methodLink "PolynomialDesk" 83 yR_countTerms : Cond) ∈ zT := zT_in (List.mem_append_right _ (List.mem_append_left _ (List.mem_of_getElem? (l := tables_1_1) (i := 189) rfl))) rfl
theorem mi_R_countTerms : (.instanceMethod yR_countTerms : Cond) ∈ zT := zT_in (List.mem_append_right _ (List.mem_append_left _ (List.mem_of_getElem? (l := tables_1_1) (i := 190) rfl))) rfl
theorem ms_R_countTerms : (.selects "PolynomialDesk$Ring" yR_countTerms yR_countTerms : Cond) ∈ zT := zT_in (List.mem_append_right _ (List.mem_append_left _ (List.mem_of_getElem? (l := tables_1_1) (i := 191) rfl))) rfl
theorem ml_K_129 : (.methodLink "PolynomialDesk" 129 yR_degreeOf : Cond) ∈ zT := zT_in (List.mem_append_right _ (List.mem_append_left _ (List.mem_of_getElem? (l := tables_1_1) (i := 193) rfl))) rfl
theorem mi_R_degreeOf : (.instanceMethod yR_degreeOf : Cond) ∈ zT := zT_in (List.mem_append_right _ (List.mem_append_left _ (List.mem_of_getElem? (l := tables_1_1) (i := 194) rfl))) rfl
theorem ms_R_degreeOf : (.selects "PolynomialDesk$Ring" yR_degreeOf yR_degreeOf : Cond) ∈ zT := zT_in (List.mem_append_right _ (List.mem_append_left _ (List.mem_of_getElem? (l := tables_1_1) (i := 195) rfl))) rfl
theorem ml_R_71 : (.methodLink "PolynomialDesk$Ring" 71 yR_leadingOf : Cond) ∈ zT := zT_in (List.mem_append_right _ (List.mem_append_left _ (List.mem_of_getElem? (l := tables_1_1) (i := 197) rfl))) rfl
theorem mi_R_leadingOf : (.instanceMethod yR_leadingOf : Cond) ∈ zT := zT_in (List.mem_append_right _ (List.mem_append_left _ (List.mem_of_getElem? (l := tables_1_1) (i := 199) rfl))) rfl
theorem ml_L_94 : (.methodLink "PolynomialDeskLaw" 94 yK_term : Cond) ∈ zT := zT_in (List.mem_append_right _ (List.mem_append_left _ (List.mem_of_getElem? (l := tables_1_1) (i := 201) rfl))) rfl
theorem mi_K_term : (.instanceMethod yK_term : Cond) ∈ zT := zT_in (List.mem_append_right _ (List.mem_append_left _ (List.mem_of_getElem? (l := tables_1_1) (i := 202) rfl))) rfl
theorem ms_K_term : (.selects "PolynomialDesk" yK_term yK_term : Cond) ∈ zT := zT_in (List.mem_append_right _ (List.mem_append_left _ (List.mem_of_getElem? (l := tables_1_1) (i := 203) rfl))) rfl
theorem ml_K_132 : (.methodLink "PolynomialDesk" 132 yR_indexOfTerm : Cond) ∈ zT := zT_in (List.mem_append_right _ (List.mem_append_left _ (List.mem_of_getElem? (l := tables_1_1) (i := 205) rfl))) rfl
theorem mi_R_indexOfTerm : (.instanceMethod yR_indexOfTerm : Cond) ∈ zT := zT_in (List.mem_append_right _ (List.mem_append_left _ (List.mem_of_getElem? (l := tables_1_1) (i := 206) rfl))) rfl
theorem ms_R_indexOfTerm : (.selects "PolynomialDesk$Ring" yR_indexOfTerm yR_indexOfTerm : Cond) ∈ zT := zT_in (List.mem_append_right _ (List.mem_append_left _ (List.mem_of_getElem? (l := tables_1_1) (i := 207) rfl))) rfl
theorem ml_K_136 : (.methodLink "PolynomialDesk" 136 yR_exponentOf : Cond) ∈ zT := zT_in (List.mem_append_right _ (List.mem_append_left _ (List.mem_of_getElem? (l := tables_1_1) (i := 209) rfl))) rfl
theorem mi_R_exponentOf : (.instanceMethod yR_exponentOf : Cond) ∈ zT := zT_in (List.mem_append_right _ (List.mem_append_left _ (List.mem_of_getElem? (l := tables_1_1) (i := 210) rfl))) rfl
theorem ms_R_exponentOf : (.selects "PolynomialDesk$Ring" yR_exponentOf yR_exponentOf : Cond) ∈ zT := zT_in (List.mem_append_right _ (List.mem_append_left _ (List.mem_of_getElem? (l := tables_1_1) (i := 211) rfl))) rfl
theorem ml_L_102 : (.methodLink "PolynomialDeskLaw" 102 yK_output : Cond) ∈ zT := zT_in (List.mem_append_right _ (List.mem_append_left _ (List.mem_of_getElem? (l := tables_1_1) (i := 213) rfl))) rfl
theorem mi_K_output : (.instanceMethod yK_output : Cond) ∈ zT := zT_in (List.mem_append_right _ (List.mem_append_left _ (List.mem_of_getElem? (l := tables_1_1) (i := 214) rfl))) rfl
theorem ms_K_output : (.selects "PolynomialDesk" yK_output yK_output : Cond) ∈ zT := zT_in (List.mem_append_right _ (List.mem_append_left _ (List.mem_of_getElem? (l := tables_1_1) (i := 215) rfl))) rfl
theorem ml_K_143 : (.methodLink "PolynomialDesk" 143 yP_byteAt : Cond) ∈ zT := zT_in (List.mem_append_right _ (List.mem_append_left _ (List.mem_of_getElem? (l := tables_1_1) (i := 217) rfl))) rfl
theorem mi_P_byteAt : (.instanceMethod yP_byteAt : Cond) ∈ zT := zT_in (List.mem_append_right _ (List.mem_append_left _ (List.mem_of_getElem? (l := tables_1_1) (i := 218) rfl))) rfl
theorem ms_P_byteAt : (.selects "PolynomialDesk$Printer" yP_byteAt yP_byteAt : Cond) ∈ zT := zT_in (List.mem_append_right _ (List.mem_append_left _ (List.mem_of_getElem? (l := tables_1_1) (i := 219) rfl))) rfl
theorem ml_L_47 : (.methodLink "PolynomialDeskLaw" 47 yL_field : Cond) ∈ zT := zT_in (List.mem_append_right _ (List.mem_append_left _ (List.mem_of_getElem? (l := tables_1_1) (i := 221) rfl))) rfl
theorem mt_L_field : (.static yL_field : Cond) ∈ zT := zT_in (List.mem_append_right _ (List.mem_append_left _ (List.mem_of_getElem? (l := tables_1_1) (i := 222) rfl))) rfl
theorem mc_L_13 : (.classLink "PolynomialDeskLaw" 13 "java/lang/IllegalArgumentException" : Cond) ∈ zT := zT_in (List.mem_append_right _ (List.mem_append_left _ (List.mem_of_getElem? (l := tables_1_1) (i := 224) rfl))) rfl
theorem ml_L_7 : (.methodLink "PolynomialDeskLaw" 7 yK_field : Cond) ∈ zT := zT_in (List.mem_append_right _ (List.mem_append_left _ (List.mem_of_getElem? (l := tables_1_1) (i := 225) rfl))) rfl
theorem mi_K_field : (.instanceMethod yK_field : Cond) ∈ zT := zT_in (List.mem_append_right _ (List.mem_append_left _ (List.mem_of_getElem? (l := tables_1_1) (i := 226) rfl))) rfl
theorem ms_K_field : (.selects "PolynomialDesk" yK_field yK_field : Cond) ∈ zT := zT_in (List.mem_append_right _ (List.mem_append_left _ (List.mem_of_getElem? (l := tables_1_1) (i := 227) rfl))) rfl
theorem ml_K_45 : (.methodLink "PolynomialDesk" 45 yK_isPrime : Cond) ∈ zT := zT_in (List.mem_append_right _ (List.mem_append_left _ (List.mem_of_getElem? (l := tables_1_1) (i := 229) rfl))) rfl
theorem mt_K_isPrime : (.static yK_isPrime : Cond) ∈ zT := zT_in (List.mem_append_right _ (List.mem_append_left _ (List.mem_of_getElem? (l := tables_1_1) (i := 230) rfl))) rfl
theorem mc_K_49 : (.classLink "PolynomialDesk" 49 "java/lang/IllegalArgumentException" : Cond) ∈ zT := zT_in (List.mem_append_right _ (List.mem_append_left _ (List.mem_of_getElem? (l := tables_1_1) (i := 232) rfl))) rfl
theorem ml_K_53 : (.methodLink "PolynomialDesk" 53 ⟨"java/lang/IllegalArgumentException", "<init>", "(Ljava/lang/String;)V"⟩ : Cond) ∈ zT := zT_in (List.mem_append_right _ (List.mem_append_right _ (List.mem_append_left _ (List.mem_of_getElem? (l := tables_1_2) (i := 34) rfl)))) rfl
theorem ma_byte : (.arrayClass .byte : Cond) ∈ zT := zT_in (List.mem_append_right _ (List.mem_append_right _ (List.mem_append_left _ (List.mem_of_getElem? (l := tables_1_2) (i := 59) rfl)))) rfl
theorem ml_K_60 : (.methodLink "PolynomialDesk" 60 yJ_fill : Cond) ∈ zT := zT_in (List.mem_append_right _ (List.mem_append_right _ (List.mem_append_left _ (List.mem_of_getElem? (l := tables_1_2) (i := 62) rfl)))) rfl
theorem ml_K_66 : (.methodLink "PolynomialDesk" 66 yP_clear : Cond) ∈ zT := zT_in (List.mem_append_right _ (List.mem_append_right _ (List.mem_append_left _ (List.mem_of_getElem? (l := tables_1_2) (i := 63) rfl)))) rfl
theorem mi_P_clear : (.instanceMethod yP_clear : Cond) ∈ zT := zT_in (List.mem_append_right _ (List.mem_append_right _ (List.mem_append_left _ (List.mem_of_getElem? (l := tables_1_2) (i := 64) rfl)))) rfl
theorem ms_P_clear : (.selects "PolynomialDesk$Printer" yP_clear yP_clear : Cond) ∈ zT := zT_in (List.mem_append_right _ (List.mem_append_right _ (List.mem_append_left _ (List.mem_of_getElem? (l := tables_1_2) (i := 65) rfl)))) rfl
theorem ml_L_64 : (.methodLink "PolynomialDeskLaw" 64 yL_read : Cond) ∈ zT := zT_in (List.mem_append_right _ (List.mem_append_right _ (List.mem_append_left _ (List.mem_of_getElem? (l := tables_1_2) (i := 67) rfl)))) rfl
theorem mt_L_read : (.static yL_read : Cond) ∈ zT := zT_in (List.mem_append_right _ (List.mem_append_right _ (List.mem_append_left _ (List.mem_of_getElem? (l := tables_1_2) (i := 68) rfl)))) rfl
theorem mc_L_19 : (.classLink "PolynomialDeskLaw" 19 "java/lang/IndexOutOfBoundsException" : Cond) ∈ zT := zT_in (List.mem_append_right _ (List.mem_append_right _ (List.mem_append_left _ (List.mem_of_getElem? (l := tables_1_2) (i := 70) rfl)))) rfl
theorem ml_L_15 : (.methodLink "PolynomialDeskLaw" 15 yK_read : Cond) ∈ zT := zT_in (List.mem_append_right _ (List.mem_append_right _ (List.mem_append_left _ (List.mem_of_getElem? (l := tables_1_2) (i := 71) rfl)))) rfl
theorem mi_K_read : (.instanceMethod yK_read : Cond) ∈ zT := zT_in (List.mem_append_right _ (List.mem_append_right _ (List.mem_append_left _ (List.mem_of_getElem? (l := tables_1_2) (i := 72) rfl)))) rfl
theorem ms_K_read : (.selects "PolynomialDesk" yK_read yK_read : Cond) ∈ zT := zT_in (List.mem_append_right _ (List.mem_append_right _ (List.mem_append_left _ (List.mem_of_getElem? (l := tables_1_2) (i := 73) rfl)))) rfl
theorem ml_K_73 : (.methodLink "PolynomialDesk" 73 yK_requirePolynomial : Cond) ∈ zT := zT_in (List.mem_append_right _ (List.mem_append_right _ (List.mem_append_left _ (List.mem_of_getElem? (l := tables_1_2) (i := 75) rfl)))) rfl
theorem mt_K_requirePolynomial : (.static yK_requirePolynomial : Cond) ∈ zT := zT_in (List.mem_append_right _ (List.mem_append_right _ (List.mem_append_left _ (List.mem_of_getElem? (l := tables_1_2) (i := 76) rfl)))) rfl
theorem mc_K_147 : (.classLink "PolynomialDesk" 147 "java/lang/IndexOutOfBoundsException" : Cond) ∈ zT := zT_in (List.mem_append_right _ (List.mem_append_right _ (List.mem_append_left _ (List.mem_of_getElem? (l := tables_1_2) (i := 78) rfl)))) rfl
theorem ml_K_151 : (.methodLink "PolynomialDesk" 151 ⟨"java/lang/IndexOutOfBoundsException", "<init>", "(Ljava/lang/String;)V"⟩ : Cond) ∈ zT := zT_in (List.mem_append_right _ (List.mem_append_right _ (List.mem_append_left _ (List.mem_of_getElem? (l := tables_1_2) (i := 88) rfl)))) rfl
theorem ml_K_77 : (.methodLink "PolynomialDesk" 77 yE_readText : Cond) ∈ zT := zT_in (List.mem_append_right _ (List.mem_append_right _ (List.mem_append_left _ (List.mem_of_getElem? (l := tables_1_2) (i := 94) rfl)))) rfl
theorem mi_E_readText : (.instanceMethod yE_readText : Cond) ∈ zT := zT_in (List.mem_append_right _ (List.mem_append_right _ (List.mem_append_left _ (List.mem_of_getElem? (l := tables_1_2) (i := 95) rfl)))) rfl
theorem ms_E_readText : (.selects "PolynomialDesk$Reader" yE_readText yE_readText : Cond) ∈ zT := zT_in (List.mem_append_right _ (List.mem_append_right _ (List.mem_append_left _ (List.mem_of_getElem? (l := tables_1_2) (i := 96) rfl)))) rfl
theorem ml_E_48 : (.methodLink "PolynomialDesk$Reader" 48 yE_readSum : Cond) ∈ zT := zT_in (List.mem_append_right _ (List.mem_append_right _ (List.mem_append_left _ (List.mem_of_getElem? (l := tables_1_2) (i := 98) rfl)))) rfl
theorem mi_E_readSum : (.instanceMethod yE_readSum : Cond) ∈ zT := zT_in (List.mem_append_right _ (List.mem_append_right _ (List.mem_append_left _ (List.mem_of_getElem? (l := tables_1_2) (i := 100) rfl)))) rfl
theorem ml_E_64 : (.methodLink "PolynomialDesk$Reader" 64 yJ_fill : Cond) ∈ zT := zT_in (List.mem_append_right _ (List.mem_append_right _ (List.mem_append_left _ (List.mem_of_getElem? (l := tables_1_2) (i := 102) rfl)))) rfl
theorem ml_E_52 : (.methodLink "PolynomialDesk$Reader" 52 yE_nextByte : Cond) ∈ zT := zT_in (List.mem_append_right _ (List.mem_append_right _ (List.mem_append_left _ (List.mem_of_getElem? (l := tables_1_2) (i := 103) rfl)))) rfl
theorem mi_E_nextByte : (.instanceMethod yE_nextByte : Cond) ∈ zT := zT_in (List.mem_append_right _ (List.mem_append_right _ (List.mem_append_left _ (List.mem_of_getElem? (l := tables_1_2) (i := 105) rfl)))) rfl
theorem ml_E_70 : (.methodLink "PolynomialDesk$Reader" 70 yE_readTerm : Cond) ∈ zT := zT_in (List.mem_append_right _ (List.mem_append_right _ (List.mem_append_left _ (List.mem_of_getElem? (l := tables_1_2) (i := 107) rfl)))) rfl
theorem mi_E_readTerm : (.instanceMethod yE_readTerm : Cond) ∈ zT := zT_in (List.mem_append_right _ (List.mem_append_right _ (List.mem_append_left _ (List.mem_of_getElem? (l := tables_1_2) (i := 109) rfl)))) rfl
theorem ml_E_81 : (.methodLink "PolynomialDesk$Reader" 81 yE_readFactor : Cond) ∈ zT := zT_in (List.mem_append_right _ (List.mem_append_right _ (List.mem_append_left _ (List.mem_of_getElem? (l := tables_1_2) (i := 111) rfl)))) rfl
theorem mi_E_readFactor : (.instanceMethod yE_readFactor : Cond) ∈ zT := zT_in (List.mem_append_right _ (List.mem_append_right _ (List.mem_append_left _ (List.mem_of_getElem? (l := tables_1_2) (i := 113) rfl)))) rfl
theorem ml_E_92 : (.methodLink "PolynomialDesk$Reader" 92 yE_readBareFactor : Cond) ∈ zT := zT_in (List.mem_append_right _ (List.mem_append_right _ (List.mem_append_left _ (List.mem_of_getElem? (l := tables_1_2) (i := 115) rfl)))) rfl
theorem mi_E_readBareFactor : (.instanceMethod yE_readBareFactor : Cond) ∈ zT := zT_in (List.mem_append_right _ (List.mem_append_right _ (List.mem_append_left _ (List.mem_of_getElem? (l := tables_1_2) (i := 117) rfl)))) rfl
theorem ml_E_107 : (.methodLink "PolynomialDesk$Reader" 107 yE_variableOf : Cond) ∈ zT := zT_in (List.mem_append_right _ (List.mem_append_right _ (List.mem_append_left _ (List.mem_of_getElem? (l := tables_1_2) (i := 119) rfl)))) rfl
theorem mt_E_variableOf : (.static yE_variableOf : Cond) ∈ zT := zT_in (List.mem_append_right _ (List.mem_append_right _ (List.mem_append_left _ (List.mem_of_getElem? (l := tables_1_2) (i := 120) rfl)))) rfl
theorem ml_E_110 : (.methodLink "PolynomialDesk$Reader" 110 yE_isDigit : Cond) ∈ zT := zT_in (List.mem_append_right _ (List.mem_append_right _ (List.mem_append_left _ (List.mem_of_getElem? (l := tables_1_2) (i := 122) rfl)))) rfl
theorem mt_E_isDigit : (.static yE_isDigit : Cond) ∈ zT := zT_in (List.mem_append_right _ (List.mem_append_right _ (List.mem_append_left _ (List.mem_of_getElem? (l := tables_1_2) (i := 123) rfl)))) rfl
theorem ml_E_95 : (.methodLink "PolynomialDesk$Reader" 95 yE_readNumber : Cond) ∈ zT := zT_in (List.mem_append_right _ (List.mem_append_right _ (List.mem_append_left _ (List.mem_of_getElem? (l := tables_1_2) (i := 125) rfl)))) rfl
theorem mi_E_readNumber : (.instanceMethod yE_readNumber : Cond) ∈ zT := zT_in (List.mem_append_right _ (List.mem_append_right _ (List.mem_append_left _ (List.mem_of_getElem? (l := tables_1_2) (i := 127) rfl)))) rfl
theorem ml_E_56 : (.methodLink "PolynomialDesk$Reader" 56 yE_noteFault : Cond) ∈ zT := zT_in (List.mem_append_right _ (List.mem_append_right _ (List.mem_append_left _ (List.mem_of_getElem? (l := tables_1_2) (i := 129) rfl)))) rfl
theorem mi_E_noteFault : (.instanceMethod yE_noteFault : Cond) ∈ zT := zT_in (List.mem_append_right _ (List.mem_append_right _ (List.mem_append_left _ (List.mem_of_getElem? (l := tables_1_2) (i := 131) rfl)))) rfl
theorem ml_E_113 : (.methodLink "PolynomialDesk$Reader" 113 yR_writeNumber : Cond) ∈ zT := zT_in (List.mem_append_right _ (List.mem_append_right _ (List.mem_append_left _ (List.mem_of_getElem? (l := tables_1_2) (i := 133) rfl)))) rfl
theorem mi_R_writeNumber : (.instanceMethod yR_writeNumber : Cond) ∈ zT := zT_in (List.mem_append_right _ (List.mem_append_right _ (List.mem_append_left _ (List.mem_of_getElem? (l := tables_1_2) (i := 134) rfl)))) rfl
theorem ms_R_writeNumber : (.selects "PolynomialDesk$Ring" yR_writeNumber yR_writeNumber : Cond) ∈ zT := zT_in (List.mem_append_right _ (List.mem_append_right _ (List.mem_append_left _ (List.mem_of_getElem? (l := tables_1_2) (i := 135) rfl)))) rfl
theorem ml_R_78 : (.methodLink "PolynomialDesk$Ring" 78 yR_reduce : Cond) ∈ zT := zT_in (List.mem_append_right _ (List.mem_append_right _ (List.mem_append_left _ (List.mem_of_getElem? (l := tables_1_2) (i := 137) rfl)))) rfl
theorem mi_R_reduce : (.instanceMethod yR_reduce : Cond) ∈ zT := zT_in (List.mem_append_right _ (List.mem_append_right _ (List.mem_append_left _ (List.mem_of_getElem? (l := tables_1_2) (i := 139) rfl)))) rfl
theorem ml_R_82 : (.methodLink "PolynomialDesk$Ring" 82 yR_addAt : Cond) ∈ zT := zT_in (List.mem_append_right _ (List.mem_append_right _ (List.mem_append_left _ (List.mem_of_getElem? (l := tables_1_2) (i := 141) rfl)))) rfl
theorem mi_R_addAt : (.instanceMethod yR_addAt : Cond) ∈ zT := zT_in (List.mem_append_right _ (List.mem_append_right _ (List.mem_append_left _ (List.mem_of_getElem? (l := tables_1_2) (i := 143) rfl)))) rfl
theorem ml_E_117 : (.methodLink "PolynomialDesk$Reader" 117 yR_variables : Cond) ∈ zT := zT_in (List.mem_append_right _ (List.mem_append_right _ (List.mem_append_left _ (List.mem_of_getElem? (l := tables_1_2) (i := 145) rfl)))) rfl
theorem mi_R_variables : (.instanceMethod yR_variables : Cond) ∈ zT := zT_in (List.mem_append_right _ (List.mem_append_right _ (List.mem_append_left _ (List.mem_of_getElem? (l := tables_1_2) (i := 146) rfl)))) rfl
theorem ms_R_variables : (.selects "PolynomialDesk$Ring" yR_variables yR_variables : Cond) ∈ zT := zT_in (List.mem_append_right _ (List.mem_append_right _ (List.mem_append_left _ (List.mem_of_getElem? (l := tables_1_2) (i := 147) rfl)))) rfl
theorem ml_E_120 : (.methodLink "PolynomialDesk$Reader" 120 yR_writeVariable : Cond) ∈ zT := zT_in (List.mem_append_right _ (List.mem_append_right _ (List.mem_append_left _ (List.mem_of_getElem? (l := tables_1_2) (i := 149) rfl)))) rfl
theorem mi_R_writeVariable : (.instanceMethod yR_writeVariable : Cond) ∈ zT := zT_in (List.mem_append_right _ (List.mem_append_right _ (List.mem_append_left _ (List.mem_of_getElem? (l := tables_1_2) (i := 150) rfl)))) rfl
theorem ms_R_writeVariable : (.selects "PolynomialDesk$Ring" yR_writeVariable yR_writeVariable : Cond) ∈ zT := zT_in (List.mem_append_right _ (List.mem_append_right _ (List.mem_append_left _ (List.mem_of_getElem? (l := tables_1_2) (i := 151) rfl)))) rfl
theorem ml_E_123 : (.methodLink "PolynomialDesk$Reader" 123 yE_readGroup : Cond) ∈ zT := zT_in (List.mem_append_right _ (List.mem_append_right _ (List.mem_append_left _ (List.mem_of_getElem? (l := tables_1_2) (i := 153) rfl)))) rfl
theorem mi_E_readGroup : (.instanceMethod yE_readGroup : Cond) ∈ zT := zT_in (List.mem_append_right _ (List.mem_append_right _ (List.mem_append_left _ (List.mem_of_getElem? (l := tables_1_2) (i := 155) rfl)))) rfl
theorem ml_E_60 : (.methodLink "PolynomialDesk$Reader" 60 yR_writeCopy : Cond) ∈ zT := zT_in (List.mem_append_right _ (List.mem_append_right _ (List.mem_append_left _ (List.mem_of_getElem? (l := tables_1_2) (i := 157) rfl)))) rfl
theorem mi_R_writeCopy : (.instanceMethod yR_writeCopy : Cond) ∈ zT := zT_in (List.mem_append_right _ (List.mem_append_right _ (List.mem_append_left _ (List.mem_of_getElem? (l := tables_1_2) (i := 158) rfl)))) rfl
theorem ms_R_writeCopy : (.selects "PolynomialDesk$Ring" yR_writeCopy yR_writeCopy : Cond) ∈ zT := zT_in (List.mem_append_right _ (List.mem_append_right _ (List.mem_append_left _ (List.mem_of_getElem? (l := tables_1_2) (i := 159) rfl)))) rfl
theorem ml_R_86 : (.methodLink "PolynomialDesk$Ring" 86 ⟨"java/lang/System", "arraycopy", "(Ljava/lang/Object;ILjava/lang/Object;II)V"⟩ : Cond) ∈ zT := zT_in (List.mem_append_right _ (List.mem_append_right _ (List.mem_append_left _ (List.mem_of_getElem? (l := tables_1_2) (i := 161) rfl)))) rfl
theorem mt_copy : (.static ⟨"java/lang/System", "arraycopy", "(Ljava/lang/Object;ILjava/lang/Object;II)V"⟩ : Cond) ∈ zT := zT_in (List.mem_append_right _ (List.mem_append_right _ (List.mem_append_left _ (List.mem_of_getElem? (l := tables_1_2) (i := 162) rfl)))) rfl
theorem mx_copy : (.native ⟨"java/lang/System", "arraycopy", "(Ljava/lang/Object;ILjava/lang/Object;II)V"⟩ : Cond) ∈ zT := zT_in (List.mem_append_right _ (List.mem_append_right _ (List.mem_append_left _ (List.mem_of_getElem? (l := tables_1_2) (i := 163) rfl)))) rfl
theorem ml_E_99 : (.methodLink "PolynomialDesk$Reader" 99 yR_isPowerTooHigh : Cond) ∈ zT := zT_in (List.mem_append_right _ (List.mem_append_right _ (List.mem_append_left _ (List.mem_of_getElem? (l := tables_1_2) (i := 164) rfl)))) rfl
theorem mi_R_isPowerTooHigh : (.instanceMethod yR_isPowerTooHigh : Cond) ∈ zT := zT_in (List.mem_append_right _ (List.mem_append_right _ (List.mem_append_left _ (List.mem_of_getElem? (l := tables_1_2) (i := 165) rfl)))) rfl
theorem ms_R_isPowerTooHigh : (.selects "PolynomialDesk$Ring" yR_isPowerTooHigh yR_isPowerTooHigh : Cond) ∈ zT := zT_in (List.mem_append_right _ (List.mem_append_right _ (List.mem_append_left _ (List.mem_of_getElem? (l := tables_1_2) (i := 166) rfl)))) rfl
theorem ml_R_75 : (.methodLink "PolynomialDesk$Ring" 75 yR_degreeOf : Cond) ∈ zT := zT_in (List.mem_append_right _ (List.mem_append_right _ (List.mem_append_left _ (List.mem_of_getElem? (l := tables_1_2) (i := 168) rfl)))) rfl
theorem ml_E_103 : (.methodLink "PolynomialDesk$Reader" 103 yR_writePower : Cond) ∈ zT := zT_in (List.mem_append_right _ (List.mem_append_right _ (List.mem_append_left _ (List.mem_of_getElem? (l := tables_1_2) (i := 169) rfl)))) rfl
theorem mi_R_writePower : (.instanceMethod yR_writePower : Cond) ∈ zT := zT_in (List.mem_append_right _ (List.mem_append_right _ (List.mem_append_left _ (List.mem_of_getElem? (l := tables_1_2) (i := 170) rfl)))) rfl
theorem ms_R_writePower : (.selects "PolynomialDesk$Ring" yR_writePower yR_writePower : Cond) ∈ zT := zT_in (List.mem_append_right _ (List.mem_append_right _ (List.mem_append_left _ (List.mem_of_getElem? (l := tables_1_2) (i := 171) rfl)))) rfl
theorem ml_R_92 : (.methodLink "PolynomialDesk$Ring" 92 yR_writeNumber : Cond) ∈ zT := zT_in (List.mem_append_right _ (List.mem_append_right _ (List.mem_append_left _ (List.mem_of_getElem? (l := tables_1_2) (i := 173) rfl)))) rfl
theorem ml_R_96 : (.methodLink "PolynomialDesk$Ring" 96 yR_writeProduct : Cond) ∈ zT := zT_in (List.mem_append_right _ (List.mem_append_right _ (List.mem_append_left _ (List.mem_of_getElem? (l := tables_1_2) (i := 174) rfl)))) rfl
theorem mi_R_writeProduct : (.instanceMethod yR_writeProduct : Cond) ∈ zT := zT_in (List.mem_append_right _ (List.mem_append_right _ (List.mem_append_left _ (List.mem_of_getElem? (l := tables_1_2) (i := 175) rfl)))) rfl
theorem ms_R_writeProduct : (.selects "PolynomialDesk$Ring" yR_writeProduct yR_writeProduct : Cond) ∈ zT := zT_in (List.mem_append_right _ (List.mem_append_right _ (List.mem_append_left _ (List.mem_of_getElem? (l := tables_1_2) (i := 176) rfl)))) rfl
theorem ml_E_84 : (.methodLink "PolynomialDesk$Reader" 84 yR_isProductTooHigh : Cond) ∈ zT := zT_in (List.mem_append_right _ (List.mem_append_right _ (List.mem_append_left _ (List.mem_of_getElem? (l := tables_1_2) (i := 178) rfl)))) rfl
theorem mi_R_isProductTooHigh : (.instanceMethod yR_isProductTooHigh : Cond) ∈ zT := zT_in (List.mem_append_right _ (List.mem_append_right _ (List.mem_append_left _ (List.mem_of_getElem? (l := tables_1_2) (i := 179) rfl)))) rfl
theorem ms_R_isProductTooHigh : (.selects "PolynomialDesk$Ring" yR_isProductTooHigh yR_isProductTooHigh : Cond) ∈ zT := zT_in (List.mem_append_right _ (List.mem_append_right _ (List.mem_append_left _ (List.mem_of_getElem? (l := tables_1_2) (i := 180) rfl)))) rfl
theorem ml_E_88 : (.methodLink "PolynomialDesk$Reader" 88 yR_writeProduct : Cond) ∈ zT := zT_in (List.mem_append_right _ (List.mem_append_right _ (List.mem_append_left _ (List.mem_of_getElem? (l := tables_1_2) (i := 182) rfl)))) rfl
theorem ml_E_73 : (.methodLink "PolynomialDesk$Reader" 73 yR_writeSum : Cond) ∈ zT := zT_in (List.mem_append_right _ (List.mem_append_right _ (List.mem_append_left _ (List.mem_of_getElem? (l := tables_1_2) (i := 183) rfl)))) rfl
theorem mi_R_writeSum : (.instanceMethod yR_writeSum : Cond) ∈ zT := zT_in (List.mem_append_right _ (List.mem_append_right _ (List.mem_append_left _ (List.mem_of_getElem? (l := tables_1_2) (i := 184) rfl)))) rfl
theorem ms_R_writeSum : (.selects "PolynomialDesk$Ring" yR_writeSum yR_writeSum : Cond) ∈ zT := zT_in (List.mem_append_right _ (List.mem_append_right _ (List.mem_append_left _ (List.mem_of_getElem? (l := tables_1_2) (i := 185) rfl)))) rfl
theorem ml_E_77 : (.methodLink "PolynomialDesk$Reader" 77 yE_isSign : Cond) ∈ zT := zT_in (List.mem_append_right _ (List.mem_append_right _ (List.mem_append_left _ (List.mem_of_getElem? (l := tables_1_2) (i := 187) rfl)))) rfl
theorem mt_E_isSign : (.static yE_isSign : Cond) ∈ zT := zT_in (List.mem_append_right _ (List.mem_append_right _ (List.mem_append_left _ (List.mem_of_getElem? (l := tables_1_2) (i := 188) rfl)))) rfl
theorem ml_L_72 : (.methodLink "PolynomialDeskLaw" 72 yL_add : Cond) ∈ zT := zT_in (List.mem_append_right _ (List.mem_append_right _ (List.mem_append_left _ (List.mem_of_getElem? (l := tables_1_2) (i := 191) rfl)))) rfl
theorem mt_L_add : (.static yL_add : Cond) ∈ zT := zT_in (List.mem_append_right _ (List.mem_append_right _ (List.mem_append_left _ (List.mem_of_getElem? (l := tables_1_2) (i := 192) rfl)))) rfl
theorem ml_L_21 : (.methodLink "PolynomialDeskLaw" 21 yK_add : Cond) ∈ zT := zT_in (List.mem_append_right _ (List.mem_append_right _ (List.mem_append_left _ (List.mem_of_getElem? (l := tables_1_2) (i := 194) rfl)))) rfl
theorem mi_K_add : (.instanceMethod yK_add : Cond) ∈ zT := zT_in (List.mem_append_right _ (List.mem_append_right _ (List.mem_append_left _ (List.mem_of_getElem? (l := tables_1_2) (i := 195) rfl)))) rfl
theorem ms_K_add : (.selects "PolynomialDesk" yK_add yK_add : Cond) ∈ zT := zT_in (List.mem_append_right _ (List.mem_append_right _ (List.mem_append_left _ (List.mem_of_getElem? (l := tables_1_2) (i := 196) rfl)))) rfl
theorem ml_K_94 : (.methodLink "PolynomialDesk" 94 yR_writeSum : Cond) ∈ zT := zT_in (List.mem_append_right _ (List.mem_append_right _ (List.mem_append_left _ (List.mem_of_getElem? (l := tables_1_2) (i := 198) rfl)))) rfl
theorem ml_L_76 : (.methodLink "PolynomialDeskLaw" 76 yL_multiply : Cond) ∈ zT := zT_in (List.mem_append_right _ (List.mem_append_right _ (List.mem_append_left _ (List.mem_of_getElem? (l := tables_1_2) (i := 199) rfl)))) rfl
theorem mt_L_multiply : (.static yL_multiply : Cond) ∈ zT := zT_in (List.mem_append_right _ (List.mem_append_right _ (List.mem_append_left _ (List.mem_of_getElem? (l := tables_1_2) (i := 200) rfl)))) rfl
theorem mc_L_28 : (.classLink "PolynomialDeskLaw" 28 "java/lang/IllegalStateException" : Cond) ∈ zT := zT_in (List.mem_append_right _ (List.mem_append_right _ (List.mem_append_left _ (List.mem_of_getElem? (l := tables_1_2) (i := 202) rfl)))) rfl
theorem ml_L_25 : (.methodLink "PolynomialDeskLaw" 25 yK_multiply : Cond) ∈ zT := zT_in (List.mem_append_right _ (List.mem_append_right _ (List.mem_append_left _ (List.mem_of_getElem? (l := tables_1_2) (i := 203) rfl)))) rfl
theorem mi_K_multiply : (.instanceMethod yK_multiply : Cond) ∈ zT := zT_in (List.mem_append_right _ (List.mem_append_right _ (List.mem_append_left _ (List.mem_of_getElem? (l := tables_1_2) (i := 204) rfl)))) rfl
theorem ms_K_multiply : (.selects "PolynomialDesk" yK_multiply yK_multiply : Cond) ∈ zT := zT_in (List.mem_append_right _ (List.mem_append_right _ (List.mem_append_left _ (List.mem_of_getElem? (l := tables_1_2) (i := 205) rfl)))) rfl
theorem ml_K_98 : (.methodLink "PolynomialDesk" 98 yR_isProductTooHigh : Cond) ∈ zT := zT_in (List.mem_append_right _ (List.mem_append_right _ (List.mem_append_left _ (List.mem_of_getElem? (l := tables_1_2) (i := 207) rfl)))) rfl
theorem mc_K_102 : (.classLink "PolynomialDesk" 102 "java/lang/IllegalStateException" : Cond) ∈ zT := zT_in (List.mem_append_right _ (List.mem_append_right _ (List.mem_append_left _ (List.mem_of_getElem? (l := tables_1_2) (i := 208) rfl)))) rfl
theorem ml_K_106 : (.methodLink "PolynomialDesk" 106 ⟨"java/lang/IllegalStateException", "<init>", "(Ljava/lang/String;)V"⟩ : Cond) ∈ zT := zT_in (List.mem_append_right _ (List.mem_append_right _ (List.mem_append_left _ (List.mem_of_getElem? (l := tables_1_2) (i := 218) rfl)))) rfl
theorem ml_K_107 : (.methodLink "PolynomialDesk" 107 yR_writeProduct : Cond) ∈ zT := zT_in (List.mem_append_right _ (List.mem_append_right _ (List.mem_append_left _ (List.mem_of_getElem? (l := tables_1_2) (i := 224) rfl)))) rfl
theorem ml_L_79 : (.methodLink "PolynomialDeskLaw" 79 yL_derive : Cond) ∈ zT := zT_in (List.mem_append_right _ (List.mem_append_right _ (List.mem_append_left _ (List.mem_of_getElem? (l := tables_1_2) (i := 225) rfl)))) rfl
theorem mt_L_derive : (.static yL_derive : Cond) ∈ zT := zT_in (List.mem_append_right _ (List.mem_append_right _ (List.mem_append_left _ (List.mem_of_getElem? (l := tables_1_2) (i := 226) rfl)))) rfl
theorem ml_L_30 : (.methodLink "PolynomialDeskLaw" 30 yK_derive : Cond) ∈ zT := zT_in (List.mem_append_right _ (List.mem_append_right _ (List.mem_append_left _ (List.mem_of_getElem? (l := tables_1_2) (i := 228) rfl)))) rfl
theorem mi_K_derive : (.instanceMethod yK_derive : Cond) ∈ zT := zT_in (List.mem_append_right _ (List.mem_append_right _ (List.mem_append_left _ (List.mem_of_getElem? (l := tables_1_2) (i := 229) rfl)))) rfl
theorem ms_K_derive : (.selects "PolynomialDesk" yK_derive yK_derive : Cond) ∈ zT := zT_in (List.mem_append_right _ (List.mem_append_right _ (List.mem_append_left _ (List.mem_of_getElem? (l := tables_1_2) (i := 230) rfl)))) rfl
theorem ml_K_111 : (.methodLink "PolynomialDesk" 111 yK_requireVariable : Cond) ∈ zT := zT_in (List.mem_append_right _ (List.mem_append_right _ (List.mem_append_left _ (List.mem_of_getElem? (l := tables_1_2) (i := 232) rfl)))) rfl
theorem mi_K_requireVariable : (.instanceMethod yK_requireVariable : Cond) ∈ zT := zT_in (List.mem_append_right _ (List.mem_append_right _ (List.mem_append_left _ (List.mem_of_getElem? (l := tables_1_2) (i := 234) rfl)))) rfl
theorem ml_K_152 : (.methodLink "PolynomialDesk" 152 yR_variables : Cond) ∈ zT := zT_in (List.mem_append_right _ (List.mem_append_right _ (List.mem_append_left _ (List.mem_of_getElem? (l := tables_1_2) (i := 236) rfl)))) rfl
theorem ml_K_114 : (.methodLink "PolynomialDesk" 114 yR_writeDerivative : Cond) ∈ zT := zT_in (List.mem_append_right _ (List.mem_append_right _ (List.mem_append_left _ (List.mem_of_getElem? (l := tables_1_2) (i := 238) rfl)))) rfl
theorem mi_R_writeDerivative : (.instanceMethod yR_writeDerivative : Cond) ∈ zT := zT_in (List.mem_append_right _ (List.mem_append_right _ (List.mem_append_left _ (List.mem_of_getElem? (l := tables_1_2) (i := 239) rfl)))) rfl
theorem ms_R_writeDerivative : (.selects "PolynomialDesk$Ring" yR_writeDerivative yR_writeDerivative : Cond) ∈ zT := zT_in (List.mem_append_right _ (List.mem_append_right _ (List.mem_append_right _ (List.mem_append_left _ (List.mem_of_getElem? (l := tables_1_3) (i := 0) rfl))))) rfl
theorem ml_R_100 : (.methodLink "PolynomialDesk$Ring" 100 yR_exponentOf : Cond) ∈ zT := zT_in (List.mem_append_right _ (List.mem_append_right _ (List.mem_append_right _ (List.mem_append_left _ (List.mem_of_getElem? (l := tables_1_3) (i := 2) rfl))))) rfl
theorem ml_L_82 : (.methodLink "PolynomialDeskLaw" 82 yL_set : Cond) ∈ zT := zT_in (List.mem_append_right _ (List.mem_append_right _ (List.mem_append_right _ (List.mem_append_left _ (List.mem_of_getElem? (l := tables_1_3) (i := 3) rfl))))) rfl
theorem mt_L_set : (.static yL_set : Cond) ∈ zT := zT_in (List.mem_append_right _ (List.mem_append_right _ (List.mem_append_right _ (List.mem_append_left _ (List.mem_of_getElem? (l := tables_1_3) (i := 4) rfl))))) rfl
theorem ml_L_33 : (.methodLink "PolynomialDeskLaw" 33 yK_set : Cond) ∈ zT := zT_in (List.mem_append_right _ (List.mem_append_right _ (List.mem_append_right _ (List.mem_append_left _ (List.mem_of_getElem? (l := tables_1_3) (i := 6) rfl))))) rfl
theorem mi_K_set : (.instanceMethod yK_set : Cond) ∈ zT := zT_in (List.mem_append_right _ (List.mem_append_right _ (List.mem_append_right _ (List.mem_append_left _ (List.mem_of_getElem? (l := tables_1_3) (i := 7) rfl))))) rfl
theorem ms_K_set : (.selects "PolynomialDesk" yK_set yK_set : Cond) ∈ zT := zT_in (List.mem_append_right _ (List.mem_append_right _ (List.mem_append_right _ (List.mem_append_left _ (List.mem_of_getElem? (l := tables_1_3) (i := 8) rfl))))) rfl
theorem ml_K_118 : (.methodLink "PolynomialDesk" 118 yR_writeSubstitute : Cond) ∈ zT := zT_in (List.mem_append_right _ (List.mem_append_right _ (List.mem_append_right _ (List.mem_append_left _ (List.mem_of_getElem? (l := tables_1_3) (i := 10) rfl))))) rfl
theorem mi_R_writeSubstitute : (.instanceMethod yR_writeSubstitute : Cond) ∈ zT := zT_in (List.mem_append_right _ (List.mem_append_right _ (List.mem_append_right _ (List.mem_append_left _ (List.mem_of_getElem? (l := tables_1_3) (i := 11) rfl))))) rfl
theorem ms_R_writeSubstitute : (.selects "PolynomialDesk$Ring" yR_writeSubstitute yR_writeSubstitute : Cond) ∈ zT := zT_in (List.mem_append_right _ (List.mem_append_right _ (List.mem_append_right _ (List.mem_append_left _ (List.mem_of_getElem? (l := tables_1_3) (i := 12) rfl))))) rfl
theorem ml_R_104 : (.methodLink "PolynomialDesk$Ring" 104 yR_timesPower : Cond) ∈ zT := zT_in (List.mem_append_right _ (List.mem_append_right _ (List.mem_append_right _ (List.mem_append_left _ (List.mem_of_getElem? (l := tables_1_3) (i := 14) rfl))))) rfl
theorem mi_R_timesPower : (.instanceMethod yR_timesPower : Cond) ∈ zT := zT_in (List.mem_append_right _ (List.mem_append_right _ (List.mem_append_right _ (List.mem_append_left _ (List.mem_of_getElem? (l := tables_1_3) (i := 16) rfl))))) rfl
theorem ml_L_85 : (.methodLink "PolynomialDeskLaw" 85 yL_value : Cond) ∈ zT := zT_in (List.mem_append_right _ (List.mem_append_right _ (List.mem_append_right _ (List.mem_append_left _ (List.mem_of_getElem? (l := tables_1_3) (i := 18) rfl))))) rfl
theorem mt_L_value : (.static yL_value : Cond) ∈ zT := zT_in (List.mem_append_right _ (List.mem_append_right _ (List.mem_append_right _ (List.mem_append_left _ (List.mem_of_getElem? (l := tables_1_3) (i := 19) rfl))))) rfl
theorem ml_L_36 : (.methodLink "PolynomialDeskLaw" 36 yK_value : Cond) ∈ zT := zT_in (List.mem_append_right _ (List.mem_append_right _ (List.mem_append_right _ (List.mem_append_left _ (List.mem_of_getElem? (l := tables_1_3) (i := 21) rfl))))) rfl
theorem mi_K_value : (.instanceMethod yK_value : Cond) ∈ zT := zT_in (List.mem_append_right _ (List.mem_append_right _ (List.mem_append_right _ (List.mem_append_left _ (List.mem_of_getElem? (l := tables_1_3) (i := 22) rfl))))) rfl
theorem ms_K_value : (.selects "PolynomialDesk" yK_value yK_value : Cond) ∈ zT := zT_in (List.mem_append_right _ (List.mem_append_right _ (List.mem_append_right _ (List.mem_append_left _ (List.mem_of_getElem? (l := tables_1_3) (i := 23) rfl))))) rfl
theorem ml_K_122 : (.methodLink "PolynomialDesk" 122 yR_evaluate : Cond) ∈ zT := zT_in (List.mem_append_right _ (List.mem_append_right _ (List.mem_append_right _ (List.mem_append_left _ (List.mem_of_getElem? (l := tables_1_3) (i := 25) rfl))))) rfl
theorem mi_R_evaluate : (.instanceMethod yR_evaluate : Cond) ∈ zT := zT_in (List.mem_append_right _ (List.mem_append_right _ (List.mem_append_right _ (List.mem_append_left _ (List.mem_of_getElem? (l := tables_1_3) (i := 26) rfl))))) rfl
theorem ms_R_evaluate : (.selects "PolynomialDesk$Ring" yR_evaluate yR_evaluate : Cond) ∈ zT := zT_in (List.mem_append_right _ (List.mem_append_right _ (List.mem_append_right _ (List.mem_append_left _ (List.mem_of_getElem? (l := tables_1_3) (i := 27) rfl))))) rfl
theorem ml_L_99 : (.methodLink "PolynomialDeskLaw" 99 yL_print : Cond) ∈ zT := zT_in (List.mem_append_right _ (List.mem_append_right _ (List.mem_append_right _ (List.mem_append_left _ (List.mem_of_getElem? (l := tables_1_3) (i := 29) rfl))))) rfl
theorem mt_L_print : (.static yL_print : Cond) ∈ zT := zT_in (List.mem_append_right _ (List.mem_append_right _ (List.mem_append_right _ (List.mem_append_left _ (List.mem_of_getElem? (l := tables_1_3) (i := 30) rfl))))) rfl
theorem ml_L_40 : (.methodLink "PolynomialDeskLaw" 40 yK_print : Cond) ∈ zT := zT_in (List.mem_append_right _ (List.mem_append_right _ (List.mem_append_right _ (List.mem_append_left _ (List.mem_of_getElem? (l := tables_1_3) (i := 32) rfl))))) rfl
theorem mi_K_print : (.instanceMethod yK_print : Cond) ∈ zT := zT_in (List.mem_append_right _ (List.mem_append_right _ (List.mem_append_right _ (List.mem_append_left _ (List.mem_of_getElem? (l := tables_1_3) (i := 33) rfl))))) rfl
theorem ms_K_print : (.selects "PolynomialDesk" yK_print yK_print : Cond) ∈ zT := zT_in (List.mem_append_right _ (List.mem_append_right _ (List.mem_append_right _ (List.mem_append_left _ (List.mem_of_getElem? (l := tables_1_3) (i := 34) rfl))))) rfl
theorem ml_K_140 : (.methodLink "PolynomialDesk" 140 yP_writePolynomial : Cond) ∈ zT := zT_in (List.mem_append_right _ (List.mem_append_right _ (List.mem_append_right _ (List.mem_append_left _ (List.mem_of_getElem? (l := tables_1_3) (i := 36) rfl))))) rfl
theorem mi_P_writePolynomial : (.instanceMethod yP_writePolynomial : Cond) ∈ zT := zT_in (List.mem_append_right _ (List.mem_append_right _ (List.mem_append_right _ (List.mem_append_left _ (List.mem_of_getElem? (l := tables_1_3) (i := 37) rfl))))) rfl
theorem ms_P_writePolynomial : (.selects "PolynomialDesk$Printer" yP_writePolynomial yP_writePolynomial : Cond) ∈ zT := zT_in (List.mem_append_right _ (List.mem_append_right _ (List.mem_append_right _ (List.mem_append_left _ (List.mem_of_getElem? (l := tables_1_3) (i := 38) rfl))))) rfl
theorem ml_P_25 : (.methodLink "PolynomialDesk$Printer" 25 yP_clear : Cond) ∈ zT := zT_in (List.mem_append_right _ (List.mem_append_right _ (List.mem_append_right _ (List.mem_append_left _ (List.mem_of_getElem? (l := tables_1_3) (i := 40) rfl))))) rfl
theorem ml_P_28 : (.methodLink "PolynomialDesk$Printer" 28 yP_writeByte : Cond) ∈ zT := zT_in (List.mem_append_right _ (List.mem_append_right _ (List.mem_append_right _ (List.mem_append_left _ (List.mem_of_getElem? (l := tables_1_3) (i := 41) rfl))))) rfl
theorem mi_P_writeByte : (.instanceMethod yP_writeByte : Cond) ∈ zT := zT_in (List.mem_append_right _ (List.mem_append_right _ (List.mem_append_right _ (List.mem_append_left _ (List.mem_of_getElem? (l := tables_1_3) (i := 43) rfl))))) rfl
theorem ml_P_32 : (.methodLink "PolynomialDesk$Printer" 32 yP_writeTerm : Cond) ∈ zT := zT_in (List.mem_append_right _ (List.mem_append_right _ (List.mem_append_right _ (List.mem_append_left _ (List.mem_of_getElem? (l := tables_1_3) (i := 45) rfl))))) rfl
theorem mi_P_writeTerm : (.instanceMethod yP_writeTerm : Cond) ∈ zT := zT_in (List.mem_append_right _ (List.mem_append_right _ (List.mem_append_right _ (List.mem_append_left _ (List.mem_of_getElem? (l := tables_1_3) (i := 47) rfl))))) rfl
theorem ml_P_36 : (.methodLink "PolynomialDesk$Printer" 36 yP_writeNumber : Cond) ∈ zT := zT_in (List.mem_append_right _ (List.mem_append_right _ (List.mem_append_right _ (List.mem_append_left _ (List.mem_of_getElem? (l := tables_1_3) (i := 49) rfl))))) rfl
theorem mi_P_writeNumber : (.instanceMethod yP_writeNumber : Cond) ∈ zT := zT_in (List.mem_append_right _ (List.mem_append_right _ (List.mem_append_right _ (List.mem_append_left _ (List.mem_of_getElem? (l := tables_1_3) (i := 51) rfl))))) rfl
theorem ml_P_40 : (.methodLink "PolynomialDesk$Printer" 40 yR_exponentOf : Cond) ∈ zT := zT_in (List.mem_append_right _ (List.mem_append_right _ (List.mem_append_right _ (List.mem_append_left _ (List.mem_of_getElem? (l := tables_1_3) (i := 53) rfl))))) rfl
theorem ml_P_46 : (.methodLink "PolynomialDesk$Printer" 46 ⟨"java/lang/String", "charAt", "(I)C"⟩ : Cond) ∈ zT := zT_in (List.mem_append_right _ (List.mem_append_right _ (List.mem_append_right _ (List.mem_append_left _ (List.mem_of_getElem? (l := tables_1_3) (i := 55) rfl))))) rfl
theorem mc_L_44 : (.classLink "PolynomialDeskLaw" 44 "PolynomialDeskModel" : Cond) ∈ zT := zT_in (List.mem_append_right _ (List.mem_append_right _ (List.mem_append_right _ (List.mem_append_left _ (List.mem_of_getElem? (l := tables_1_3) (i := 95) rfl))))) rfl
theorem mb_M : (.instantiable "PolynomialDeskModel" 27 : Cond) ∈ zT := zT_in (List.mem_append_right _ (List.mem_append_right _ (List.mem_append_right _ (List.mem_append_left _ (List.mem_of_getElem? (l := tables_1_3) (i := 96) rfl))))) rfl
theorem ml_L_46 : (.methodLink "PolynomialDeskLaw" 46 yM_init : Cond) ∈ zT := zT_in (List.mem_append_right _ (List.mem_append_right _ (List.mem_append_right _ (List.mem_append_left _ (List.mem_of_getElem? (l := tables_1_3) (i := 97) rfl))))) rfl
theorem mi_M_init : (.instanceMethod yM_init : Cond) ∈ zT := zT_in (List.mem_append_right _ (List.mem_append_right _ (List.mem_append_right _ (List.mem_append_left _ (List.mem_of_getElem? (l := tables_1_3) (i := 98) rfl))))) rfl
theorem ml_M_1 : (.methodLink "PolynomialDeskModel" 1 ⟨"java/lang/Object", "<init>", "()V"⟩ : Cond) ∈ zT := zT_in (List.mem_append_right _ (List.mem_append_right _ (List.mem_append_right _ (List.mem_append_left _ (List.mem_of_getElem? (l := tables_1_3) (i := 100) rfl))))) rfl
theorem mq_M_26 : (.constant "PolynomialDeskModel" 26 (94608) : Cond) ∈ zT := zT_in (List.mem_append_right _ (List.mem_append_right _ (List.mem_append_right _ (List.mem_append_left _ (List.mem_of_getElem? (l := tables_1_3) (i := 101) rfl))))) rfl
theorem ml_M_48 : (.methodLink "PolynomialDeskModel" 48 yM_prepare : Cond) ∈ zT := zT_in (List.mem_append_right _ (List.mem_append_right _ (List.mem_append_right _ (List.mem_append_left _ (List.mem_of_getElem? (l := tables_1_3) (i := 102) rfl))))) rfl
theorem mi_M_prepare : (.instanceMethod yM_prepare : Cond) ∈ zT := zT_in (List.mem_append_right _ (List.mem_append_right _ (List.mem_append_right _ (List.mem_append_left _ (List.mem_of_getElem? (l := tables_1_3) (i := 104) rfl))))) rfl
theorem ml_M_70 : (.methodLink "PolynomialDeskModel" 70 yM_list : Cond) ∈ zT := zT_in (List.mem_append_right _ (List.mem_append_right _ (List.mem_append_right _ (List.mem_append_left _ (List.mem_of_getElem? (l := tables_1_3) (i := 106) rfl))))) rfl
theorem mi_M_list : (.instanceMethod yM_list : Cond) ∈ zT := zT_in (List.mem_append_right _ (List.mem_append_right _ (List.mem_append_right _ (List.mem_append_left _ (List.mem_of_getElem? (l := tables_1_3) (i := 108) rfl))))) rfl
theorem ml_M_77 : (.methodLink "PolynomialDeskModel" 77 yM_isGreater : Cond) ∈ zT := zT_in (List.mem_append_right _ (List.mem_append_right _ (List.mem_append_right _ (List.mem_append_left _ (List.mem_of_getElem? (l := tables_1_3) (i := 110) rfl))))) rfl
theorem mi_M_isGreater : (.instanceMethod yM_isGreater : Cond) ∈ zT := zT_in (List.mem_append_right _ (List.mem_append_right _ (List.mem_append_right _ (List.mem_append_left _ (List.mem_of_getElem? (l := tables_1_3) (i := 112) rfl))))) rfl
theorem mf_M_52 : (.fieldLink "PolynomialDeskModel" 52 "PolynomialDeskModel" "thrown" "I" : Cond) ∈ zT := zT_in (List.mem_append_right _ (List.mem_append_right _ (List.mem_append_right _ (List.mem_append_left _ (List.mem_of_getElem? (l := tables_1_3) (i := 114) rfl))))) rfl
theorem mf_M_7 : (.fieldLink "PolynomialDeskModel" 7 "PolynomialDeskModel" "prime" "I" : Cond) ∈ zT := zT_in (List.mem_append_right _ (List.mem_append_right _ (List.mem_append_right _ (List.mem_append_left _ (List.mem_of_getElem? (l := tables_1_3) (i := 115) rfl))))) rfl
theorem mf_M_55 : (.fieldLink "PolynomialDeskModel" 55 "PolynomialDeskModel" "many" "I" : Cond) ∈ zT := zT_in (List.mem_append_right _ (List.mem_append_right _ (List.mem_append_right _ (List.mem_append_left _ (List.mem_of_getElem? (l := tables_1_3) (i := 116) rfl))))) rfl
theorem mf_M_58 : (.fieldLink "PolynomialDeskModel" 58 "PolynomialDeskModel" "order" "I" : Cond) ∈ zT := zT_in (List.mem_append_right _ (List.mem_append_right _ (List.mem_append_right _ (List.mem_append_left _ (List.mem_of_getElem? (l := tables_1_3) (i := 117) rfl))))) rfl
theorem mf_M_61 : (.fieldLink "PolynomialDeskModel" 61 "PolynomialDeskModel" "highest" "I" : Cond) ∈ zT := zT_in (List.mem_append_right _ (List.mem_append_right _ (List.mem_append_right _ (List.mem_append_left _ (List.mem_of_getElem? (l := tables_1_3) (i := 118) rfl))))) rfl
theorem mf_M_64 : (.fieldLink "PolynomialDeskModel" 64 "PolynomialDeskModel" "base" "I" : Cond) ∈ zT := zT_in (List.mem_append_right _ (List.mem_append_right _ (List.mem_append_right _ (List.mem_append_left _ (List.mem_of_getElem? (l := tables_1_3) (i := 119) rfl))))) rfl
theorem mf_M_13 : (.fieldLink "PolynomialDeskModel" 13 "PolynomialDeskModel" "degree" "[I" : Cond) ∈ zT := zT_in (List.mem_append_right _ (List.mem_append_right _ (List.mem_append_right _ (List.mem_append_left _ (List.mem_of_getElem? (l := tables_1_3) (i := 120) rfl))))) rfl
theorem mf_M_17 : (.fieldLink "PolynomialDeskModel" 17 "PolynomialDeskModel" "exponents" "[I" : Cond) ∈ zT := zT_in (List.mem_append_right _ (List.mem_append_right _ (List.mem_append_right _ (List.mem_append_left _ (List.mem_of_getElem? (l := tables_1_3) (i := 121) rfl))))) rfl
theorem mf_M_20 : (.fieldLink "PolynomialDeskModel" 20 "PolynomialDeskModel" "listed" "[I" : Cond) ∈ zT := zT_in (List.mem_append_right _ (List.mem_append_right _ (List.mem_append_right _ (List.mem_append_left _ (List.mem_of_getElem? (l := tables_1_3) (i := 122) rfl))))) rfl
theorem mf_M_23 : (.fieldLink "PolynomialDeskModel" 23 "PolynomialDeskModel" "unit" "[I" : Cond) ∈ zT := zT_in (List.mem_append_right _ (List.mem_append_right _ (List.mem_append_right _ (List.mem_append_left _ (List.mem_of_getElem? (l := tables_1_3) (i := 123) rfl))))) rfl
theorem mf_M_67 : (.fieldLink "PolynomialDeskModel" 67 "PolynomialDeskModel" "monomials" "I" : Cond) ∈ zT := zT_in (List.mem_append_right _ (List.mem_append_right _ (List.mem_append_right _ (List.mem_append_left _ (List.mem_of_getElem? (l := tables_1_3) (i := 124) rfl))))) rfl
theorem mf_M_27 : (.fieldLink "PolynomialDeskModel" 27 "PolynomialDeskModel" "cells" "[I" : Cond) ∈ zT := zT_in (List.mem_append_right _ (List.mem_append_right _ (List.mem_append_right _ (List.mem_append_left _ (List.mem_of_getElem? (l := tables_1_3) (i := 125) rfl))))) rfl
theorem mf_M_30 : (.fieldLink "PolynomialDeskModel" 30 "PolynomialDeskModel" "hand" "[I" : Cond) ∈ zT := zT_in (List.mem_append_right _ (List.mem_append_right _ (List.mem_append_right _ (List.mem_append_left _ (List.mem_of_getElem? (l := tables_1_3) (i := 126) rfl))))) rfl
theorem mf_M_103 : (.fieldLink "PolynomialDeskModel" 103 "PolynomialDeskModel" "inHand" "I" : Cond) ∈ zT := zT_in (List.mem_append_right _ (List.mem_append_right _ (List.mem_append_right _ (List.mem_append_left _ (List.mem_of_getElem? (l := tables_1_3) (i := 127) rfl))))) rfl
theorem mf_M_182 : (.fieldLink "PolynomialDeskModel" 182 "PolynomialDeskModel" "fault" "I" : Cond) ∈ zT := zT_in (List.mem_append_right _ (List.mem_append_right _ (List.mem_append_right _ (List.mem_append_left _ (List.mem_of_getElem? (l := tables_1_3) (i := 128) rfl))))) rfl
theorem mf_M_33 : (.fieldLink "PolynomialDeskModel" 33 "PolynomialDeskModel" "place" "I" : Cond) ∈ zT := zT_in (List.mem_append_right _ (List.mem_append_right _ (List.mem_append_right _ (List.mem_append_left _ (List.mem_of_getElem? (l := tables_1_3) (i := 129) rfl))))) rfl
theorem mf_M_112 : (.fieldLink "PolynomialDeskModel" 112 "PolynomialDeskModel" "n" "I" : Cond) ∈ zT := zT_in (List.mem_append_right _ (List.mem_append_right _ (List.mem_append_right _ (List.mem_append_left _ (List.mem_of_getElem? (l := tables_1_3) (i := 130) rfl))))) rfl
theorem mf_M_109 : (.fieldLink "PolynomialDeskModel" 109 "PolynomialDeskModel" "at" "I" : Cond) ∈ zT := zT_in (List.mem_append_right _ (List.mem_append_right _ (List.mem_append_right _ (List.mem_append_left _ (List.mem_of_getElem? (l := tables_1_3) (i := 131) rfl))))) rfl
theorem mf_M_136 : (.fieldLink "PolynomialDeskModel" 136 "PolynomialDeskModel" "state" "I" : Cond) ∈ zT := zT_in (List.mem_append_right _ (List.mem_append_right _ (List.mem_append_right _ (List.mem_append_left _ (List.mem_of_getElem? (l := tables_1_3) (i := 132) rfl))))) rfl
theorem mf_M_106 : (.fieldLink "PolynomialDeskModel" 106 "PolynomialDeskModel" "depth" "I" : Cond) ∈ zT := zT_in (List.mem_append_right _ (List.mem_append_right _ (List.mem_append_right _ (List.mem_append_left _ (List.mem_of_getElem? (l := tables_1_3) (i := 133) rfl))))) rfl
theorem mf_M_115 : (.fieldLink "PolynomialDeskModel" 115 "PolynomialDeskModel" "failed" "I" : Cond) ∈ zT := zT_in (List.mem_append_right _ (List.mem_append_right _ (List.mem_append_right _ (List.mem_append_left _ (List.mem_of_getElem? (l := tables_1_3) (i := 134) rfl))))) rfl
theorem mf_M_118 : (.fieldLink "PolynomialDeskModel" 118 "PolynomialDeskModel" "failedAt" "I" : Cond) ∈ zT := zT_in (List.mem_append_right _ (List.mem_append_right _ (List.mem_append_right _ (List.mem_append_left _ (List.mem_of_getElem? (l := tables_1_3) (i := 135) rfl))))) rfl
theorem mf_M_36 : (.fieldLink "PolynomialDeskModel" 36 "PolynomialDeskModel" "text" "[I" : Cond) ∈ zT := zT_in (List.mem_append_right _ (List.mem_append_right _ (List.mem_append_right _ (List.mem_append_left _ (List.mem_of_getElem? (l := tables_1_3) (i := 136) rfl))))) rfl
theorem mf_M_39 : (.fieldLink "PolynomialDeskModel" 39 "PolynomialDeskModel" "sign" "[I" : Cond) ∈ zT := zT_in (List.mem_append_right _ (List.mem_append_right _ (List.mem_append_right _ (List.mem_append_left _ (List.mem_of_getElem? (l := tables_1_3) (i := 137) rfl))))) rfl
theorem mf_M_42 : (.fieldLink "PolynomialDeskModel" 42 "PolynomialDeskModel" "star" "[I" : Cond) ∈ zT := zT_in (List.mem_append_right _ (List.mem_append_right _ (List.mem_append_right _ (List.mem_append_left _ (List.mem_of_getElem? (l := tables_1_3) (i := 138) rfl))))) rfl
theorem mf_M_45 : (.fieldLink "PolynomialDeskModel" 45 "PolynomialDeskModel" "out" "[I" : Cond) ∈ zT := zT_in (List.mem_append_right _ (List.mem_append_right _ (List.mem_append_right _ (List.mem_append_left _ (List.mem_of_getElem? (l := tables_1_3) (i := 139) rfl))))) rfl
theorem mf_M_74 : (.fieldLink "PolynomialDeskModel" 74 "PolynomialDeskModel" "printed" "I" : Cond) ∈ zT := zT_in (List.mem_append_right _ (List.mem_append_right _ (List.mem_append_right _ (List.mem_append_left _ (List.mem_of_getElem? (l := tables_1_3) (i := 140) rfl))))) rfl
theorem ml_L_53 : (.methodLink "PolynomialDeskLaw" 53 yM_thrown : Cond) ∈ zT := zT_in (List.mem_append_right _ (List.mem_append_right _ (List.mem_append_right _ (List.mem_append_left _ (List.mem_of_getElem? (l := tables_1_3) (i := 196) rfl))))) rfl
theorem mi_M_thrown : (.instanceMethod yM_thrown : Cond) ∈ zT := zT_in (List.mem_append_right _ (List.mem_append_right _ (List.mem_append_right _ (List.mem_append_left _ (List.mem_of_getElem? (l := tables_1_3) (i := 197) rfl))))) rfl
theorem ms_M_thrown : (.selects "PolynomialDeskModel" yM_thrown yM_thrown : Cond) ∈ zT := zT_in (List.mem_append_right _ (List.mem_append_right _ (List.mem_append_right _ (List.mem_append_left _ (List.mem_of_getElem? (l := tables_1_3) (i := 198) rfl))))) rfl
theorem ml_L_52 : (.methodLink "PolynomialDeskLaw" 52 yM_field : Cond) ∈ zT := zT_in (List.mem_append_right _ (List.mem_append_right _ (List.mem_append_right _ (List.mem_append_left _ (List.mem_of_getElem? (l := tables_1_3) (i := 200) rfl))))) rfl
theorem mi_M_field : (.instanceMethod yM_field : Cond) ∈ zT := zT_in (List.mem_append_right _ (List.mem_append_right _ (List.mem_append_right _ (List.mem_append_left _ (List.mem_of_getElem? (l := tables_1_3) (i := 201) rfl))))) rfl
theorem ms_M_field : (.selects "PolynomialDeskModel" yM_field yM_field : Cond) ∈ zT := zT_in (List.mem_append_right _ (List.mem_append_right _ (List.mem_append_right _ (List.mem_append_left _ (List.mem_of_getElem? (l := tables_1_3) (i := 202) rfl))))) rfl
theorem ml_M_81 : (.methodLink "PolynomialDeskModel" 81 yM_isPrime : Cond) ∈ zT := zT_in (List.mem_append_right _ (List.mem_append_right _ (List.mem_append_right _ (List.mem_append_left _ (List.mem_of_getElem? (l := tables_1_3) (i := 204) rfl))))) rfl
theorem mt_M_isPrime : (.static yM_isPrime : Cond) ∈ zT := zT_in (List.mem_append_right _ (List.mem_append_right _ (List.mem_append_right _ (List.mem_append_left _ (List.mem_of_getElem? (l := tables_1_3) (i := 205) rfl))))) rfl
theorem ml_L_63 : (.methodLink "PolynomialDeskLaw" 63 yM_put : Cond) ∈ zT := zT_in (List.mem_append_right _ (List.mem_append_right _ (List.mem_append_right _ (List.mem_append_left _ (List.mem_of_getElem? (l := tables_1_3) (i := 207) rfl))))) rfl
theorem mi_M_put : (.instanceMethod yM_put : Cond) ∈ zT := zT_in (List.mem_append_right _ (List.mem_append_right _ (List.mem_append_right _ (List.mem_append_left _ (List.mem_of_getElem? (l := tables_1_3) (i := 208) rfl))))) rfl
theorem ms_M_put : (.selects "PolynomialDeskModel" yM_put yM_put : Cond) ∈ zT := zT_in (List.mem_append_right _ (List.mem_append_right _ (List.mem_append_right _ (List.mem_append_left _ (List.mem_of_getElem? (l := tables_1_3) (i := 209) rfl))))) rfl
theorem ml_L_67 : (.methodLink "PolynomialDeskLaw" 67 yM_read : Cond) ∈ zT := zT_in (List.mem_append_right _ (List.mem_append_right _ (List.mem_append_right _ (List.mem_append_left _ (List.mem_of_getElem? (l := tables_1_3) (i := 211) rfl))))) rfl
theorem mi_M_read : (.instanceMethod yM_read : Cond) ∈ zT := zT_in (List.mem_append_right _ (List.mem_append_right _ (List.mem_append_right _ (List.mem_append_left _ (List.mem_of_getElem? (l := tables_1_3) (i := 212) rfl))))) rfl
theorem ms_M_read : (.selects "PolynomialDeskModel" yM_read yM_read : Cond) ∈ zT := zT_in (List.mem_append_right _ (List.mem_append_right _ (List.mem_append_right _ (List.mem_append_left _ (List.mem_of_getElem? (l := tables_1_3) (i := 213) rfl))))) rfl
theorem ml_M_170 : (.methodLink "PolynomialDeskModel" 170 yM_isPolynomial : Cond) ∈ zT := zT_in (List.mem_append_right _ (List.mem_append_right _ (List.mem_append_right _ (List.mem_append_left _ (List.mem_of_getElem? (l := tables_1_3) (i := 215) rfl))))) rfl
theorem mt_M_isPolynomial : (.static yM_isPolynomial : Cond) ∈ zT := zT_in (List.mem_append_right _ (List.mem_append_right _ (List.mem_append_right _ (List.mem_append_left _ (List.mem_of_getElem? (l := tables_1_3) (i := 216) rfl))))) rfl
theorem ml_M_139 : (.methodLink "PolynomialDeskModel" 139 yM_begin : Cond) ∈ zT := zT_in (List.mem_append_right _ (List.mem_append_right _ (List.mem_append_right _ (List.mem_append_left _ (List.mem_of_getElem? (l := tables_1_3) (i := 218) rfl))))) rfl
theorem mi_M_begin : (.instanceMethod yM_begin : Cond) ∈ zT := zT_in (List.mem_append_right _ (List.mem_append_right _ (List.mem_append_right _ (List.mem_append_left _ (List.mem_of_getElem? (l := tables_1_3) (i := 220) rfl))))) rfl
theorem ml_M_132 : (.methodLink "PolynomialDeskModel" 132 yM_sum : Cond) ∈ zT := zT_in (List.mem_append_right _ (List.mem_append_right _ (List.mem_append_right _ (List.mem_append_left _ (List.mem_of_getElem? (l := tables_1_3) (i := 222) rfl))))) rfl
theorem mi_M_sum : (.instanceMethod yM_sum : Cond) ∈ zT := zT_in (List.mem_append_right _ (List.mem_append_right _ (List.mem_append_right _ (List.mem_append_left _ (List.mem_of_getElem? (l := tables_1_3) (i := 224) rfl))))) rfl
theorem ml_M_100 : (.methodLink "PolynomialDeskModel" 100 yM_clear : Cond) ∈ zT := zT_in (List.mem_append_right _ (List.mem_append_right _ (List.mem_append_right _ (List.mem_append_left _ (List.mem_of_getElem? (l := tables_1_3) (i := 226) rfl))))) rfl
theorem mi_M_clear : (.instanceMethod yM_clear : Cond) ∈ zT := zT_in (List.mem_append_right _ (List.mem_append_right _ (List.mem_append_right _ (List.mem_append_left _ (List.mem_of_getElem? (l := tables_1_3) (i := 228) rfl))))) rfl
theorem ml_M_85 : (.methodLink "PolynomialDeskModel" 85 yM_lay : Cond) ∈ zT := zT_in (List.mem_append_right _ (List.mem_append_right _ (List.mem_append_right _ (List.mem_append_left _ (List.mem_of_getElem? (l := tables_1_3) (i := 230) rfl))))) rfl
theorem mi_M_lay : (.instanceMethod yM_lay : Cond) ∈ zT := zT_in (List.mem_append_right _ (List.mem_append_right _ (List.mem_append_right _ (List.mem_append_left _ (List.mem_of_getElem? (l := tables_1_3) (i := 232) rfl))))) rfl
theorem ml_M_152 : (.methodLink "PolynomialDeskModel" 152 yM_here : Cond) ∈ zT := zT_in (List.mem_append_right _ (List.mem_append_right _ (List.mem_append_right _ (List.mem_append_left _ (List.mem_of_getElem? (l := tables_1_3) (i := 234) rfl))))) rfl
theorem mi_M_here : (.instanceMethod yM_here : Cond) ∈ zT := zT_in (List.mem_append_right _ (List.mem_append_right _ (List.mem_append_right _ (List.mem_append_left _ (List.mem_of_getElem? (l := tables_1_3) (i := 236) rfl))))) rfl
theorem ml_M_173 : (.methodLink "PolynomialDeskModel" 173 yM_readFactor : Cond) ∈ zT := zT_in (List.mem_append_right _ (List.mem_append_right _ (List.mem_append_right _ (List.mem_append_left _ (List.mem_of_getElem? (l := tables_1_3) (i := 238) rfl))))) rfl
theorem mi_M_readFactor : (.instanceMethod yM_readFactor : Cond) ∈ zT := zT_in (List.mem_append_right _ (List.mem_append_right _ (List.mem_append_right _ (List.mem_append_right _ (List.mem_of_getElem? (l := tables_1_4) (i := 0) rfl))))) rfl
theorem ml_M_128 : (.methodLink "PolynomialDeskModel" 128 yM_fail : Cond) ∈ zT := zT_in (List.mem_append_right _ (List.mem_append_right _ (List.mem_append_right _ (List.mem_append_right _ (List.mem_of_getElem? (l := tables_1_4) (i := 2) rfl))))) rfl
theorem mi_M_fail : (.instanceMethod yM_fail : Cond) ∈ zT := zT_in (List.mem_append_right _ (List.mem_append_right _ (List.mem_append_right _ (List.mem_append_right _ (List.mem_of_getElem? (l := tables_1_4) (i := 4) rfl))))) rfl
theorem ml_M_142 : (.methodLink "PolynomialDeskModel" 142 yM_variable : Cond) ∈ zT := zT_in (List.mem_append_right _ (List.mem_append_right _ (List.mem_append_right _ (List.mem_append_right _ (List.mem_of_getElem? (l := tables_1_4) (i := 6) rfl))))) rfl
theorem mi_M_variable : (.instanceMethod yM_variable : Cond) ∈ zT := zT_in (List.mem_append_right _ (List.mem_append_right _ (List.mem_append_right _ (List.mem_append_right _ (List.mem_of_getElem? (l := tables_1_4) (i := 8) rfl))))) rfl
theorem ml_M_121 : (.methodLink "PolynomialDeskModel" 121 yM_isDigit : Cond) ∈ zT := zT_in (List.mem_append_right _ (List.mem_append_right _ (List.mem_append_right _ (List.mem_append_right _ (List.mem_of_getElem? (l := tables_1_4) (i := 10) rfl))))) rfl
theorem mt_M_isDigit : (.static yM_isDigit : Cond) ∈ zT := zT_in (List.mem_append_right _ (List.mem_append_right _ (List.mem_append_right _ (List.mem_append_right _ (List.mem_of_getElem? (l := tables_1_4) (i := 11) rfl))))) rfl
theorem ml_M_145 : (.methodLink "PolynomialDeskModel" 145 yM_factor : Cond) ∈ zT := zT_in (List.mem_append_right _ (List.mem_append_right _ (List.mem_append_right _ (List.mem_append_right _ (List.mem_of_getElem? (l := tables_1_4) (i := 13) rfl))))) rfl
theorem mi_M_factor : (.instanceMethod yM_factor : Cond) ∈ zT := zT_in (List.mem_append_right _ (List.mem_append_right _ (List.mem_append_right _ (List.mem_append_right _ (List.mem_of_getElem? (l := tables_1_4) (i := 15) rfl))))) rfl
theorem ml_M_148 : (.methodLink "PolynomialDeskModel" 148 yM_number : Cond) ∈ zT := zT_in (List.mem_append_right _ (List.mem_append_right _ (List.mem_append_right _ (List.mem_append_right _ (List.mem_of_getElem? (l := tables_1_4) (i := 17) rfl))))) rfl
theorem mi_M_number : (.instanceMethod yM_number : Cond) ∈ zT := zT_in (List.mem_append_right _ (List.mem_append_right _ (List.mem_append_right _ (List.mem_append_right _ (List.mem_of_getElem? (l := tables_1_4) (i := 19) rfl))))) rfl
theorem mq_M_124 : (.constantLong "PolynomialDeskModel" 124 (10) : Cond) ∈ zT := zT_in (List.mem_append_right _ (List.mem_append_right _ (List.mem_append_right _ (List.mem_append_right _ (List.mem_of_getElem? (l := tables_1_4) (i := 21) rfl))))) rfl
theorem mq_M_126 : (.constantLong "PolynomialDeskModel" 126 (48) : Cond) ∈ zT := zT_in (List.mem_append_right _ (List.mem_append_right _ (List.mem_append_right _ (List.mem_append_right _ (List.mem_of_getElem? (l := tables_1_4) (i := 22) rfl))))) rfl
theorem ml_M_92 : (.methodLink "PolynomialDeskModel" 92 yM_modulo : Cond) ∈ zT := zT_in (List.mem_append_right _ (List.mem_append_right _ (List.mem_append_right _ (List.mem_append_right _ (List.mem_of_getElem? (l := tables_1_4) (i := 23) rfl))))) rfl
theorem mi_M_modulo : (.instanceMethod yM_modulo : Cond) ∈ zT := zT_in (List.mem_append_right _ (List.mem_append_right _ (List.mem_append_right _ (List.mem_append_right _ (List.mem_of_getElem? (l := tables_1_4) (i := 25) rfl))))) rfl
theorem ml_M_176 : (.methodLink "PolynomialDeskModel" 176 yM_readPower : Cond) ∈ zT := zT_in (List.mem_append_right _ (List.mem_append_right _ (List.mem_append_right _ (List.mem_append_right _ (List.mem_of_getElem? (l := tables_1_4) (i := 27) rfl))))) rfl
theorem mi_M_readPower : (.instanceMethod yM_readPower : Cond) ∈ zT := zT_in (List.mem_append_right _ (List.mem_append_right _ (List.mem_append_right _ (List.mem_append_right _ (List.mem_of_getElem? (l := tables_1_4) (i := 29) rfl))))) rfl
theorem ml_M_96 : (.methodLink "PolynomialDeskModel" 96 yM_degreeOf : Cond) ∈ zT := zT_in (List.mem_append_right _ (List.mem_append_right _ (List.mem_append_right _ (List.mem_append_right _ (List.mem_of_getElem? (l := tables_1_4) (i := 31) rfl))))) rfl
theorem mi_M_degreeOf : (.instanceMethod yM_degreeOf : Cond) ∈ zT := zT_in (List.mem_append_right _ (List.mem_append_right _ (List.mem_append_right _ (List.mem_append_right _ (List.mem_of_getElem? (l := tables_1_4) (i := 33) rfl))))) rfl
theorem ml_M_88 : (.methodLink "PolynomialDeskModel" 88 yM_cell : Cond) ∈ zT := zT_in (List.mem_append_right _ (List.mem_append_right _ (List.mem_append_right _ (List.mem_append_right _ (List.mem_of_getElem? (l := tables_1_4) (i := 35) rfl))))) rfl
theorem mi_M_cell : (.instanceMethod yM_cell : Cond) ∈ zT := zT_in (List.mem_append_right _ (List.mem_append_right _ (List.mem_append_right _ (List.mem_append_right _ (List.mem_of_getElem? (l := tables_1_4) (i := 37) rfl))))) rfl
theorem ml_M_155 : (.methodLink "PolynomialDeskModel" 155 yM_times : Cond) ∈ zT := zT_in (List.mem_append_right _ (List.mem_append_right _ (List.mem_append_right _ (List.mem_append_right _ (List.mem_of_getElem? (l := tables_1_4) (i := 39) rfl))))) rfl
theorem mi_M_times : (.instanceMethod yM_times : Cond) ∈ zT := zT_in (List.mem_append_right _ (List.mem_append_right _ (List.mem_append_right _ (List.mem_append_right _ (List.mem_of_getElem? (l := tables_1_4) (i := 41) rfl))))) rfl
theorem ml_M_158 : (.methodLink "PolynomialDeskModel" 158 yM_copy : Cond) ∈ zT := zT_in (List.mem_append_right _ (List.mem_append_right _ (List.mem_append_right _ (List.mem_append_right _ (List.mem_of_getElem? (l := tables_1_4) (i := 43) rfl))))) rfl
theorem mi_M_copy : (.instanceMethod yM_copy : Cond) ∈ zT := zT_in (List.mem_append_right _ (List.mem_append_right _ (List.mem_append_right _ (List.mem_append_right _ (List.mem_of_getElem? (l := tables_1_4) (i := 45) rfl))))) rfl
theorem ml_M_179 : (.methodLink "PolynomialDeskModel" 179 yM_goOn : Cond) ∈ zT := zT_in (List.mem_append_right _ (List.mem_append_right _ (List.mem_append_right _ (List.mem_append_right _ (List.mem_of_getElem? (l := tables_1_4) (i := 47) rfl))))) rfl
theorem mi_M_goOn : (.instanceMethod yM_goOn : Cond) ∈ zT := zT_in (List.mem_append_right _ (List.mem_append_right _ (List.mem_append_right _ (List.mem_append_right _ (List.mem_of_getElem? (l := tables_1_4) (i := 49) rfl))))) rfl
theorem ml_M_161 : (.methodLink "PolynomialDeskModel" 161 yM_product : Cond) ∈ zT := zT_in (List.mem_append_right _ (List.mem_append_right _ (List.mem_append_right _ (List.mem_append_right _ (List.mem_of_getElem? (l := tables_1_4) (i := 51) rfl))))) rfl
theorem mi_M_product : (.instanceMethod yM_product : Cond) ∈ zT := zT_in (List.mem_append_right _ (List.mem_append_right _ (List.mem_append_right _ (List.mem_append_right _ (List.mem_of_getElem? (l := tables_1_4) (i := 53) rfl))))) rfl
theorem ml_M_164 : (.methodLink "PolynomialDeskModel" 164 yM_isTooHigh : Cond) ∈ zT := zT_in (List.mem_append_right _ (List.mem_append_right _ (List.mem_append_right _ (List.mem_append_right _ (List.mem_of_getElem? (l := tables_1_4) (i := 55) rfl))))) rfl
theorem mi_M_isTooHigh : (.instanceMethod yM_isTooHigh : Cond) ∈ zT := zT_in (List.mem_append_right _ (List.mem_append_right _ (List.mem_append_right _ (List.mem_append_right _ (List.mem_of_getElem? (l := tables_1_4) (i := 57) rfl))))) rfl
theorem ml_M_167 : (.methodLink "PolynomialDeskModel" 167 yM_addTo : Cond) ∈ zT := zT_in (List.mem_append_right _ (List.mem_append_right _ (List.mem_append_right _ (List.mem_append_right _ (List.mem_of_getElem? (l := tables_1_4) (i := 59) rfl))))) rfl
theorem mi_M_addTo : (.instanceMethod yM_addTo : Cond) ∈ zT := zT_in (List.mem_append_right _ (List.mem_append_right _ (List.mem_append_right _ (List.mem_append_right _ (List.mem_of_getElem? (l := tables_1_4) (i := 61) rfl))))) rfl
theorem ml_M_185 : (.methodLink "PolynomialDeskModel" 185 yM_terms : Cond) ∈ zT := zT_in (List.mem_append_right _ (List.mem_append_right _ (List.mem_append_right _ (List.mem_append_right _ (List.mem_of_getElem? (l := tables_1_4) (i := 63) rfl))))) rfl
theorem mi_M_terms : (.instanceMethod yM_terms : Cond) ∈ zT := zT_in (List.mem_append_right _ (List.mem_append_right _ (List.mem_append_right _ (List.mem_append_right _ (List.mem_of_getElem? (l := tables_1_4) (i := 65) rfl))))) rfl
theorem ml_L_71 : (.methodLink "PolynomialDeskLaw" 71 yM_fault : Cond) ∈ zT := zT_in (List.mem_append_right _ (List.mem_append_right _ (List.mem_append_right _ (List.mem_append_right _ (List.mem_of_getElem? (l := tables_1_4) (i := 67) rfl))))) rfl
theorem mi_M_fault : (.instanceMethod yM_fault : Cond) ∈ zT := zT_in (List.mem_append_right _ (List.mem_append_right _ (List.mem_append_right _ (List.mem_append_right _ (List.mem_of_getElem? (l := tables_1_4) (i := 68) rfl))))) rfl
theorem ms_M_fault : (.selects "PolynomialDeskModel" yM_fault yM_fault : Cond) ∈ zT := zT_in (List.mem_append_right _ (List.mem_append_right _ (List.mem_append_right _ (List.mem_append_right _ (List.mem_of_getElem? (l := tables_1_4) (i := 69) rfl))))) rfl
theorem ml_L_75 : (.methodLink "PolynomialDeskLaw" 75 yM_add : Cond) ∈ zT := zT_in (List.mem_append_right _ (List.mem_append_right _ (List.mem_append_right _ (List.mem_append_right _ (List.mem_of_getElem? (l := tables_1_4) (i := 71) rfl))))) rfl
theorem mi_M_add : (.instanceMethod yM_add : Cond) ∈ zT := zT_in (List.mem_append_right _ (List.mem_append_right _ (List.mem_append_right _ (List.mem_append_right _ (List.mem_of_getElem? (l := tables_1_4) (i := 72) rfl))))) rfl
theorem ms_M_add : (.selects "PolynomialDeskModel" yM_add yM_add : Cond) ∈ zT := zT_in (List.mem_append_right _ (List.mem_append_right _ (List.mem_append_right _ (List.mem_append_right _ (List.mem_of_getElem? (l := tables_1_4) (i := 73) rfl))))) rfl
theorem ml_M_188 : (.methodLink "PolynomialDeskModel" 188 yM_lacks : Cond) ∈ zT := zT_in (List.mem_append_right _ (List.mem_append_right _ (List.mem_append_right _ (List.mem_append_right _ (List.mem_of_getElem? (l := tables_1_4) (i := 75) rfl))))) rfl
theorem mi_M_lacks : (.instanceMethod yM_lacks : Cond) ∈ zT := zT_in (List.mem_append_right _ (List.mem_append_right _ (List.mem_append_right _ (List.mem_append_right _ (List.mem_of_getElem? (l := tables_1_4) (i := 77) rfl))))) rfl
theorem ml_L_78 : (.methodLink "PolynomialDeskLaw" 78 yM_multiply : Cond) ∈ zT := zT_in (List.mem_append_right _ (List.mem_append_right _ (List.mem_append_right _ (List.mem_append_right _ (List.mem_of_getElem? (l := tables_1_4) (i := 79) rfl))))) rfl
theorem mi_M_multiply : (.instanceMethod yM_multiply : Cond) ∈ zT := zT_in (List.mem_append_right _ (List.mem_append_right _ (List.mem_append_right _ (List.mem_append_right _ (List.mem_of_getElem? (l := tables_1_4) (i := 80) rfl))))) rfl
theorem ms_M_multiply : (.selects "PolynomialDeskModel" yM_multiply yM_multiply : Cond) ∈ zT := zT_in (List.mem_append_right _ (List.mem_append_right _ (List.mem_append_right _ (List.mem_append_right _ (List.mem_of_getElem? (l := tables_1_4) (i := 81) rfl))))) rfl
theorem ml_L_81 : (.methodLink "PolynomialDeskLaw" 81 yM_derive : Cond) ∈ zT := zT_in (List.mem_append_right _ (List.mem_append_right _ (List.mem_append_right _ (List.mem_append_right _ (List.mem_of_getElem? (l := tables_1_4) (i := 83) rfl))))) rfl
theorem mi_M_derive : (.instanceMethod yM_derive : Cond) ∈ zT := zT_in (List.mem_append_right _ (List.mem_append_right _ (List.mem_append_right _ (List.mem_append_right _ (List.mem_of_getElem? (l := tables_1_4) (i := 84) rfl))))) rfl
theorem ms_M_derive : (.selects "PolynomialDeskModel" yM_derive yM_derive : Cond) ∈ zT := zT_in (List.mem_append_right _ (List.mem_append_right _ (List.mem_append_right _ (List.mem_append_right _ (List.mem_of_getElem? (l := tables_1_4) (i := 85) rfl))))) rfl
theorem ml_L_84 : (.methodLink "PolynomialDeskLaw" 84 yM_set : Cond) ∈ zT := zT_in (List.mem_append_right _ (List.mem_append_right _ (List.mem_append_right _ (List.mem_append_right _ (List.mem_of_getElem? (l := tables_1_4) (i := 87) rfl))))) rfl
theorem mi_M_set : (.instanceMethod yM_set : Cond) ∈ zT := zT_in (List.mem_append_right _ (List.mem_append_right _ (List.mem_append_right _ (List.mem_append_right _ (List.mem_of_getElem? (l := tables_1_4) (i := 88) rfl))))) rfl
theorem ms_M_set : (.selects "PolynomialDeskModel" yM_set yM_set : Cond) ∈ zT := zT_in (List.mem_append_right _ (List.mem_append_right _ (List.mem_append_right _ (List.mem_append_right _ (List.mem_of_getElem? (l := tables_1_4) (i := 89) rfl))))) rfl
theorem ml_M_192 : (.methodLink "PolynomialDeskModel" 192 yM_power : Cond) ∈ zT := zT_in (List.mem_append_right _ (List.mem_append_right _ (List.mem_append_right _ (List.mem_append_right _ (List.mem_of_getElem? (l := tables_1_4) (i := 91) rfl))))) rfl
theorem mi_M_power : (.instanceMethod yM_power : Cond) ∈ zT := zT_in (List.mem_append_right _ (List.mem_append_right _ (List.mem_append_right _ (List.mem_append_right _ (List.mem_of_getElem? (l := tables_1_4) (i := 93) rfl))))) rfl
theorem ml_L_88 : (.methodLink "PolynomialDeskLaw" 88 yM_value : Cond) ∈ zT := zT_in (List.mem_append_right _ (List.mem_append_right _ (List.mem_append_right _ (List.mem_append_right _ (List.mem_of_getElem? (l := tables_1_4) (i := 95) rfl))))) rfl
theorem mi_M_value : (.instanceMethod yM_value : Cond) ∈ zT := zT_in (List.mem_append_right _ (List.mem_append_right _ (List.mem_append_right _ (List.mem_append_right _ (List.mem_of_getElem? (l := tables_1_4) (i := 96) rfl))))) rfl
theorem ms_M_value : (.selects "PolynomialDeskModel" yM_value yM_value : Cond) ∈ zT := zT_in (List.mem_append_right _ (List.mem_append_right _ (List.mem_append_right _ (List.mem_append_right _ (List.mem_of_getElem? (l := tables_1_4) (i := 97) rfl))))) rfl
theorem ml_L_93 : (.methodLink "PolynomialDeskLaw" 93 yM_about : Cond) ∈ zT := zT_in (List.mem_append_right _ (List.mem_append_right _ (List.mem_append_right _ (List.mem_append_right _ (List.mem_of_getElem? (l := tables_1_4) (i := 99) rfl))))) rfl
theorem mi_M_about : (.instanceMethod yM_about : Cond) ∈ zT := zT_in (List.mem_append_right _ (List.mem_append_right _ (List.mem_append_right _ (List.mem_append_right _ (List.mem_of_getElem? (l := tables_1_4) (i := 100) rfl))))) rfl
theorem ms_M_about : (.selects "PolynomialDeskModel" yM_about yM_about : Cond) ∈ zT := zT_in (List.mem_append_right _ (List.mem_append_right _ (List.mem_append_right _ (List.mem_append_right _ (List.mem_of_getElem? (l := tables_1_4) (i := 101) rfl))))) rfl
theorem ml_L_98 : (.methodLink "PolynomialDeskLaw" 98 yM_term : Cond) ∈ zT := zT_in (List.mem_append_right _ (List.mem_append_right _ (List.mem_append_right _ (List.mem_append_right _ (List.mem_of_getElem? (l := tables_1_4) (i := 103) rfl))))) rfl
theorem mi_M_term : (.instanceMethod yM_term : Cond) ∈ zT := zT_in (List.mem_append_right _ (List.mem_append_right _ (List.mem_append_right _ (List.mem_append_right _ (List.mem_of_getElem? (l := tables_1_4) (i := 104) rfl))))) rfl
theorem ms_M_term : (.selects "PolynomialDeskModel" yM_term yM_term : Cond) ∈ zT := zT_in (List.mem_append_right _ (List.mem_append_right _ (List.mem_append_right _ (List.mem_append_right _ (List.mem_of_getElem? (l := tables_1_4) (i := 105) rfl))))) rfl
theorem ml_M_195 : (.methodLink "PolynomialDeskModel" 195 yM_placeOf : Cond) ∈ zT := zT_in (List.mem_append_right _ (List.mem_append_right _ (List.mem_append_right _ (List.mem_append_right _ (List.mem_of_getElem? (l := tables_1_4) (i := 107) rfl))))) rfl
theorem mi_M_placeOf : (.instanceMethod yM_placeOf : Cond) ∈ zT := zT_in (List.mem_append_right _ (List.mem_append_right _ (List.mem_append_right _ (List.mem_append_right _ (List.mem_of_getElem? (l := tables_1_4) (i := 109) rfl))))) rfl
theorem ml_L_101 : (.methodLink "PolynomialDeskLaw" 101 yM_print : Cond) ∈ zT := zT_in (List.mem_append_right _ (List.mem_append_right _ (List.mem_append_right _ (List.mem_append_right _ (List.mem_of_getElem? (l := tables_1_4) (i := 111) rfl))))) rfl
theorem mi_M_print : (.instanceMethod yM_print : Cond) ∈ zT := zT_in (List.mem_append_right _ (List.mem_append_right _ (List.mem_append_right _ (List.mem_append_right _ (List.mem_of_getElem? (l := tables_1_4) (i := 112) rfl))))) rfl
theorem ms_M_print : (.selects "PolynomialDeskModel" yM_print yM_print : Cond) ∈ zT := zT_in (List.mem_append_right _ (List.mem_append_right _ (List.mem_append_right _ (List.mem_append_right _ (List.mem_of_getElem? (l := tables_1_4) (i := 113) rfl))))) rfl
theorem ml_M_198 : (.methodLink "PolynomialDeskModel" 198 yM_say : Cond) ∈ zT := zT_in (List.mem_append_right _ (List.mem_append_right _ (List.mem_append_right _ (List.mem_append_right _ (List.mem_of_getElem? (l := tables_1_4) (i := 115) rfl))))) rfl
theorem mi_M_say : (.instanceMethod yM_say : Cond) ∈ zT := zT_in (List.mem_append_right _ (List.mem_append_right _ (List.mem_append_right _ (List.mem_append_right _ (List.mem_of_getElem? (l := tables_1_4) (i := 117) rfl))))) rfl
theorem ml_M_204 : (.methodLink "PolynomialDeskModel" 204 yM_sayTerm : Cond) ∈ zT := zT_in (List.mem_append_right _ (List.mem_append_right _ (List.mem_append_right _ (List.mem_append_right _ (List.mem_of_getElem? (l := tables_1_4) (i := 119) rfl))))) rfl
theorem mi_M_sayTerm : (.instanceMethod yM_sayTerm : Cond) ∈ zT := zT_in (List.mem_append_right _ (List.mem_append_right _ (List.mem_append_right _ (List.mem_append_right _ (List.mem_of_getElem? (l := tables_1_4) (i := 121) rfl))))) rfl
theorem ml_M_201 : (.methodLink "PolynomialDeskModel" 201 yM_sayNumber : Cond) ∈ zT := zT_in (List.mem_append_right _ (List.mem_append_right _ (List.mem_append_right _ (List.mem_append_right _ (List.mem_of_getElem? (l := tables_1_4) (i := 123) rfl))))) rfl
theorem mi_M_sayNumber : (.instanceMethod yM_sayNumber : Cond) ∈ zT := zT_in (List.mem_append_right _ (List.mem_append_right _ (List.mem_append_right _ (List.mem_append_right _ (List.mem_of_getElem? (l := tables_1_4) (i := 125) rfl))))) rfl
theorem ml_L_105 : (.methodLink "PolynomialDeskLaw" 105 yM_output : Cond) ∈ zT := zT_in (List.mem_append_right _ (List.mem_append_right _ (List.mem_append_right _ (List.mem_append_right _ (List.mem_of_getElem? (l := tables_1_4) (i := 127) rfl))))) rfl
theorem mi_M_output : (.instanceMethod yM_output : Cond) ∈ zT := zT_in (List.mem_append_right _ (List.mem_append_right _ (List.mem_append_right _ (List.mem_append_right _ (List.mem_of_getElem? (l := tables_1_4) (i := 128) rfl))))) rfl
theorem ms_M_output : (.selects "PolynomialDeskModel" yM_output yM_output : Cond) ∈ zT := zT_in (List.mem_append_right _ (List.mem_append_right _ (List.mem_append_right _ (List.mem_append_right _ (List.mem_of_getElem? (l := tables_1_4) (i := 129) rfl))))) rfl
theorem mq_L_57 : (.constantLong "PolynomialDeskLaw" 57 (4294967295) : Cond) ∈ zT := zT_in (List.mem_append_right _ (List.mem_append_right _ (List.mem_append_right _ (List.mem_append_right _ (List.mem_of_getElem? (l := tables_1_4) (i := 131) rfl))))) rfl
theorem ma_long : (.arrayClass .long : Cond) ∈ zT := zT_in (List.mem_append_right _ (List.mem_append_right _ (List.mem_append_right _ (List.mem_append_right _ (List.mem_of_getElem? (l := tables_1_4) (i := 132) rfl))))) rfl
theorem ms_R_listMonomials : (.selects "PolynomialDesk$Ring" yR_listMonomials yR_listMonomials : Cond) ∈ zT := zT_in (List.mem_append_left _ (List.mem_of_getElem? (l := k2_sels lw_privs) (i := 0) rfl)) rfl
theorem ms_R_recordMonomial : (.selects "PolynomialDesk$Ring" yR_recordMonomial yR_recordMonomial : Cond) ∈ zT := zT_in (List.mem_append_left _ (List.mem_of_getElem? (l := k2_sels lw_privs) (i := 1) rfl)) rfl
theorem ms_R_leadingOf : (.selects "PolynomialDesk$Ring" yR_leadingOf yR_leadingOf : Cond) ∈ zT := zT_in (List.mem_append_left _ (List.mem_of_getElem? (l := k2_sels lw_privs) (i := 2) rfl)) rfl
theorem ms_E_readSum : (.selects "PolynomialDesk$Reader" yE_readSum yE_readSum : Cond) ∈ zT := zT_in (List.mem_append_left _ (List.mem_of_getElem? (l := k2_sels lw_privs) (i := 4) rfl)) rfl
theorem ms_E_nextByte : (.selects "PolynomialDesk$Reader" yE_nextByte yE_nextByte : Cond) ∈ zT := zT_in (List.mem_append_left _ (List.mem_of_getElem? (l := k2_sels lw_privs) (i := 5) rfl)) rfl
theorem ms_E_readTerm : (.selects "PolynomialDesk$Reader" yE_readTerm yE_readTerm : Cond) ∈ zT := zT_in (List.mem_append_left _ (List.mem_of_getElem? (l := k2_sels lw_privs) (i := 6) rfl)) rfl
theorem ms_E_readFactor : (.selects "PolynomialDesk$Reader" yE_readFactor yE_readFactor : Cond) ∈ zT := zT_in (List.mem_append_left _ (List.mem_of_getElem? (l := k2_sels lw_privs) (i := 7) rfl)) rfl
theorem ms_E_readBareFactor : (.selects "PolynomialDesk$Reader" yE_readBareFactor yE_readBareFactor : Cond) ∈ zT := zT_in (List.mem_append_left _ (List.mem_of_getElem? (l := k2_sels lw_privs) (i := 8) rfl)) rfl
theorem ms_E_readNumber : (.selects "PolynomialDesk$Reader" yE_readNumber yE_readNumber : Cond) ∈ zT := zT_in (List.mem_append_left _ (List.mem_of_getElem? (l := k2_sels lw_privs) (i := 9) rfl)) rfl
theorem ms_E_noteFault : (.selects "PolynomialDesk$Reader" yE_noteFault yE_noteFault : Cond) ∈ zT := zT_in (List.mem_append_left _ (List.mem_of_getElem? (l := k2_sels lw_privs) (i := 10) rfl)) rfl
theorem ms_R_reduce : (.selects "PolynomialDesk$Ring" yR_reduce yR_reduce : Cond) ∈ zT := zT_in (List.mem_append_left _ (List.mem_of_getElem? (l := k2_sels lw_privs) (i := 11) rfl)) rfl
theorem ms_R_addAt : (.selects "PolynomialDesk$Ring" yR_addAt yR_addAt : Cond) ∈ zT := zT_in (List.mem_append_left _ (List.mem_of_getElem? (l := k2_sels lw_privs) (i := 12) rfl)) rfl
theorem ms_E_readGroup : (.selects "PolynomialDesk$Reader" yE_readGroup yE_readGroup : Cond) ∈ zT := zT_in (List.mem_append_left _ (List.mem_of_getElem? (l := k2_sels lw_privs) (i := 13) rfl)) rfl
theorem ms_K_requireVariable : (.selects "PolynomialDesk" yK_requireVariable yK_requireVariable : Cond) ∈ zT := zT_in (List.mem_append_left _ (List.mem_of_getElem? (l := k2_sels lw_privs) (i := 14) rfl)) rfl
theorem ms_R_timesPower : (.selects "PolynomialDesk$Ring" yR_timesPower yR_timesPower : Cond) ∈ zT := zT_in (List.mem_append_left _ (List.mem_of_getElem? (l := k2_sels lw_privs) (i := 15) rfl)) rfl
theorem ms_P_writeByte : (.selects "PolynomialDesk$Printer" yP_writeByte yP_writeByte : Cond) ∈ zT := zT_in (List.mem_append_left _ (List.mem_of_getElem? (l := k2_sels lw_privs) (i := 16) rfl)) rfl
theorem ms_P_writeTerm : (.selects "PolynomialDesk$Printer" yP_writeTerm yP_writeTerm : Cond) ∈ zT := zT_in (List.mem_append_left _ (List.mem_of_getElem? (l := k2_sels lw_privs) (i := 17) rfl)) rfl
theorem ms_P_writeNumber : (.selects "PolynomialDesk$Printer" yP_writeNumber yP_writeNumber : Cond) ∈ zT := zT_in (List.mem_append_left _ (List.mem_of_getElem? (l := k2_sels lw_privs) (i := 18) rfl)) rfl
theorem ms_M_prepare : (.selects "PolynomialDeskModel" yM_prepare yM_prepare : Cond) ∈ zT := zT_in (List.mem_append_left _ (List.mem_of_getElem? (l := k2_sels lw_privs) (i := 19) rfl)) rfl
theorem ms_M_list : (.selects "PolynomialDeskModel" yM_list yM_list : Cond) ∈ zT := zT_in (List.mem_append_left _ (List.mem_of_getElem? (l := k2_sels lw_privs) (i := 20) rfl)) rfl
theorem ms_M_isGreater : (.selects "PolynomialDeskModel" yM_isGreater yM_isGreater : Cond) ∈ zT := zT_in (List.mem_append_left _ (List.mem_of_getElem? (l := k2_sels lw_privs) (i := 21) rfl)) rfl
theorem ms_M_begin : (.selects "PolynomialDeskModel" yM_begin yM_begin : Cond) ∈ zT := zT_in (List.mem_append_left _ (List.mem_of_getElem? (l := k2_sels lw_privs) (i := 22) rfl)) rfl
theorem ms_M_sum : (.selects "PolynomialDeskModel" yM_sum yM_sum : Cond) ∈ zT := zT_in (List.mem_append_left _ (List.mem_of_getElem? (l := k2_sels lw_privs) (i := 23) rfl)) rfl
theorem ms_M_clear : (.selects "PolynomialDeskModel" yM_clear yM_clear : Cond) ∈ zT := zT_in (List.mem_append_left _ (List.mem_of_getElem? (l := k2_sels lw_privs) (i := 24) rfl)) rfl
theorem ms_M_lay : (.selects "PolynomialDeskModel" yM_lay yM_lay : Cond) ∈ zT := zT_in (List.mem_append_left _ (List.mem_of_getElem? (l := k2_sels lw_privs) (i := 25) rfl)) rfl
theorem ms_M_here : (.selects "PolynomialDeskModel" yM_here yM_here : Cond) ∈ zT := zT_in (List.mem_append_left _ (List.mem_of_getElem? (l := k2_sels lw_privs) (i := 26) rfl)) rfl
theorem ms_M_readFactor : (.selects "PolynomialDeskModel" yM_readFactor yM_readFactor : Cond) ∈ zT := zT_in (List.mem_append_left _ (List.mem_of_getElem? (l := k2_sels lw_privs) (i := 27) rfl)) rfl
theorem ms_M_fail : (.selects "PolynomialDeskModel" yM_fail yM_fail : Cond) ∈ zT := zT_in (List.mem_append_left _ (List.mem_of_getElem? (l := k2_sels lw_privs) (i := 28) rfl)) rfl
theorem ms_M_variable : (.selects "PolynomialDeskModel" yM_variable yM_variable : Cond) ∈ zT := zT_in (List.mem_append_left _ (List.mem_of_getElem? (l := k2_sels lw_privs) (i := 29) rfl)) rfl
theorem ms_M_factor : (.selects "PolynomialDeskModel" yM_factor yM_factor : Cond) ∈ zT := zT_in (List.mem_append_left _ (List.mem_of_getElem? (l := k2_sels lw_privs) (i := 30) rfl)) rfl
theorem ms_M_number : (.selects "PolynomialDeskModel" yM_number yM_number : Cond) ∈ zT := zT_in (List.mem_append_left _ (List.mem_of_getElem? (l := k2_sels lw_privs) (i := 31) rfl)) rfl
theorem ms_M_modulo : (.selects "PolynomialDeskModel" yM_modulo yM_modulo : Cond) ∈ zT := zT_in (List.mem_append_left _ (List.mem_of_getElem? (l := k2_sels lw_privs) (i := 32) rfl)) rfl
theorem ms_M_readPower : (.selects "PolynomialDeskModel" yM_readPower yM_readPower : Cond) ∈ zT := zT_in (List.mem_append_left _ (List.mem_of_getElem? (l := k2_sels lw_privs) (i := 33) rfl)) rfl
theorem ms_M_degreeOf : (.selects "PolynomialDeskModel" yM_degreeOf yM_degreeOf : Cond) ∈ zT := zT_in (List.mem_append_left _ (List.mem_of_getElem? (l := k2_sels lw_privs) (i := 34) rfl)) rfl
theorem ms_M_cell : (.selects "PolynomialDeskModel" yM_cell yM_cell : Cond) ∈ zT := zT_in (List.mem_append_left _ (List.mem_of_getElem? (l := k2_sels lw_privs) (i := 35) rfl)) rfl
theorem ms_M_times : (.selects "PolynomialDeskModel" yM_times yM_times : Cond) ∈ zT := zT_in (List.mem_append_left _ (List.mem_of_getElem? (l := k2_sels lw_privs) (i := 36) rfl)) rfl
theorem ms_M_copy : (.selects "PolynomialDeskModel" yM_copy yM_copy : Cond) ∈ zT := zT_in (List.mem_append_left _ (List.mem_of_getElem? (l := k2_sels lw_privs) (i := 37) rfl)) rfl
theorem ms_M_goOn : (.selects "PolynomialDeskModel" yM_goOn yM_goOn : Cond) ∈ zT := zT_in (List.mem_append_left _ (List.mem_of_getElem? (l := k2_sels lw_privs) (i := 38) rfl)) rfl
theorem ms_M_product : (.selects "PolynomialDeskModel" yM_product yM_product : Cond) ∈ zT := zT_in (List.mem_append_left _ (List.mem_of_getElem? (l := k2_sels lw_privs) (i := 39) rfl)) rfl
theorem ms_M_isTooHigh : (.selects "PolynomialDeskModel" yM_isTooHigh yM_isTooHigh : Cond) ∈ zT := zT_in (List.mem_append_left _ (List.mem_of_getElem? (l := k2_sels lw_privs) (i := 40) rfl)) rfl
theorem ms_M_addTo : (.selects "PolynomialDeskModel" yM_addTo yM_addTo : Cond) ∈ zT := zT_in (List.mem_append_left _ (List.mem_of_getElem? (l := k2_sels lw_privs) (i := 41) rfl)) rfl
theorem ms_M_terms : (.selects "PolynomialDeskModel" yM_terms yM_terms : Cond) ∈ zT := zT_in (List.mem_append_left _ (List.mem_of_getElem? (l := k2_sels lw_privs) (i := 42) rfl)) rfl
theorem ms_M_lacks : (.selects "PolynomialDeskModel" yM_lacks yM_lacks : Cond) ∈ zT := zT_in (List.mem_append_left _ (List.mem_of_getElem? (l := k2_sels lw_privs) (i := 43) rfl)) rfl
theorem ms_M_power : (.selects "PolynomialDeskModel" yM_power yM_power : Cond) ∈ zT := zT_in (List.mem_append_left _ (List.mem_of_getElem? (l := k2_sels lw_privs) (i := 44) rfl)) rfl
theorem ms_M_placeOf : (.selects "PolynomialDeskModel" yM_placeOf yM_placeOf : Cond) ∈ zT := zT_in (List.mem_append_left _ (List.mem_of_getElem? (l := k2_sels lw_privs) (i := 45) rfl)) rfl
theorem ms_M_say : (.selects "PolynomialDeskModel" yM_say yM_say : Cond) ∈ zT := zT_in (List.mem_append_left _ (List.mem_of_getElem? (l := k2_sels lw_privs) (i := 46) rfl)) rfl
theorem ms_M_sayTerm : (.selects "PolynomialDeskModel" yM_sayTerm yM_sayTerm : Cond) ∈ zT := zT_in (List.mem_append_left _ (List.mem_of_getElem? (l := k2_sels lw_privs) (i := 47) rfl)) rfl
theorem ms_M_sayNumber : (.selects "PolynomialDeskModel" yM_sayNumber yM_sayNumber : Cond) ∈ zT := zT_in (List.mem_append_left _ (List.mem_of_getElem? (l := k2_sels lw_privs) (i := 48) rfl)) rfl
def TP : u_T := fun k => match k with
  | 0 => ("PolynomialDesk$Printer", "ring", "LPolynomialDesk$Ring;", true)
  | 1 => ("PolynomialDesk$Printer", "bytes", "[C", true)
  | _ => ("PolynomialDesk$Printer", "length", "I", false)
def tP : Nat → FieldType := fun k => match k with
  | 0 => .object "PolynomialDesk$Ring"
  | 1 => .array .char
  | _ => .int
theorem nP : ∀ a, a < 3 → ∀ b, b < 3 → a ≠ b → (TP a).2.1 ≠ (TP b).2.1 := by decide +kernel
theorem tP_ok : ∀ k, k < 3 → parseFieldDescriptor (TP k).2.2.1 = some (tP k) := by decide +kernel
theorem uP : ∀ w ∈ u_ws "PolynomialDesk$Printer" TP 3, w ∈ zT := by decide +kernel
def TE : u_T := fun k => match k with
  | 0 => ("PolynomialDesk$Reader", "ring", "LPolynomialDesk$Ring;", true)
  | 1 => ("PolynomialDesk$Reader", "text", "[C", true)
  | 2 => ("PolynomialDesk$Reader", "length", "I", false)
  | 3 => ("PolynomialDesk$Reader", "at", "I", false)
  | 4 => ("PolynomialDesk$Reader", "fault", "I", false)
  | 5 => ("PolynomialDesk$Reader", "place", "I", false)
  | 6 => ("PolynomialDesk$Reader", "sums", "[[I", true)
  | 7 => ("PolynomialDesk$Reader", "products", "[[I", true)
  | _ => ("PolynomialDesk$Reader", "factor", "[I", true)
def tE : Nat → FieldType := fun k => match k with
  | 0 => .object "PolynomialDesk$Ring"
  | 1 => .array .char
  | 2 => .int
  | 3 => .int
  | 4 => .int
  | 5 => .int
  | 6 => .array (.array .int)
  | 7 => .array (.array .int)
  | _ => .array .int
theorem nE : ∀ a, a < 9 → ∀ b, b < 9 → a ≠ b → (TE a).2.1 ≠ (TE b).2.1 := by decide +kernel
theorem tE_ok : ∀ k, k < 9 → parseFieldDescriptor (TE k).2.2.1 = some (tE k) := by decide +kernel
theorem uE : ∀ w ∈ u_ws "PolynomialDesk$Reader" TE 9, w ∈ zT := by decide +kernel
def TR : u_T := fun k => match k with
  | 0 => ("PolynomialDesk$Ring", "prime", "I", false)
  | 1 => ("PolynomialDesk$Ring", "variables", "I", false)
  | 2 => ("PolynomialDesk$Ring", "order", "I", false)
  | 3 => ("PolynomialDesk$Ring", "highest", "I", false)
  | 4 => ("PolynomialDesk$Ring", "count", "I", false)
  | 5 => ("PolynomialDesk$Ring", "exponents", "[[I", true)
  | 6 => ("PolynomialDesk$Ring", "degrees", "[I", true)
  | 7 => ("PolynomialDesk$Ring", "keys", "[I", true)
  | 8 => ("PolynomialDesk$Ring", "weights", "[I", true)
  | 9 => ("PolynomialDesk$Ring", "indexes", "[I", true)
  | 10 => ("PolynomialDesk$Ring", "chosen", "[I", true)
  | 11 => ("PolynomialDesk$Ring", "scratch", "[I", true)
  | _ => ("PolynomialDesk$Ring", "base", "[I", true)
def tR : Nat → FieldType := fun k => match k with
  | 0 => .int
  | 1 => .int
  | 2 => .int
  | 3 => .int
  | 4 => .int
  | 5 => .array (.array .int)
  | 6 => .array .int
  | 7 => .array .int
  | 8 => .array .int
  | 9 => .array .int
  | 10 => .array .int
  | 11 => .array .int
  | _ => .array .int
theorem nR : ∀ a, a < 13 → ∀ b, b < 13 → a ≠ b → (TR a).2.1 ≠ (TR b).2.1 := by decide +kernel
theorem tR_ok : ∀ k, k < 13 → parseFieldDescriptor (TR k).2.2.1 = some (tR k) := by decide +kernel
theorem uR : ∀ w ∈ u_ws "PolynomialDesk$Ring" TR 13, w ∈ zT := by decide +kernel
def TK : u_T := fun k => match k with
  | 0 => ("PolynomialDesk", "ring", "LPolynomialDesk$Ring;", true)
  | 1 => ("PolynomialDesk", "reader", "LPolynomialDesk$Reader;", true)
  | 2 => ("PolynomialDesk", "printer", "LPolynomialDesk$Printer;", true)
  | 3 => ("PolynomialDesk", "polynomials", "[[I", true)
  | _ => ("PolynomialDesk", "numbers", "[I", true)
def tK : Nat → FieldType := fun k => match k with
  | 0 => .object "PolynomialDesk$Ring"
  | 1 => .object "PolynomialDesk$Reader"
  | 2 => .object "PolynomialDesk$Printer"
  | 3 => .array (.array .int)
  | _ => .array .int
theorem nK : ∀ a, a < 5 → ∀ b, b < 5 → a ≠ b → (TK a).2.1 ≠ (TK b).2.1 := by decide +kernel
theorem tK_ok : ∀ k, k < 5 → parseFieldDescriptor (TK k).2.2.1 = some (tK k) := by decide +kernel
theorem uK : ∀ w ∈ u_ws "PolynomialDesk" TK 5, w ∈ zT := by decide +kernel
def TM : u_T := fun k => match k with
  | 0 => ("PolynomialDeskModel", "thrown", "I", false)
  | 1 => ("PolynomialDeskModel", "prime", "I", false)
  | 2 => ("PolynomialDeskModel", "many", "I", false)
  | 3 => ("PolynomialDeskModel", "order", "I", false)
  | 4 => ("PolynomialDeskModel", "highest", "I", false)
  | 5 => ("PolynomialDeskModel", "base", "I", false)
  | 6 => ("PolynomialDeskModel", "degree", "[I", true)
  | 7 => ("PolynomialDeskModel", "exponents", "[I", true)
  | 8 => ("PolynomialDeskModel", "listed", "[I", true)
  | 9 => ("PolynomialDeskModel", "unit", "[I", true)
  | 10 => ("PolynomialDeskModel", "monomials", "I", false)
  | 11 => ("PolynomialDeskModel", "cells", "[I", true)
  | 12 => ("PolynomialDeskModel", "hand", "[I", true)
  | 13 => ("PolynomialDeskModel", "inHand", "I", false)
  | 14 => ("PolynomialDeskModel", "fault", "I", false)
  | 15 => ("PolynomialDeskModel", "place", "I", false)
  | 16 => ("PolynomialDeskModel", "n", "I", false)
  | 17 => ("PolynomialDeskModel", "at", "I", false)
  | 18 => ("PolynomialDeskModel", "state", "I", false)
  | 19 => ("PolynomialDeskModel", "depth", "I", false)
  | 20 => ("PolynomialDeskModel", "failed", "I", false)
  | 21 => ("PolynomialDeskModel", "failedAt", "I", false)
  | 22 => ("PolynomialDeskModel", "text", "[I", true)
  | 23 => ("PolynomialDeskModel", "sign", "[I", true)
  | 24 => ("PolynomialDeskModel", "star", "[I", true)
  | 25 => ("PolynomialDeskModel", "out", "[I", true)
  | _ => ("PolynomialDeskModel", "printed", "I", false)
def tM : Nat → FieldType := fun k => match k with
  | 0 => .int
  | 1 => .int
  | 2 => .int
  | 3 => .int
  | 4 => .int
  | 5 => .int
  | 6 => .array .int
  | 7 => .array .int
  | 8 => .array .int
  | 9 => .array .int
  | 10 => .int
  | 11 => .array .int
  | 12 => .array .int
  | 13 => .int
  | 14 => .int
  | 15 => .int
  | 16 => .int
  | 17 => .int
  | 18 => .int
  | 19 => .int
  | 20 => .int
  | 21 => .int
  | 22 => .array .int
  | 23 => .array .int
  | 24 => .array .int
  | 25 => .array .int
  | _ => .int
theorem nM : ∀ a, a < 27 → ∀ b, b < 27 → a ≠ b → (TM a).2.1 ≠ (TM b).2.1 := by decide +kernel
theorem tM_ok : ∀ k, k < 27 → parseFieldDescriptor (TM k).2.2.1 = some (tM k) := by decide +kernel
theorem uM : ∀ w ∈ u_ws "PolynomialDeskModel" TM 27, w ∈ zT := by decide +kernel
abbrev zcl : List vw_C := [("PolynomialDesk$Printer", TP, 3), ("PolynomialDesk$Reader", TE, 9), ("PolynomialDesk$Ring", TR, 13), ("PolynomialDesk", TK, 5), ("PolynomialDeskModel", TM, 27)]
end
section
theorem arrV_ext_z {cA : ClassId} {n : Nat} {f f' : Nat → Int32} (h : ∀ j, j < n → f j = f' j) : arrV cA n (fun j => .int (f j)) = arrV cA n (fun j => .int (f' j)) := by
  unfold arrV
  congr 1
  apply Array.ext
  · simp
  · intro i h1 h2
    simp at h1 h2
    simp [h i (by omega)]
/-! NUMBERED WORLDS. A world is a partial function w from cell numbers to cells; ad k is the address of cell k; different numbers lie at different addresses, all from N0 on. One world for the class, the reference and the law: a callee gets the whole world, so nothing is cut out and nothing is joined. -/
def zw_H (D : va_G) (N0 : Nat) (ad : Nat → Nat) (w : Nat → Option va_E) (H : Heap) : Prop :=
  (∀ (k : Nat) (x : va_E), w k = some x → va_at D zcl (ad k, x) H ∧ N0 ≤ ad k) ∧ ∀ (j k : Nat) (x y : va_E), w j = some x → w k = some y → ad j = ad k → j = k
section ZWH
variable {D : va_G} {N0 : Nat} {ad ad' : Nat → Nat} {w w' : Nat → Option va_E} {H H1 : Heap}
theorem zw_H.set {k : Nat} {x0 x : va_E} (h : zw_H D N0 ad w H) (hk : w k = some x0) (he : va_at D zcl (ad k, x) H1) (oq : ∀ q : Nat, q ≠ ad k → H1[q]? = H[q]?) : zw_H D N0 ad (va_up w k (some x)) H1 := by
  have dom : ∀ (j : Nat) (z : va_E), va_up w k (some x) j = some z → ∃ z', w j = some z' := by
    intro j z hj
    by_cases hjk : j = k
    · subst hjk
      exact ⟨x0, hk⟩
    · rw [va_up_ne _ _ hjk] at hj
      exact ⟨z, hj⟩
  refine ⟨fun j z hj => ?_, fun i j z z' hi hj hij => ?_⟩
  · by_cases hjk : j = k
    · subst hjk
      rw [va_up_self] at hj
      cases hj
      exact ⟨he, (h.1 j x0 hk).2⟩
    · rw [va_up_ne _ _ hjk] at hj
      exact ⟨(h.1 j z hj).1.kept (oq _ (fun q => hjk (h.2 j k z x0 hj hk q))), (h.1 j z hj).2⟩
  · obtain ⟨a, ha⟩ := dom i z hi
    obtain ⟨b, hb⟩ := dom j z' hj
    exact h.2 i j a b ha hb hij
theorem zw_H.lt (h : zw_H D N0 ad w H) {k : Nat} {x : va_E} (hk : w k = some x) : ad k < H.size := (h.1 k x hk).1.lt
theorem zw_H.new (k : Nat) {x : va_E} (h : zw_H D N0 ad w H) (hk : w k = none) (hN : N0 ≤ H.size) (he : va_at D zcl (H.size, x) H1) (oq : ∀ q : Nat, q < H.size → H1[q]? = H[q]?) : zw_H D N0 (va_up ad k H.size) (va_up w k (some x)) H1 := by
  have old : ∀ (j : Nat) (z : va_E), j ≠ k → va_up w k (some x) j = some z → w j = some z := fun j z hj h1 => by rw [va_up_ne _ _ hj] at h1; exact h1
  refine ⟨fun j z hj => ?_, fun i j z z' hi hj hij => ?_⟩
  · by_cases hjk : j = k
    · subst hjk
      rw [va_up_self] at hj
      cases hj
      rw [va_up_self]
      exact ⟨he, hN⟩
    · have h1 := old j z hjk hj
      rw [va_up_ne _ _ hjk]
      exact ⟨(h.1 j z h1).1.kept (oq _ (h.lt h1)), (h.1 j z h1).2⟩
  · by_cases hik : i = k
    · by_cases hjk : j = k
      · rw [hik, hjk]
      · subst hik
        rw [va_up_self, va_up_ne _ _ hjk] at hij
        have := h.lt (old j z' hjk hj)
        omega
    · by_cases hjk : j = k
      · subst hjk
        rw [va_up_self, va_up_ne _ _ hik] at hij
        have := h.lt (old i z hik hi)
        omega
      · rw [va_up_ne _ _ hik, va_up_ne _ _ hjk] at hij
        exact h.2 i j z z' (old i z hik hi) (old j z' hjk hj) hij
/-- fewer cells -/
theorem zw_H.less (h : zw_H D N0 ad w H) (hw : ∀ (k : Nat) (x : va_E), w' k = some x → w k = some x ∧ ad' k = ad k) : zw_H D N0 ad' w' H := by
  refine ⟨fun k x hk => ?_, fun j k x y hj hk hjk => ?_⟩
  · rw [(hw k x hk).2]
    exact h.1 k x (hw k x hk).1
  · rw [(hw j x hj).2, (hw k y hk).2] at hjk
    exact h.2 j k x y (hw j x hj).1 (hw k y hk).1 hjk
end ZWH
/-- what does not change in a run: where the classes lie, the array classes (int, char, long, int[]), the first free address, and what is known of the cells below it -/
abbrev zG : Type := va_G × (Nat → ClassId) × Nat × (State → Heap → Prop)
abbrev zty (q : Nat → ClassId) : List (ClassId × FieldType) := [(q 0, .int), (q 1, .char), (q 2, .long), (q 3, .array .int)]
/-- the cells from N0 on -/
abbrev zA (G : zG) : Nat → Prop := fun q => G.2.2.1 ≤ q
def zXok (G : zG) : Prop := (∀ (u U : State) (H : Heap), (u.WarmedH U.vm ∨ U.vm = u.vm) → G.2.2.2 u H → G.2.2.2 U H) ∧ ∀ (U : State) (H H1 : Heap), (∀ a : Nat, a < H.size → ¬ G.2.2.1 ≤ a → H1[a]? = H[a]?) → G.2.2.2 U H → G.2.2.2 U H1
/-- a state with a world: what a contract begins and ends with -/
def zw_U (G : zG) (ad : Nat → Nat) (w : Nat → Option va_E) (U : State) : Prop :=
  va_K G.1 zcl (zty G.2.1) U ∧ zw_H G.1 G.2.2.1 ad w U.heap ∧ G.2.2.1 ≤ U.heap.size ∧ zXok G ∧ G.2.2.2 U U.heap
/-- the same in the midst of a method -/
def zw (G : zG) (ad : Nat → Nat) (w : Nat → Option va_E) (s : State) (H : Heap) (locs : List Loc) : Prop :=
  va_K G.1 zcl (zty G.2.1) s ∧ zw_H G.1 G.2.2.1 ad w H ∧ va_S (zA G) s.heap H locs ∧ G.2.2.1 ≤ s.heap.size ∧ zXok G ∧ G.2.2.2 s s.heap
section ZWA
variable {G : zG} {ad ad' : Nat → Nat} {w w' : Nat → Option va_E} {s : State} {H : Heap} {locs : List Loc}
theorem zw_U.moved {u U : State} (hvm : U.vm = u.vm) (hh : U.heap = u.heap) (h : zw_U G ad w u) : zw_U G ad w U := by
  obtain ⟨h1, h2, h3, h4, h5⟩ := h
  refine ⟨va_K.moved (by rw [hvm]; exact Vm.Alike.refl _) h1, by rw [hh]; exact h2, by rw [hh]; exact h3, h4, ?_⟩
  rw [hh]
  exact h4.1 u U _ (Or.inr hvm) h5
theorem zw_U.enter (h : zw_U G ad w s) : zw G ad w s s.heap [] := ⟨h.1, h.2.1, va_S.rf, h.2.2.1, h.2.2.2⟩
theorem zw.at' (Z : zw G ad w s H locs) {U : State} (hU : U.heap = H) (hW : s.WarmedH U.vm) : zw_U G ad w U := by
  obtain ⟨h1, h2, h3, h4, h5, h6⟩ := Z
  refine ⟨va_K.moved hW.alike h1, by rw [hU]; exact h2, by rw [hU]; exact Nat.le_trans h4 h3.1, h5, ?_⟩
  rw [hU]
  exact h5.2 U _ _ (fun a ha hn => h3.2.1 a ha hn) (h5.1 s U _ (Or.inl hW) h6)
theorem zw.F (Z : zw G ad w s H locs) {t : State} (ht : t.heap = H) : va_F (zA G) s t := Z.2.2.1.F ht
theorem zw.fr (Z : zw G ad w s H locs) : ∀ q ∈ locs, zA G q.base := Z.2.2.1.2.2
theorem zw.one (Z : zw G ad w s H locs) {k : Nat} {x : va_E} (hk : w k = some x) : va_P G.1 zcl [(ad k, x)] H := fun i q hi => by
  have hz : i < 1 := (List.getElem?_eq_some_iff.mp hi).1
  rw [show i = 0 by omega] at hi
  cases hi
  exact (Z.2.1.1 k x hk).1
theorem zw.put (Z : zw G ad w s H locs) {k j : Nat} {x0 x : va_E} {H1 : Heap} (hk : w k = some x0) (he : va_at G.1 zcl (ad k, x) H1) (z : H1.size = H.size) (oq : ∀ q : Nat, q ≠ ad k → H1[q]? = H[q]?) : zw G ad (va_up w k (some x)) s H1 (locs ++ [⟨ad k, j⟩]) :=
  ⟨Z.1, Z.2.1.set hk he oq, Z.2.2.1.put z oq (Z.2.1.1 k x0 hk).2, Z.2.2.2⟩
theorem zw.grow (Z : zw G ad w s H locs) (k : Nat) {x : va_E} {H1 : Heap} (hk : w k = none) (he : va_at G.1 zcl (H.size, x) H1) (z : H1.size = H.size + 1) (oq : ∀ q : Nat, q < H.size → H1[q]? = H[q]?) : zw G (va_up ad k H.size) (va_up w k (some x)) s H1 locs :=
  ⟨Z.1, Z.2.1.new k hk (Nat.le_trans Z.2.2.2.1 Z.2.2.1.1) he oq, ⟨Nat.le_trans Z.2.2.1.1 (by omega), fun q h1 h2 => (oq q (Nat.lt_of_lt_of_le h1 Z.2.2.1.1)).trans (Z.2.2.1.2.1 q h1 h2), Z.2.2.1.2.2⟩, Z.2.2.2⟩
theorem zw.less (Z : zw G ad w s H locs) (hw : ∀ (k : Nat) (x : va_E), w' k = some x → w k = some x ∧ ad' k = ad k) : zw G ad' w' s H locs := ⟨Z.1, Z.2.1.less hw, Z.2.2⟩
/-- an array's contents matter up to its length -/
theorem zw.ext (Z : zw G ad w s H locs) {k n : Nat} {cA : ClassId} {f f' : Nat → Int32} (hk : w k = some (.inl (cA, n, .inl f))) (hf : ∀ j, j < n → f j = f' j) : zw G ad (va_up w k (some (.inl (cA, n, .inl f')))) s H locs := by
  refine ⟨Z.1, Z.2.1.set hk ?_ (fun _ _ => rfl), Z.2.2⟩
  have h := (Z.2.1.1 k _ hk).1
  show H[ad k]? = some (vp_cell cA (n, .inl f'))
  have h2 : H[ad k]? = some (vp_cell cA (n, .inl f)) := h
  rw [h2, vp_cell_i, vp_cell_i]
  congr 1
  exact arrV_ext_z hf
theorem zw.blind {av : List Value} : FrameBlind (va_Pc av (zw_U G ad w)) := fun a U g mk q => ⟨q.1, zw_U.moved (u := U) (U := U.calling g mk a) rfl rfl q.2⟩
theorem zw.preS (Z : zw G ad w s H locs) (av : List Value) : PreS s H (va_Pc av (zw_U G ad w)) av := ⟨zw.blind, fun U hU hW => ⟨rfl, Z.at' hU hW⟩⟩
theorem zw.preV (Z : zw G ad w s H locs) {k ci : Nat} {q : vw_C} {fs : List Value} (hk : w k = some (.inr (ci, fs))) (hc : zcl[ci]? = some q) (av : List Value) : PreV s H q.1 (ad k) (va_Pc (.ref (ad k) :: av) (zw_U G ad w)) av :=
  ⟨zw.blind, va_recv Z.1 (Z.one hk) hc (q0 := 0) rfl, fun U hU hW => ⟨rfl, Z.at' hU hW⟩⟩
end ZWA
section ZWB
variable {p : Program} {l : Launch} {e : Env} {R : Room} {s : State} {m : MethodId} {args : Array Value} {below : List Frame} {meth : Method} {c : Code} {H : Heap} {locs : List Loc} {cells slots : Nat} {Q : State → Prop}
variable {cc : ByteArray} {pc : Nat} {ls : Array Slot} {rest : List Value} {G : zG} {ad : Nat → Nat} {w : Nat → Option va_E}
theorem zw_get (hexec : p.tables.exec = Jvm.exec) (hb : c.code = cc) {own ref C : String} {T : u_T} {N ci index : Nat} {Ts : List Cond} (hts : ∀ w ∈ Ts, w.before args s = true) (hin : ∀ w ∈ u_ws C T N, w ∈ Ts) (hown : s.vm.findClass own = some m.cls) (Z : zw G ad w s H locs) {k : Nat} {fs : List Value} (he : w k = some (.inr (ci, fs))) (hc : zcl[ci]? = some (C, T, N)) (j : Nat) (hj : j < N) (hlink : (Cond.fieldLink own index ref (T j).2.1 (T j).2.2.1).before args s = true) (hsame : ∀ x, s.fieldFound? (T j).1 (T j).2.1 (T j).2.2.1 = some x → s.fieldFound? ref (T j).2.1 (T j).2.2.1 = some x) {v : Value} (hv : fs[j]? = some v) (hdg : decode cc pc = .ok (.getfield index, 3))
    (kk : W p l e R s m args below meth c H locs cells slots Q (F0 m (pc + 3) ls (v :: rest))) : W p l e R s m args below meth c H locs cells slots Q (F0 m pc ls (.ref (ad k) :: rest)) :=
  va_get hexec hb hts hin hown Z.1 (Z.one he) 0 rfl hc j hj hlink hsame hv hdg kk
theorem zw_put (hexec : p.tables.exec = Jvm.exec) (hb : c.code = cc) {own ref C : String} {T : u_T} {N ci index : Nat} {Ts : List Cond} (hts : ∀ w ∈ Ts, w.before args s = true) (hin : ∀ w ∈ u_ws C T N, w ∈ Ts) (hown : s.vm.findClass own = some m.cls) (ty0 : Nat → FieldType) (hty : ∀ k, k < N → parseFieldDescriptor (T k).2.2.1 = some (ty0 k)) (hnm : ∀ a, a < N → ∀ b, b < N → a ≠ b → (T a).2.1 ≠ (T b).2.1) (Z : zw G ad w s H locs) {k : Nat} {fs : List Value} (he : w k = some (.inr (ci, fs))) (hc : zcl[ci]? = some (C, T, N)) (j : Nat) (hj : j < N) (hlink : (Cond.fieldLink own index ref (T j).2.1 (T j).2.2.1).before args s = true) (hsame : ∀ x, s.fieldFound? (T j).1 (T j).2.1 (T j).2.2.1 = some x → s.fieldFound? ref (T j).2.1 (T j).2.2.1 = some x) (hfin : (T j).2.2.2 = false) {v : Value} (hn : narrow (ty0 j) v = v) (hfit : fits (ty0 j) v = true) (hl : j < fs.length) (hdg : decode cc pc = .ok (.putfield index, 3))
    (kk : ∀ (H1 : Heap) (locs1 : List Loc), zw G ad (va_up w k (some (.inr (ci, fs.set j v)))) s H1 locs1 → W p l e R s m args below meth c H1 locs1 cells slots Q (F0 m (pc + 3) ls rest)) : W p l e R s m args below meth c H locs cells slots Q (F0 m pc ls (v :: .ref (ad k) :: rest)) := by
  have hap := va_apart (own := own) hts hin ty0 hty hnm Z.1 hc
  obtain ⟨r, h1, cell, q1, q2, q3, q4⟩ := (Z.2.1.1 k _ he).1
  have hr : r = (C, T, N) := Option.some.inj (h1.symm.trans hc)
  subst hr
  obtain ⟨hS, hfc, kC, hkC, hkind⟩ := Z.1.1 ci _ hc
  obtain ⟨cf, kf, fi, f, hi, hsl⟩ := hS j hj
  have hlay := hts _ (hin _ (u_in_lay hj))
  unfold u_lay at hlay
  rw [if_neg (by rw [hfin]; decide)] at hlay
  have hst := (u_facts hfc hkC (u_lays hts hin hj) hi).1
  have h6 := u_store hfc hkC hkind hlay hi (hty j hj) hn hfit
  refine W.putK hexec hb (f := f) ⟨hown, hlink, ⟨_, _, _, hsame _ hi⟩, hst⟩ (by rw [q2]; exact h6) q1 q3 (by rw [hsl]; exact k2_hasslot (q4 j hj)) rfl rfl hdg fun H' e1 e2 e3 => ?_
  rw [hsl] at e1 ⊢
  exact kk H' _ (Z.put he ⟨_, hc, t_OB.to (V := updV (vp_V fs) j v) ⟨_, e1, q2, q3, t_set q4 hap hj v⟩ (fun i _ => vp_updV_set hl v i)⟩ e2 e3)
theorem zw_putF (hexec : p.tables.exec = Jvm.exec) (hb : c.code = cc) {own ref C : String} {T : u_T} {N ci index : Nat} {Ts : List Cond} (hts : ∀ w ∈ Ts, w.before args s = true) (hin : ∀ w ∈ u_ws C T N, w ∈ Ts) (hown : s.vm.findClass own = some m.cls) (ty0 : Nat → FieldType) (hty : ∀ k, k < N → parseFieldDescriptor (T k).2.2.1 = some (ty0 k)) (hnm : ∀ a, a < N → ∀ b, b < N → a ≠ b → (T a).2.1 ≠ (T b).2.1) (Z : zw G ad w s H locs) {k : Nat} {fs : List Value} (he : w k = some (.inr (ci, fs))) (hc : zcl[ci]? = some (C, T, N)) (j : Nat) (hj : j < N) (hlink : (Cond.fieldLink own index ref (T j).2.1 (T j).2.2.1).before args s = true) (hsame : ∀ x, s.fieldFound? (T j).1 (T j).2.1 (T j).2.2.1 = some x → s.fieldFound? ref (T j).2.1 (T j).2.2.1 = some x) (hfin : (T j).2.2.2 = true) (hin2 : meth.name = "<init>") (hdecl : (T j).1 = own) {v : Value} (hn : narrow (ty0 j) v = v) (hfit : fits (ty0 j) v = true) (hl : j < fs.length) (hdg : decode cc pc = .ok (.putfield index, 3))
    (kk : ∀ (H1 : Heap) (locs1 : List Loc), zw G ad (va_up w k (some (.inr (ci, fs.set j v)))) s H1 locs1 → W p l e R s m args below meth c H1 locs1 cells slots Q (F0 m (pc + 3) ls rest)) : W p l e R s m args below meth c H locs cells slots Q (F0 m pc ls (v :: .ref (ad k) :: rest)) := by
  have hap := va_apart (own := own) hts hin ty0 hty hnm Z.1 hc
  obtain ⟨r, h1, cell, q1, q2, q3, q4⟩ := (Z.2.1.1 k _ he).1
  have hr : r = (C, T, N) := Option.some.inj (h1.symm.trans hc)
  subst hr
  obtain ⟨hS, hfc, kC, hkC, hkind⟩ := Z.1.1 ci _ hc
  obtain ⟨cf, kf, fi, f, hi, hsl⟩ := hS j hj
  have hlay := hts _ (hin _ (u_in_lay hj))
  unfold u_lay at hlay
  rw [if_pos hfin] at hlay
  have hst := (u_facts hfc hkC (u_lays hts hin hj) hi).1
  have hcf : m.cls = cf := by
    obtain ⟨_, _, c', _, _, _, -, -, hf', -, -, -, hown2, -⟩ := Cond.laysFinal_spec hlay
    have e1 : c' = cf := by have := hi.symm.trans hf'; simp at this; exact this.1.symm
    rw [hdecl] at hown2
    rw [← e1]; exact Option.some.inj (hown.symm.trans hown2)
  have h6 := u_fits hfc hkC hkind (Or.inr hlay) hi (hty j hj) hn hfit
  refine W.putFinK hexec hb hown hlink (hsame _ hi) hst hcf hin2 (by rw [q2]; exact h6) q1 q3 (by rw [hsl]; exact k2_hasslot (q4 j hj)) rfl rfl hdg fun H' e1 e2 e3 => ?_
  rw [hsl] at e1 ⊢
  exact kk H' _ (Z.put he ⟨_, hc, t_OB.to (V := updV (vp_V fs) j v) ⟨_, e1, q2, q3, t_set q4 hap hj v⟩ (fun i _ => vp_updV_set hl v i)⟩ e2 e3)
theorem zw_iald (hexec : p.tables.exec = Jvm.exec) (hb : c.code = cc) (Z : zw G ad w s H locs) {k : Nat} {n : Nat} {f : Nat → Int32} (he : w k = some (.inl (G.2.1 0, n, .inl f))) {i : Int32} (hin : vp_in i n) (hdg : decode cc pc = .ok (.iaload, 1))
    (kk : W p l e R s m args below meth c H locs cells slots Q (F0 m (pc + 1) ls (.int (f i.toNatClampNeg) :: rest))) : W p l e R s m args below meth c H locs cells slots Q (F0 m pc ls (.int i :: .ref (ad k) :: rest)) :=
  va_iald hexec hb Z.1 (Z.one he) 0 0 rfl rfl hin hdg kk
theorem zw_cald (hexec : p.tables.exec = Jvm.exec) (hb : c.code = cc) (Z : zw G ad w s H locs) {k : Nat} {n : Nat} {f : Nat → Int32} (he : w k = some (.inl (G.2.1 1, n, .inl f))) {i : Int32} (hin : vp_in i n) (hdg : decode cc pc = .ok (.caload, 1))
    (kk : W p l e R s m args below meth c H locs cells slots Q (F0 m (pc + 1) ls (.int (f i.toNatClampNeg) :: rest))) : W p l e R s m args below meth c H locs cells slots Q (F0 m pc ls (.int i :: .ref (ad k) :: rest)) :=
  va_cald hexec hb Z.1 (Z.one he) 0 1 rfl rfl hin hdg kk
theorem zw_lald (hexec : p.tables.exec = Jvm.exec) (hb : c.code = cc) (Z : zw G ad w s H locs) {k : Nat} {n : Nat} {f : Nat → Int64} (he : w k = some (.inl (G.2.1 2, n, .inr (.inl f)))) {i : Int32} (hin : vp_in i n) (hdg : decode cc pc = .ok (.laload, 1))
    (kk : W p l e R s m args below meth c H locs cells slots Q (F0 m (pc + 1) ls (.long (f i.toNatClampNeg) :: rest))) : W p l e R s m args below meth c H locs cells slots Q (F0 m pc ls (.int i :: .ref (ad k) :: rest)) :=
  va_lald hexec hb Z.1 (Z.one he) 0 2 rfl rfl hin hdg kk
theorem zw_alen (hexec : p.tables.exec = Jvm.exec) (hb : c.code = cc) (Z : zw G ad w s H locs) {k : Nat} (t0 : Nat) {cA : ClassId} {x : vp_A} (he : w k = some (.inl (cA, x))) {ty : FieldType} (ht : (zty G.2.1)[t0]? = some (cA, ty)) {v : Int32} (hv : Int32.ofNat x.1 = v) (hdg : decode cc pc = .ok (.arraylength, 1))
    (kk : W p l e R s m args below meth c H locs cells slots Q (F0 m (pc + 1) ls (.int v :: rest))) : W p l e R s m args below meth c H locs cells slots Q (F0 m pc ls (.ref (ad k) :: rest)) :=
  va_alen hexec hb Z.1 (Z.one he) 0 t0 rfl ht hv hdg kk
theorem zw_aald (hexec : p.tables.exec = Jvm.exec) (hb : c.code = cc) (Z : zw G ad w s H locs) {k : Nat} {n : Nat} {f : Nat → Option Nat} (he : w k = some (.inl (G.2.1 3, n, .inr (.inr (.inr (.inr f)))))) {i : Int32} (hin : vp_in i n) {v : Value} (hv : va_rf (f i.toNatClampNeg) = v) (hdg : decode cc pc = .ok (.aaload, 1))
    (kk : W p l e R s m args below meth c H locs cells slots Q (F0 m (pc + 1) ls (v :: rest))) : W p l e R s m args below meth c H locs cells slots Q (F0 m pc ls (.int i :: .ref (ad k) :: rest)) := by
  subst hv
  have hlt : i.toNatClampNeg < n := Nat.not_le.mp fun q => hin (Or.inr q)
  exact W.aald (v := va_rf (f i.toNatClampNeg)) (ty := .array .int) hexec hb (Z.2.1.1 k _ he).1 ((Z.1.2 3 _ rfl).1 n (fun j => va_rf (f j))) rfl (fun q => by cases q) (by show ¬ (i < 0 ∨ (arrV _ _ _).slots.size ≤ _); rw [arrV_size]; exact hin) (by show (arrV _ _ _).slots[_]? = _; rw [arrV_read _ _ hlt]) rfl rfl hdg kk
theorem zw_iast (hexec : p.tables.exec = Jvm.exec) (hb : c.code = cc) (Z : zw G ad w s H locs) {k : Nat} {n : Nat} {f : Nat → Int32} (he : w k = some (.inl (G.2.1 0, n, .inl f))) {i : Int32} {x : Int32} (hin : vp_in i n) (hdg : decode cc pc = .ok (.iastore, 1))
    (kk : ∀ (H1 : Heap) (locs1 : List Loc), zw G ad (va_up w k (some (.inl (G.2.1 0, n, .inl (upd f i.toNatClampNeg x))))) s H1 locs1 → W p l e R s m args below meth c H1 locs1 cells slots Q (F0 m (pc + 1) ls rest)) : W p l e R s m args below meth c H locs cells slots Q (F0 m pc ls (.int x :: .int i :: .ref (ad k) :: rest)) := by
  refine W.iast hexec hb (Z.2.1.1 k _ he).1 ((Z.1.2 0 _ rfl).1 n (fun j => .int (f j))) (fun q => by cases q) (by show ¬ (i < 0 ∨ (arrV _ _ _).slots.size ≤ _); rw [arrV_size]; exact hin) rfl rfl hdg fun H1 e z oq => ?_
  refine kk H1 _ (Z.put he ?_ z oq)
  show H1[ad k]? = some (vp_cell _ _)
  rw [e]
  rw [vp_cell_i, vp_cell_i, arrV_store]
  congr 2
  funext q
  by_cases hq : q = i.toNatClampNeg
  · subst hq
    simp [updV, upd]
  · simp [updV, upd, hq]
theorem zw_cast (hexec : p.tables.exec = Jvm.exec) (hb : c.code = cc) (Z : zw G ad w s H locs) {k : Nat} {n : Nat} {f : Nat → Int32} (he : w k = some (.inl (G.2.1 1, n, .inl f))) {i : Int32} {x : Int32} (hin : vp_in i n) (hnar : narrow .char (.int x) = .int x) (hdg : decode cc pc = .ok (.castore, 1))
    (kk : ∀ (H1 : Heap) (locs1 : List Loc), zw G ad (va_up w k (some (.inl (G.2.1 1, n, .inl (upd f i.toNatClampNeg x))))) s H1 locs1 → W p l e R s m args below meth c H1 locs1 cells slots Q (F0 m (pc + 1) ls rest)) : W p l e R s m args below meth c H locs cells slots Q (F0 m pc ls (.int x :: .int i :: .ref (ad k) :: rest)) := by
  refine W.cast hexec hb (Z.2.1.1 k _ he).1 ((Z.1.2 1 _ rfl).1 n (fun j => .int (f j))) (fun q => by cases q) (by show ¬ (i < 0 ∨ (arrV _ _ _).slots.size ≤ _); rw [arrV_size]; exact hin) rfl rfl hdg fun H1 e z oq => ?_
  refine kk H1 _ (Z.put he ?_ z oq)
  show H1[ad k]? = some (vp_cell _ _)
  rw [e, hnar]
  rw [vp_cell_i, vp_cell_i, arrV_store]
  congr 2
  funext q
  by_cases hq : q = i.toNatClampNeg
  · subst hq
    simp [updV, upd]
  · simp [updV, upd, hq]
theorem zw_last (hexec : p.tables.exec = Jvm.exec) (hb : c.code = cc) (Z : zw G ad w s H locs) {k : Nat} {n : Nat} {f : Nat → Int64} (he : w k = some (.inl (G.2.1 2, n, .inr (.inl f)))) {i : Int32} {x : Int64} (hin : vp_in i n) (hdg : decode cc pc = .ok (.lastore, 1))
    (kk : ∀ (H1 : Heap) (locs1 : List Loc), zw G ad (va_up w k (some (.inl (G.2.1 2, n, .inr (.inl (vp_updL f i.toNatClampNeg x)))))) s H1 locs1 → W p l e R s m args below meth c H1 locs1 cells slots Q (F0 m (pc + 1) ls rest)) : W p l e R s m args below meth c H locs cells slots Q (F0 m pc ls (.long x :: .int i :: .ref (ad k) :: rest)) := by
  refine W.last hexec hb (Z.2.1.1 k _ he).1 ((Z.1.2 2 _ rfl).1 n (fun j => .long (f j))) (fun q => by cases q) (by show ¬ (i < 0 ∨ (arrV _ _ _).slots.size ≤ _); rw [arrV_size]; exact hin) rfl rfl hdg fun H1 e z oq => ?_
  refine kk H1 _ (Z.put he ?_ z oq)
  show H1[ad k]? = some (vp_cell _ _)
  rw [e]
  rw [vp_cell_l, vp_cell_l, arrV_store]
  congr 2
  funext q
  by_cases hq : q = i.toNatClampNeg
  · subst hq
    simp [updV, vp_updL]
  · simp [updV, vp_updL, hq]
theorem zw_new (hexec : p.tables.exec = Jvm.exec) (hb : c.code = cc) {own C : String} {T : u_T} {N ci index : Nat} {Ts : List Cond} (hts : ∀ w ∈ Ts, w.before args s = true) (hin : ∀ w ∈ u_ws C T N, w ∈ Ts) (ty : Nat → FieldType) (hty : ∀ k, k < N → parseFieldDescriptor (T k).2.2.1 = some (ty k)) (hown : s.vm.findClass own = some m.cls) (hcl : (Cond.classLink own index C).before args s = true) (hinst : (Cond.instantiable C N).before args s = true) (hini : (Cond.initialized C).before args s = true)
    (Z : zw G ad w s H locs) (k : Nat) (hk : w k = none) (hc : zcl[ci]? = some (C, T, N)) {fs : List Value} (hfs : ∀ j, j < N → defaultValue (ty j) = vp_V fs j) (hcells : cells + 1 ≤ R.cells) (hslots : slots + N ≤ R.slots) (hdg : decode cc pc = .ok (.new index, 3))
    (kk : ∀ (ad1 : Nat → Nat) (H1 : Heap), (∀ j, j ≠ k → ad1 j = ad j) → zw G ad1 (va_up w k (some (.inr (ci, fs)))) s H1 locs → W p l e R s m args below meth c H1 locs (cells + 1) (slots + N) Q (F0 m (pc + 3) ls (.ref (ad1 k) :: rest))) : W p l e R s m args below meth c H locs cells slots Q (F0 m pc ls rest) := by
  have hKn := Z.1.1 ci _ hc
  refine W.newcK hexec hb hown hcl hinst hini rfl hdg hcells hslots hKn.2.1 rfl fun H1 kC hkC e1 z1 o1 => ?_
  have h := kk (va_up ad k H.size) H1 (fun j hj => va_up_ne _ _ hj) (Z.grow k hk ⟨_, hc, (u_born ty hts hin hKn hkC e1 hty).to hfs⟩ z1 o1)
  rw [va_up_self] at h
  exact h
theorem zw_newa (hexec : p.tables.exec = Jvm.exec) (hb : c.code = cc) {atype : ArrayType} (harr : (Cond.arrayClass (newarray.typeOf atype)).before args s = true) {ty : FieldType} (hty : newarray.typeOf atype = ty) (Z : zw G ad w s H locs) (k : Nat) (hk : w k = none) (t0 : Nat) {cA : ClassId} (ht : (zty G.2.1)[t0]? = some (cA, ty))
    {n : Int32} {N' : Nat} {a0 : vp_A} (ha : vp_cell cA a0 = arrV cA N' (fun _ => defaultValue ty)) (hn : ¬ n < 0) (hN : n.toNatClampNeg = N') (hbytes : N' * componentBytes ty ≤ 536870912) (hcells : cells + 1 ≤ R.cells) (hslots : slots + N' ≤ R.slots) (hdg : decode cc pc = .ok (.newarray atype, 2))
    (kk : ∀ (ad1 : Nat → Nat) (H1 : Heap), (∀ j, j ≠ k → ad1 j = ad j) → zw G ad1 (va_up w k (some (.inl (cA, a0)))) s H1 locs → W p l e R s m args below meth c H1 locs (cells + 1) (slots + N') Q (F0 m (pc + 2) ls (.ref (ad1 k) :: rest))) : W p l e R s m args below meth c H locs cells slots Q (F0 m pc ls (.int n :: rest)) := by
  subst hty
  refine va_newaK hexec hb harr rfl hdg rfl hn hN hbytes hcells hslots rfl fun H1 cB e1 z1 o1 hAr hNm => ?_
  have hcc : cA = cB := by
    have h1 := (Z.1.2 t0 _ ht).2
    have h2 : s.vm.findClass ("[" ++ (newarray.typeOf atype).toString) = some cA := by cases atype <;> exact h1
    exact Option.some.inj (h2.symm.trans hNm)
  subst hcc
  have h := kk (va_up ad k H.size) H1 (fun j hj => va_up_ne _ _ hj) (Z.grow k hk (by show H1[H.size]? = some (vp_cell _ _); rw [ha]; exact e1) z1 o1)
  rw [va_up_self] at h
  exact h
end ZWB
section ZWC
variable {p : Program} {l : Launch} {e : Env} {R : Room} {s : State} {m : MethodId} {args : Array Value} {below : List Frame} {meth : Method} {c : Code} {H : Heap} {locs : List Loc} {cells slots : Nat} {Q : State → Prop}
variable {pc : Nat} {ls : Array Slot} {rest st0 : List Value} {a : Array Value} {mc ms : Nat} {G : zG} {ad : Nat → Nat} {w : Nat → Option va_E}
theorem zw_calli {S : Type} {post : Int32 → S → Prop} {fa : S → Nat → Nat} {fw : S → Nat → Option va_E} (hr : va_Run p l e R s m args below meth c H locs cells slots mc ms (F0 m pc ls st0) rest (va_Qi post (fun u t => zw_U G (fa u) (fw u) t) (zA G) a) (zA G)) (Z : zw G ad w s H locs)
    (kk : ∀ (r : Int32) (u : S) (H1 : Heap) (locs1 : List Loc), post r u → zw G (fa u) (fw u) s H1 locs1 → W p l e R s m args below meth c H1 locs1 (cells + mc) (slots + ms) Q (F0 m (pc + 3) ls (.int r :: rest))) : W p l e R s m args below meth c H locs cells slots Q (F0 m pc ls st0) := by
  refine va_calli hr Z.2.2.1 (fun _ _ h => h) (fun _ h => h) (fun r u t H1 locs1 ht hvm hp hB hz hk hS => ?_)
  exact kk r u H1 locs1 hp ⟨Z.1, by rw [← ht]; exact hB.2.1, hS, Z.2.2.2⟩
theorem zw_calll {S : Type} {post : Int64 → S → Prop} {fa : S → Nat → Nat} {fw : S → Nat → Option va_E} (hr : va_Run p l e R s m args below meth c H locs cells slots mc ms (F0 m pc ls st0) rest (va_Ql post (fun u t => zw_U G (fa u) (fw u) t) (zA G) a) (zA G)) (Z : zw G ad w s H locs)
    (kk : ∀ (r : Int64) (u : S) (H1 : Heap) (locs1 : List Loc), post r u → zw G (fa u) (fw u) s H1 locs1 → W p l e R s m args below meth c H1 locs1 (cells + mc) (slots + ms) Q (F0 m (pc + 3) ls (.long r :: rest))) : W p l e R s m args below meth c H locs cells slots Q (F0 m pc ls st0) := by
  refine va_calll hr Z.2.2.1 (fun _ _ h => h) (fun _ h => h) (fun r u t H1 locs1 ht hvm hp hB hz hk hS => ?_)
  exact kk r u H1 locs1 hp ⟨Z.1, by rw [← ht]; exact hB.2.1, hS, Z.2.2.2⟩
theorem zw_callv {S : Type} {post : S → Prop} {fa : S → Nat → Nat} {fw : S → Nat → Option va_E} (hr : va_Run p l e R s m args below meth c H locs cells slots mc ms (F0 m pc ls st0) rest (va_Qv post (fun u t => zw_U G (fa u) (fw u) t) (zA G) a) (zA G)) (Z : zw G ad w s H locs)
    (kk : ∀ (u : S) (H1 : Heap) (locs1 : List Loc), post u → zw G (fa u) (fw u) s H1 locs1 → W p l e R s m args below meth c H1 locs1 (cells + mc) (slots + ms) Q (F0 m (pc + 3) ls rest)) : W p l e R s m args below meth c H locs cells slots Q (F0 m pc ls st0) := by
  refine va_callv hr Z.2.2.1 (fun _ _ h => h) (fun _ h => h) (fun u t H1 locs1 ht hvm hp hB hz hk hS => ?_)
  exact kk u H1 locs1 hp ⟨Z.1, by rw [← ht]; exact hB.2.1, hS, Z.2.2.2⟩
end ZWC
section ZWM
variable {l : Launch} {G : zG}
/-- the fixed facts of a method's walk -/
def zC (p : Program) (s : State) (m : MethodId) (args : Array Value) (meth : Method) (c : Code) (cc : ByteArray) (maxL : Nat) (own : String) (ws : List Cond) : Prop :=
  p.tables.exec = Jvm.exec ∧ c.code = cc ∧ c.maxLocals = maxL ∧ s.vm.findClass own = some m.cls ∧ (∀ w ∈ ws, w.before args s = true) ∧ meth.locks = false
theorem zw_methi {y : MethodName} {ws ws' : List Cond} {rm : Room} {cc : ByteArray} {maxL : Nat} {av : List Value} {ad : Nat → Nat} {w : Nat → Option va_E} {mc ms : Nat} {S : Type} {post : Int32 → S → Prop} {fa : S → Nat → Nat} {fw : S → Nat → Option va_E}
    (hy : plainName y.cls = true) (hw : ws = Cond.code y cc maxL (some .int) :: ws') (hav : (lg_sl av).length ≤ maxL)
    (body : ∀ (p : Program) (e : Env) (s : State) (m : MethodId) (below : List Frame) (meth : Method) (c : Code) (Q : State → Prop) (ls : Array Slot), zC p s m av.toArray meth c cc maxL y.cls ws → meth.name = y.name → zw G ad w s s.heap [] → lv_has ls maxL (lv_args 0 av) →
      (∀ (pc : Nat) (ls : Array Slot) (r : Int32) (u : S) (H : Heap) (locs : List Loc), decode cc pc = .ok (.ireturn, 1) → post r u → zw G (fa u) (fw u) s H locs → W p l e rm s m av.toArray below meth c H locs mc ms Q (F0 m pc ls [.int r])) →
      W p l e rm s m av.toArray below meth c s.heap [] 0 0 Q (F0 m 0 ls [])) :
    Met l y ws rm (va_Pc av (zw_U G ad w)) (va_Qi post (fun u t => zw_U G (fa u) (fw u) t) (zA G)) mc ms (zA G) := by
  refine Met.ofW (cc := cc) (maxL := maxL) (ret := some .int) hy hw ?_
  intro p e s m args below meth c s₁ B hml hv
  obtain ⟨rfl, hU⟩ := hv
  have hl := lv_entry av (n := maxL) hav
  rw [lg_entry_eq]
  refine body p e s m below meth c _ _ ⟨B.exec, B.bytes, hml, findClass_of_methodNamed B.named, atoms_spec (ws := ws) B.pre, B.notSynchronized⟩ (name_of_methodNamed B.named B.method).1 hU.enter hl ?_
  intro pc ls r u H locs hd hp Z
  exact W.iret B.exec B.bytes B.returns (fun t ht hW => ⟨⟨r, u, rfl, hp, Z.at' ht hW⟩, Z.F ht⟩) Z.fr hd B.notSynchronized
theorem zw_methz {y : MethodName} {ws ws' : List Cond} {rm : Room} {cc : ByteArray} {maxL : Nat} {av : List Value} {ad : Nat → Nat} {w : Nat → Option va_E} {mc ms : Nat} {S : Type} {post : Int32 → S → Prop} {fa : S → Nat → Nat} {fw : S → Nat → Option va_E}
    (hy : plainName y.cls = true) (hw : ws = Cond.code y cc maxL (some .boolean) :: ws') (hav : (lg_sl av).length ≤ maxL) (hbit : ∀ r u, post r u → narrow .boolean (.int r) = .int r)
    (body : ∀ (p : Program) (e : Env) (s : State) (m : MethodId) (below : List Frame) (meth : Method) (c : Code) (Q : State → Prop) (ls : Array Slot), zC p s m av.toArray meth c cc maxL y.cls ws → meth.name = y.name → zw G ad w s s.heap [] → lv_has ls maxL (lv_args 0 av) →
      (∀ (pc : Nat) (ls : Array Slot) (r : Int32) (u : S) (H : Heap) (locs : List Loc), decode cc pc = .ok (.ireturn, 1) → post r u → zw G (fa u) (fw u) s H locs → W p l e rm s m av.toArray below meth c H locs mc ms Q (F0 m pc ls [.int r])) →
      W p l e rm s m av.toArray below meth c s.heap [] 0 0 Q (F0 m 0 ls [])) :
    Met l y ws rm (va_Pc av (zw_U G ad w)) (va_Qi post (fun u t => zw_U G (fa u) (fw u) t) (zA G)) mc ms (zA G) := by
  refine Met.ofW (cc := cc) (maxL := maxL) (ret := some .boolean) hy hw ?_
  intro p e s m args below meth c s₁ B hml hv
  obtain ⟨rfl, hU⟩ := hv
  have hl := lv_entry av (n := maxL) hav
  rw [lg_entry_eq]
  refine body p e s m below meth c _ _ ⟨B.exec, B.bytes, hml, findClass_of_methodNamed B.named, atoms_spec (ws := ws) B.pre, B.notSynchronized⟩ (name_of_methodNamed B.named B.method).1 hU.enter hl ?_
  intro pc ls r u H locs hd hp Z
  exact W.zret B.exec B.bytes B.returns (hbit r u hp) (fun t ht hW => ⟨⟨r, u, rfl, hp, Z.at' ht hW⟩, Z.F ht⟩) Z.fr hd B.notSynchronized
theorem zw_methc {y : MethodName} {ws ws' : List Cond} {rm : Room} {cc : ByteArray} {maxL : Nat} {av : List Value} {ad : Nat → Nat} {w : Nat → Option va_E} {mc ms : Nat} {S : Type} {post : Int32 → S → Prop} {fa : S → Nat → Nat} {fw : S → Nat → Option va_E}
    (hy : plainName y.cls = true) (hw : ws = Cond.code y cc maxL (some .char) :: ws') (hav : (lg_sl av).length ≤ maxL) (hbit : ∀ r u, post r u → narrow .char (.int r) = .int r)
    (body : ∀ (p : Program) (e : Env) (s : State) (m : MethodId) (below : List Frame) (meth : Method) (c : Code) (Q : State → Prop) (ls : Array Slot), zC p s m av.toArray meth c cc maxL y.cls ws → meth.name = y.name → zw G ad w s s.heap [] → lv_has ls maxL (lv_args 0 av) →
      (∀ (pc : Nat) (ls : Array Slot) (r : Int32) (u : S) (H : Heap) (locs : List Loc), decode cc pc = .ok (.ireturn, 1) → post r u → zw G (fa u) (fw u) s H locs → W p l e rm s m av.toArray below meth c H locs mc ms Q (F0 m pc ls [.int r])) →
      W p l e rm s m av.toArray below meth c s.heap [] 0 0 Q (F0 m 0 ls [])) :
    Met l y ws rm (va_Pc av (zw_U G ad w)) (va_Qi post (fun u t => zw_U G (fa u) (fw u) t) (zA G)) mc ms (zA G) := by
  refine Met.ofW (cc := cc) (maxL := maxL) (ret := some .char) hy hw ?_
  intro p e s m args below meth c s₁ B hml hv
  obtain ⟨rfl, hU⟩ := hv
  have hl := lv_entry av (n := maxL) hav
  rw [lg_entry_eq]
  refine body p e s m below meth c _ _ ⟨B.exec, B.bytes, hml, findClass_of_methodNamed B.named, atoms_spec (ws := ws) B.pre, B.notSynchronized⟩ (name_of_methodNamed B.named B.method).1 hU.enter hl ?_
  intro pc ls r u H locs hd hp Z
  exact W.zret B.exec B.bytes B.returns (hbit r u hp) (fun t ht hW => ⟨⟨r, u, rfl, hp, Z.at' ht hW⟩, Z.F ht⟩) Z.fr hd B.notSynchronized
theorem zw_methv {y : MethodName} {ws ws' : List Cond} {rm : Room} {cc : ByteArray} {maxL : Nat} {av : List Value} {ad : Nat → Nat} {w : Nat → Option va_E} {mc ms : Nat} {S : Type} {post : S → Prop} {fa : S → Nat → Nat} {fw : S → Nat → Option va_E}
    (hy : plainName y.cls = true) (hw : ws = Cond.code y cc maxL (none) :: ws') (hav : (lg_sl av).length ≤ maxL)
    (body : ∀ (p : Program) (e : Env) (s : State) (m : MethodId) (below : List Frame) (meth : Method) (c : Code) (Q : State → Prop) (ls : Array Slot), zC p s m av.toArray meth c cc maxL y.cls ws → meth.name = y.name → zw G ad w s s.heap [] → lv_has ls maxL (lv_args 0 av) →
      (∀ (pc : Nat) (ls : Array Slot) (u : S) (H : Heap) (locs : List Loc), decode cc pc = .ok (.return_, 1) → post u → zw G (fa u) (fw u) s H locs → W p l e rm s m av.toArray below meth c H locs mc ms Q (F0 m pc ls [])) →
      W p l e rm s m av.toArray below meth c s.heap [] 0 0 Q (F0 m 0 ls [])) :
    Met l y ws rm (va_Pc av (zw_U G ad w)) (va_Qv post (fun u t => zw_U G (fa u) (fw u) t) (zA G)) mc ms (zA G) := by
  refine Met.ofW (cc := cc) (maxL := maxL) (ret := none) hy hw ?_
  intro p e s m args below meth c s₁ B hml hv
  obtain ⟨rfl, hU⟩ := hv
  have hl := lv_entry av (n := maxL) hav
  rw [lg_entry_eq]
  refine body p e s m below meth c _ _ ⟨B.exec, B.bytes, hml, findClass_of_methodNamed B.named, atoms_spec (ws := ws) B.pre, B.notSynchronized⟩ (name_of_methodNamed B.named B.method).1 hU.enter hl ?_
  intro pc ls u H locs hd hp Z
  exact W.vret B.exec B.bytes B.returns (fun t ht hW => ⟨⟨u, rfl, hp, Z.at' ht hW⟩, Z.F ht⟩) Z.fr hd B.notSynchronized
end ZWM
section ZWT
variable {p : Program} {l : Launch} {e : Env} {R : Room} {s : State} {m : MethodId} {args : Array Value} {below : List Frame} {meth : Method} {c : Code} {H : Heap} {locs : List Loc} {cells slots : Nat} {Q : State → Prop} {pc : Nat} {ls : Array Slot} {rest : List Value}
theorem zw_top {x : Int32} (y : Int32) (h : x = y) (k : W p l e R s m args below meth c H locs cells slots Q (F0 m pc ls (.int y :: rest))) : W p l e R s m args below meth c H locs cells slots Q (F0 m pc ls (.int x :: rest)) := by rw [h]; exact k
theorem zw_topl {x : Int64} (y : Int64) (h : x = y) (k : W p l e R s m args below meth c H locs cells slots Q (F0 m pc ls (.long y :: rest))) : W p l e R s m args below meth c H locs cells slots Q (F0 m pc ls (.long x :: rest)) := by rw [h]; exact k
theorem zw_topv {x : Value} (y : Value) (h : x = y) (k : W p l e R s m args below meth c H locs cells slots Q (F0 m pc ls (y :: rest))) : W p l e R s m args below meth c H locs cells slots Q (F0 m pc ls (x :: rest)) := by rw [h]; exact k
end ZWT
end
