section
-- ===== PART A: goes FIRST, ahead of the names: the tables' words, and 'selects' of the private methods out of them =====
/-- a private method of a class that the tables say can be made, by its rows of tables_1 -/
def lw_okq (q : MethodName × Nat) : Prop := (q.1.cls ≠ "java/lang/invoke/MethodHandle" ∧ q.1.cls ≠ "java/lang/invoke/VarHandle") ∧ Cond.instantiable q.1.cls q.2 ∈ tables_1 ∧ Cond.privateMethod q.1 ∈ tables_1 ∧ Cond.instanceMethod q.1 ∈ tables_1
theorem lw_p0 : lw_okq (⟨"WolfsHead$Folk", "settle", "(I)V"⟩, 3) := ⟨⟨by decide +kernel, by decide +kernel⟩, List.mem_of_getElem? (i := 55) (by decide +kernel), List.mem_of_getElem? (i := 410) (by decide +kernel), List.mem_of_getElem? (i := 411) (by decide +kernel)⟩
theorem lw_p1 : lw_okq (⟨"WolfsHead$Tape", "byteAt", "(I)I"⟩, 6) := ⟨⟨by decide +kernel, by decide +kernel⟩, List.mem_of_getElem? (i := 168) (by decide +kernel), List.mem_of_getElem? (i := 454) (by decide +kernel), List.mem_of_getElem? (i := 455) (by decide +kernel)⟩
theorem lw_p2 : lw_okq (⟨"WolfsHead$Tape", "cutToken", "(I)I"⟩, 6) := ⟨⟨by decide +kernel, by decide +kernel⟩, List.mem_of_getElem? (i := 168) (by decide +kernel), List.mem_of_getElem? (i := 461) (by decide +kernel), List.mem_of_getElem? (i := 462) (by decide +kernel)⟩
theorem lw_p3 : lw_okq (⟨"WolfsHead$Tape", "wordOf", "(II)I"⟩, 6) := ⟨⟨by decide +kernel, by decide +kernel⟩, List.mem_of_getElem? (i := 168) (by decide +kernel), List.mem_of_getElem? (i := 468) (by decide +kernel), List.mem_of_getElem? (i := 469) (by decide +kernel)⟩
theorem lw_p4 : lw_okq (⟨"WolfsHead$Tape", "spells", "(III)Z"⟩, 6) := ⟨⟨by decide +kernel, by decide +kernel⟩, List.mem_of_getElem? (i := 168) (by decide +kernel), List.mem_of_getElem? (i := 521) (by decide +kernel), List.mem_of_getElem? (i := 522) (by decide +kernel)⟩
theorem lw_p5 : lw_okq (⟨"WolfsHead$Tape", "put", "(III)V"⟩, 6) := ⟨⟨by decide +kernel, by decide +kernel⟩, List.mem_of_getElem? (i := 168) (by decide +kernel), List.mem_of_getElem? (i := 525) (by decide +kernel), List.mem_of_getElem? (i := 526) (by decide +kernel)⟩
theorem lw_p6 : lw_okq (⟨"WolfsHead$Tape", "signAt", "(I)I"⟩, 6) := ⟨⟨by decide +kernel, by decide +kernel⟩, List.mem_of_getElem? (i := 168) (by decide +kernel), List.mem_of_getElem? (i := 535) (by decide +kernel), List.mem_of_getElem? (i := 536) (by decide +kernel)⟩
theorem lw_p7 : lw_okq (⟨"WolfsHead$Reader", "token", "()I"⟩, 6) := ⟨⟨by decide +kernel, by decide +kernel⟩, List.mem_of_getElem? (i := 196) (by decide +kernel), List.mem_of_getElem? (i := 539) (by decide +kernel), List.mem_of_getElem? (i := 540) (by decide +kernel)⟩
theorem lw_p8 : lw_okq (⟨"WolfsHead$Reader", "clause", "(I)Z"⟩, 6) := ⟨⟨by decide +kernel, by decide +kernel⟩, List.mem_of_getElem? (i := 196) (by decide +kernel), List.mem_of_getElem? (i := 547) (by decide +kernel), List.mem_of_getElem? (i := 548) (by decide +kernel)⟩
theorem lw_p9 : lw_okq (⟨"WolfsHead$Reader", "fail", "(I)Z"⟩, 6) := ⟨⟨by decide +kernel, by decide +kernel⟩, List.mem_of_getElem? (i := 196) (by decide +kernel), List.mem_of_getElem? (i := 551) (by decide +kernel), List.mem_of_getElem? (i := 552) (by decide +kernel)⟩
theorem lw_p10 : lw_okq (⟨"WolfsHead$Reader", "next", "()V"⟩, 6) := ⟨⟨by decide +kernel, by decide +kernel⟩, List.mem_of_getElem? (i := 196) (by decide +kernel), List.mem_of_getElem? (i := 571) (by decide +kernel), List.mem_of_getElem? (i := 572) (by decide +kernel)⟩
theorem lw_p11 : lw_okq (⟨"WolfsHead$Reader", "lawOf", "(I)Z"⟩, 6) := ⟨⟨by decide +kernel, by decide +kernel⟩, List.mem_of_getElem? (i := 196) (by decide +kernel), List.mem_of_getElem? (i := 575) (by decide +kernel), List.mem_of_getElem? (i := 576) (by decide +kernel)⟩
theorem lw_p12 : lw_okq (⟨"WolfsHead$Reader", "sum", "(I)Z"⟩, 6) := ⟨⟨by decide +kernel, by decide +kernel⟩, List.mem_of_getElem? (i := 196) (by decide +kernel), List.mem_of_getElem? (i := 579) (by decide +kernel), List.mem_of_getElem? (i := 580) (by decide +kernel)⟩
theorem lw_p13 : lw_okq (⟨"WolfsHead$Reader", "product", "(I)Z"⟩, 6) := ⟨⟨by decide +kernel, by decide +kernel⟩, List.mem_of_getElem? (i := 196) (by decide +kernel), List.mem_of_getElem? (i := 583) (by decide +kernel), List.mem_of_getElem? (i := 584) (by decide +kernel)⟩
theorem lw_p14 : lw_okq (⟨"WolfsHead$Reader", "one", "(I)Z"⟩, 6) := ⟨⟨by decide +kernel, by decide +kernel⟩, List.mem_of_getElem? (i := 196) (by decide +kernel), List.mem_of_getElem? (i := 587) (by decide +kernel), List.mem_of_getElem? (i := 588) (by decide +kernel)⟩
theorem lw_p15 : lw_okq (⟨"WolfsHead$Reader", "leaf", "(I)Z"⟩, 6) := ⟨⟨by decide +kernel, by decide +kernel⟩, List.mem_of_getElem? (i := 196) (by decide +kernel), List.mem_of_getElem? (i := 591) (by decide +kernel), List.mem_of_getElem? (i := 592) (by decide +kernel)⟩
def lw_privs_1 : List (MethodName × Nat) := [(⟨"WolfsHead$Folk", "settle", "(I)V"⟩, 3), (⟨"WolfsHead$Tape", "byteAt", "(I)I"⟩, 6), (⟨"WolfsHead$Tape", "cutToken", "(I)I"⟩, 6), (⟨"WolfsHead$Tape", "wordOf", "(II)I"⟩, 6), (⟨"WolfsHead$Tape", "spells", "(III)Z"⟩, 6), (⟨"WolfsHead$Tape", "put", "(III)V"⟩, 6), (⟨"WolfsHead$Tape", "signAt", "(I)I"⟩, 6), (⟨"WolfsHead$Reader", "token", "()I"⟩, 6), (⟨"WolfsHead$Reader", "clause", "(I)Z"⟩, 6), (⟨"WolfsHead$Reader", "fail", "(I)Z"⟩, 6), (⟨"WolfsHead$Reader", "next", "()V"⟩, 6), (⟨"WolfsHead$Reader", "lawOf", "(I)Z"⟩, 6), (⟨"WolfsHead$Reader", "sum", "(I)Z"⟩, 6), (⟨"WolfsHead$Reader", "product", "(I)Z"⟩, 6), (⟨"WolfsHead$Reader", "one", "(I)Z"⟩, 6), (⟨"WolfsHead$Reader", "leaf", "(I)Z"⟩, 6)]
theorem lw_r1 : ∀ q ∈ lw_privs_1, lw_okq q := List.forall_mem_cons.mpr ⟨lw_p0, List.forall_mem_cons.mpr ⟨lw_p1, List.forall_mem_cons.mpr ⟨lw_p2, List.forall_mem_cons.mpr ⟨lw_p3, List.forall_mem_cons.mpr ⟨lw_p4, List.forall_mem_cons.mpr ⟨lw_p5, List.forall_mem_cons.mpr ⟨lw_p6, List.forall_mem_cons.mpr ⟨lw_p7, List.forall_mem_cons.mpr ⟨lw_p8, List.forall_mem_cons.mpr ⟨lw_p9, List.forall_mem_cons.mpr ⟨lw_p10, List.forall_mem_cons.mpr ⟨lw_p11, List.forall_mem_cons.mpr ⟨lw_p12, List.forall_mem_cons.mpr ⟨lw_p13, List.forall_mem_cons.mpr ⟨lw_p14, List.forall_mem_cons.mpr ⟨lw_p15, fun _ h => absurd h List.not_mem_nil⟩⟩⟩⟩⟩⟩⟩⟩⟩⟩⟩⟩⟩⟩⟩⟩
theorem lw_p16 : lw_okq (⟨"WolfsHead$Reader", "expect", "(I)Z"⟩, 6) := ⟨⟨by decide +kernel, by decide +kernel⟩, List.mem_of_getElem? (i := 196) (by decide +kernel), List.mem_of_getElem? (i := 605) (by decide +kernel), List.mem_of_getElem? (i := 606) (by decide +kernel)⟩
theorem lw_p17 : lw_okq (⟨"WolfsHead$Reader", "choice", "(I)Z"⟩, 6) := ⟨⟨by decide +kernel, by decide +kernel⟩, List.mem_of_getElem? (i := 196) (by decide +kernel), List.mem_of_getElem? (i := 609) (by decide +kernel), List.mem_of_getElem? (i := 610) (by decide +kernel)⟩
theorem lw_p18 : lw_okq (⟨"WolfsHead$Reader", "either", "(I)Z"⟩, 6) := ⟨⟨by decide +kernel, by decide +kernel⟩, List.mem_of_getElem? (i := 196) (by decide +kernel), List.mem_of_getElem? (i := 613) (by decide +kernel), List.mem_of_getElem? (i := 614) (by decide +kernel)⟩
theorem lw_p19 : lw_okq (⟨"WolfsHead$Reader", "both", "(I)Z"⟩, 6) := ⟨⟨by decide +kernel, by decide +kernel⟩, List.mem_of_getElem? (i := 196) (by decide +kernel), List.mem_of_getElem? (i := 617) (by decide +kernel), List.mem_of_getElem? (i := 618) (by decide +kernel)⟩
theorem lw_p20 : lw_okq (⟨"WolfsHead$Reader", "ask", "(I)Z"⟩, 6) := ⟨⟨by decide +kernel, by decide +kernel⟩, List.mem_of_getElem? (i := 196) (by decide +kernel), List.mem_of_getElem? (i := 621) (by decide +kernel), List.mem_of_getElem? (i := 622) (by decide +kernel)⟩
theorem lw_p21 : lw_okq (⟨"WolfsHead$Reader", "deedOf", "(I)Z"⟩, 6) := ⟨⟨by decide +kernel, by decide +kernel⟩, List.mem_of_getElem? (i := 196) (by decide +kernel), List.mem_of_getElem? (i := 638) (by decide +kernel), List.mem_of_getElem? (i := 639) (by decide +kernel)⟩
theorem lw_p22 : lw_okq (⟨"WolfsHead$Reader", "number", "(II)Z"⟩, 6) := ⟨⟨by decide +kernel, by decide +kernel⟩, List.mem_of_getElem? (i := 196) (by decide +kernel), List.mem_of_getElem? (i := 642) (by decide +kernel), List.mem_of_getElem? (i := 643) (by decide +kernel)⟩
theorem lw_p23 : lw_okq (⟨"WolfsHead", "textTold", "(I)Z"⟩, 14) := ⟨⟨by decide +kernel, by decide +kernel⟩, List.mem_of_getElem? (i := 22) (by decide +kernel), List.mem_of_getElem? (i := 655) (by decide +kernel), List.mem_of_getElem? (i := 656) (by decide +kernel)⟩
theorem lw_p24 : lw_okq (⟨"WolfsHead$Deeds", "alive", "(I)Z"⟩, 3) := ⟨⟨by decide +kernel, by decide +kernel⟩, List.mem_of_getElem? (i := 242) (by decide +kernel), List.mem_of_getElem? (i := 678) (by decide +kernel), List.mem_of_getElem? (i := 679) (by decide +kernel)⟩
theorem lw_p25 : lw_okq (⟨"WolfsHead$Deeds", "outlaw", "(I)Z"⟩, 3) := ⟨⟨by decide +kernel, by decide +kernel⟩, List.mem_of_getElem? (i := 242) (by decide +kernel), List.mem_of_getElem? (i := 687) (by decide +kernel), List.mem_of_getElem? (i := 688) (by decide +kernel)⟩
theorem lw_p26 : lw_okq (⟨"WolfsHead$Deeds", "castOut", "(I)V"⟩, 3) := ⟨⟨by decide +kernel, by decide +kernel⟩, List.mem_of_getElem? (i := 242) (by decide +kernel), List.mem_of_getElem? (i := 697) (by decide +kernel), List.mem_of_getElem? (i := 698) (by decide +kernel)⟩
theorem lw_p27 : lw_okq (⟨"WolfsHead$Deeds", "meets", "(II)Z"⟩, 3) := ⟨⟨by decide +kernel, by decide +kernel⟩, List.mem_of_getElem? (i := 242) (by decide +kernel), List.mem_of_getElem? (i := 723) (by decide +kernel), List.mem_of_getElem? (i := 724) (by decide +kernel)⟩
theorem lw_p28 : lw_okq (⟨"WolfsHead$Laws", "fillNames", "(LWolfsHead$Folk;II)V"⟩, 4) := ⟨⟨by decide +kernel, by decide +kernel⟩, List.mem_of_getElem? (i := 223) (by decide +kernel), List.mem_of_getElem? (i := 734) (by decide +kernel), List.mem_of_getElem? (i := 735) (by decide +kernel)⟩
theorem lw_p29 : lw_okq (⟨"WolfsHead$Laws", "without", "(ILWolfsHead$Folk;II)I"⟩, 4) := ⟨⟨by decide +kernel, by decide +kernel⟩, List.mem_of_getElem? (i := 223) (by decide +kernel), List.mem_of_getElem? (i := 791) (by decide +kernel), List.mem_of_getElem? (i := 792) (by decide +kernel)⟩
theorem lw_p30 : lw_okq (⟨"WolfsHead$Deeds", "setFree", "(I)V"⟩, 3) := ⟨⟨by decide +kernel, by decide +kernel⟩, List.mem_of_getElem? (i := 242) (by decide +kernel), List.mem_of_getElem? (i := 814) (by decide +kernel), List.mem_of_getElem? (i := 815) (by decide +kernel)⟩
theorem lw_p31 : lw_okq (⟨"WolfsHead$Deeds", "hide", "(I)Z"⟩, 3) := ⟨⟨by decide +kernel, by decide +kernel⟩, List.mem_of_getElem? (i := 242) (by decide +kernel), List.mem_of_getElem? (i := 841) (by decide +kernel), List.mem_of_getElem? (i := 842) (by decide +kernel)⟩
def lw_privs_2 : List (MethodName × Nat) := [(⟨"WolfsHead$Reader", "expect", "(I)Z"⟩, 6), (⟨"WolfsHead$Reader", "choice", "(I)Z"⟩, 6), (⟨"WolfsHead$Reader", "either", "(I)Z"⟩, 6), (⟨"WolfsHead$Reader", "both", "(I)Z"⟩, 6), (⟨"WolfsHead$Reader", "ask", "(I)Z"⟩, 6), (⟨"WolfsHead$Reader", "deedOf", "(I)Z"⟩, 6), (⟨"WolfsHead$Reader", "number", "(II)Z"⟩, 6), (⟨"WolfsHead", "textTold", "(I)Z"⟩, 14), (⟨"WolfsHead$Deeds", "alive", "(I)Z"⟩, 3), (⟨"WolfsHead$Deeds", "outlaw", "(I)Z"⟩, 3), (⟨"WolfsHead$Deeds", "castOut", "(I)V"⟩, 3), (⟨"WolfsHead$Deeds", "meets", "(II)Z"⟩, 3), (⟨"WolfsHead$Laws", "fillNames", "(LWolfsHead$Folk;II)V"⟩, 4), (⟨"WolfsHead$Laws", "without", "(ILWolfsHead$Folk;II)I"⟩, 4), (⟨"WolfsHead$Deeds", "setFree", "(I)V"⟩, 3), (⟨"WolfsHead$Deeds", "hide", "(I)Z"⟩, 3)]
theorem lw_r2 : ∀ q ∈ lw_privs_2, lw_okq q := List.forall_mem_cons.mpr ⟨lw_p16, List.forall_mem_cons.mpr ⟨lw_p17, List.forall_mem_cons.mpr ⟨lw_p18, List.forall_mem_cons.mpr ⟨lw_p19, List.forall_mem_cons.mpr ⟨lw_p20, List.forall_mem_cons.mpr ⟨lw_p21, List.forall_mem_cons.mpr ⟨lw_p22, List.forall_mem_cons.mpr ⟨lw_p23, List.forall_mem_cons.mpr ⟨lw_p24, List.forall_mem_cons.mpr ⟨lw_p25, List.forall_mem_cons.mpr ⟨lw_p26, List.forall_mem_cons.mpr ⟨lw_p27, List.forall_mem_cons.mpr ⟨lw_p28, List.forall_mem_cons.mpr ⟨lw_p29, List.forall_mem_cons.mpr ⟨lw_p30, List.forall_mem_cons.mpr ⟨lw_p31, fun _ h => absurd h List.not_mem_nil⟩⟩⟩⟩⟩⟩⟩⟩⟩⟩⟩⟩⟩⟩⟩⟩
theorem lw_p32 : lw_okq (⟨"WolfsHead$Deeds", "earn", "(I)V"⟩, 3) := ⟨⟨by decide +kernel, by decide +kernel⟩, List.mem_of_getElem? (i := 242) (by decide +kernel), List.mem_of_getElem? (i := 845) (by decide +kernel), List.mem_of_getElem? (i := 846) (by decide +kernel)⟩
theorem lw_p33 : lw_okq (⟨"WolfsHead", "perform", "(LWolfsHead$Text;I)Z"⟩, 14) := ⟨⟨by decide +kernel, by decide +kernel⟩, List.mem_of_getElem? (i := 22) (by decide +kernel), List.mem_of_getElem? (i := 858) (by decide +kernel), List.mem_of_getElem? (i := 859) (by decide +kernel)⟩
theorem lw_p34 : lw_okq (⟨"WolfsHead", "passAll", "(I)Z"⟩, 14) := ⟨⟨by decide +kernel, by decide +kernel⟩, List.mem_of_getElem? (i := 22) (by decide +kernel), List.mem_of_getElem? (i := 874) (by decide +kernel), List.mem_of_getElem? (i := 875) (by decide +kernel)⟩
theorem lw_p35 : lw_okq (⟨"WolfsHead", "reignOnce", "()V"⟩, 14) := ⟨⟨by decide +kernel, by decide +kernel⟩, List.mem_of_getElem? (i := 22) (by decide +kernel), List.mem_of_getElem? (i := 887) (by decide +kernel), List.mem_of_getElem? (i := 888) (by decide +kernel)⟩
theorem lw_p36 : lw_okq (⟨"WolfsHead$Folk", "entry", "(I)I"⟩, 3) := ⟨⟨by decide +kernel, by decide +kernel⟩, List.mem_of_getElem? (i := 55) (by decide +kernel), List.mem_of_getElem? (i := 944) (by decide +kernel), List.mem_of_getElem? (i := 945) (by decide +kernel)⟩
theorem lw_p37 : lw_okq (⟨"WolfsHead$Ways", "bestFrom", "(LWolfsHead$Lands;II)I"⟩, 10) := ⟨⟨by decide +kernel, by decide +kernel⟩, List.mem_of_getElem? (i := 260) (by decide +kernel), List.mem_of_getElem? (i := 978) (by decide +kernel), List.mem_of_getElem? (i := 979) (by decide +kernel)⟩
theorem lw_p38 : lw_okq (⟨"WolfsHead$Ways", "bestAfter", "(II)I"⟩, 10) := ⟨⟨by decide +kernel, by decide +kernel⟩, List.mem_of_getElem? (i := 260) (by decide +kernel), List.mem_of_getElem? (i := 983) (by decide +kernel), List.mem_of_getElem? (i := 984) (by decide +kernel)⟩
theorem lw_p39 : lw_okq (⟨"WolfsHead$Ways", "follow", "(LWolfsHead$Lands;II)V"⟩, 10) := ⟨⟨by decide +kernel, by decide +kernel⟩, List.mem_of_getElem? (i := 260) (by decide +kernel), List.mem_of_getElem? (i := 989) (by decide +kernel), List.mem_of_getElem? (i := 990) (by decide +kernel)⟩
theorem lw_p40 : lw_okq (⟨"WolfsHead$Ways", "comeTo", "(IIII)V"⟩, 10) := ⟨⟨by decide +kernel, by decide +kernel⟩, List.mem_of_getElem? (i := 260) (by decide +kernel), List.mem_of_getElem? (i := 1050) (by decide +kernel), List.mem_of_getElem? (i := 1051) (by decide +kernel)⟩
theorem lw_p41 : lw_okq (⟨"WolfsHead$Ways", "sumUp", "(I)V"⟩, 10) := ⟨⟨by decide +kernel, by decide +kernel⟩, List.mem_of_getElem? (i := 260) (by decide +kernel), List.mem_of_getElem? (i := 1054) (by decide +kernel), List.mem_of_getElem? (i := 1055) (by decide +kernel)⟩
theorem lw_p42 : lw_okq (⟨"WolfsHead$Lands", "parts", "(III)Z"⟩, 3) := ⟨⟨by decide +kernel, by decide +kernel⟩, List.mem_of_getElem? (i := 36) (by decide +kernel), List.mem_of_getElem? (i := 1077) (by decide +kernel), List.mem_of_getElem? (i := 1078) (by decide +kernel)⟩
theorem lw_p43 : lw_okq (⟨"WolfsHead$Notes", "paint", "(III)Z"⟩, 11) := ⟨⟨by decide +kernel, by decide +kernel⟩, List.mem_of_getElem? (i := 88) (by decide +kernel), List.mem_of_getElem? (i := 1118) (by decide +kernel), List.mem_of_getElem? (i := 1119) (by decide +kernel)⟩
theorem lw_p44 : lw_okq (⟨"WolfsHead$Notes", "fits", "(II)Z"⟩, 11) := ⟨⟨by decide +kernel, by decide +kernel⟩, List.mem_of_getElem? (i := 88) (by decide +kernel), List.mem_of_getElem? (i := 1122) (by decide +kernel), List.mem_of_getElem? (i := 1123) (by decide +kernel)⟩
theorem lw_p45 : lw_okq (⟨"WolfsHead$Notes", "gain", "(ZII)I"⟩, 11) := ⟨⟨by decide +kernel, by decide +kernel⟩, List.mem_of_getElem? (i := 88) (by decide +kernel), List.mem_of_getElem? (i := 1147) (by decide +kernel), List.mem_of_getElem? (i := 1148) (by decide +kernel)⟩
theorem lw_p46 : lw_okq (⟨"WolfsHead", "explains", "(I)Z"⟩, 14) := ⟨⟨by decide +kernel, by decide +kernel⟩, List.mem_of_getElem? (i := 22) (by decide +kernel), List.mem_of_getElem? (i := 1197) (by decide +kernel), List.mem_of_getElem? (i := 1198) (by decide +kernel)⟩
theorem lw_p47 : lw_okq (⟨"WolfsHeadModel", "isLand", "(I)Z"⟩, 29) := ⟨⟨by decide +kernel, by decide +kernel⟩, List.mem_of_getElem? (i := 1241) (by decide +kernel), List.mem_of_getElem? (i := 1351) (by decide +kernel), List.mem_of_getElem? (i := 1352) (by decide +kernel)⟩
def lw_privs_3 : List (MethodName × Nat) := [(⟨"WolfsHead$Deeds", "earn", "(I)V"⟩, 3), (⟨"WolfsHead", "perform", "(LWolfsHead$Text;I)Z"⟩, 14), (⟨"WolfsHead", "passAll", "(I)Z"⟩, 14), (⟨"WolfsHead", "reignOnce", "()V"⟩, 14), (⟨"WolfsHead$Folk", "entry", "(I)I"⟩, 3), (⟨"WolfsHead$Ways", "bestFrom", "(LWolfsHead$Lands;II)I"⟩, 10), (⟨"WolfsHead$Ways", "bestAfter", "(II)I"⟩, 10), (⟨"WolfsHead$Ways", "follow", "(LWolfsHead$Lands;II)V"⟩, 10), (⟨"WolfsHead$Ways", "comeTo", "(IIII)V"⟩, 10), (⟨"WolfsHead$Ways", "sumUp", "(I)V"⟩, 10), (⟨"WolfsHead$Lands", "parts", "(III)Z"⟩, 3), (⟨"WolfsHead$Notes", "paint", "(III)Z"⟩, 11), (⟨"WolfsHead$Notes", "fits", "(II)Z"⟩, 11), (⟨"WolfsHead$Notes", "gain", "(ZII)I"⟩, 11), (⟨"WolfsHead", "explains", "(I)Z"⟩, 14), (⟨"WolfsHeadModel", "isLand", "(I)Z"⟩, 29)]
theorem lw_r3 : ∀ q ∈ lw_privs_3, lw_okq q := List.forall_mem_cons.mpr ⟨lw_p32, List.forall_mem_cons.mpr ⟨lw_p33, List.forall_mem_cons.mpr ⟨lw_p34, List.forall_mem_cons.mpr ⟨lw_p35, List.forall_mem_cons.mpr ⟨lw_p36, List.forall_mem_cons.mpr ⟨lw_p37, List.forall_mem_cons.mpr ⟨lw_p38, List.forall_mem_cons.mpr ⟨lw_p39, List.forall_mem_cons.mpr ⟨lw_p40, List.forall_mem_cons.mpr ⟨lw_p41, List.forall_mem_cons.mpr ⟨lw_p42, List.forall_mem_cons.mpr ⟨lw_p43, List.forall_mem_cons.mpr ⟨lw_p44, List.forall_mem_cons.mpr ⟨lw_p45, List.forall_mem_cons.mpr ⟨lw_p46, List.forall_mem_cons.mpr ⟨lw_p47, fun _ h => absurd h List.not_mem_nil⟩⟩⟩⟩⟩⟩⟩⟩⟩⟩⟩⟩⟩⟩⟩⟩
theorem lw_p48 : lw_okq (⟨"WolfsHeadModel", "put", "(III)V"⟩, 29) := ⟨⟨by decide +kernel, by decide +kernel⟩, List.mem_of_getElem? (i := 1241) (by decide +kernel), List.mem_of_getElem? (i := 1362) (by decide +kernel), List.mem_of_getElem? (i := 1363) (by decide +kernel)⟩
theorem lw_p49 : lw_okq (⟨"WolfsHeadModel", "begin", "(I)V"⟩, 29) := ⟨⟨by decide +kernel, by decide +kernel⟩, List.mem_of_getElem? (i := 1241) (by decide +kernel), List.mem_of_getElem? (i := 1366) (by decide +kernel), List.mem_of_getElem? (i := 1367) (by decide +kernel)⟩
theorem lw_p50 : lw_okq (⟨"WolfsHeadModel", "get", "(II)I"⟩, 29) := ⟨⟨by decide +kernel, by decide +kernel⟩, List.mem_of_getElem? (i := 1241) (by decide +kernel), List.mem_of_getElem? (i := 1370) (by decide +kernel), List.mem_of_getElem? (i := 1371) (by decide +kernel)⟩
theorem lw_p51 : lw_okq (⟨"WolfsHeadModel", "four", "(I)V"⟩, 29) := ⟨⟨by decide +kernel, by decide +kernel⟩, List.mem_of_getElem? (i := 1241) (by decide +kernel), List.mem_of_getElem? (i := 1378) (by decide +kernel), List.mem_of_getElem? (i := 1379) (by decide +kernel)⟩
theorem lw_p52 : lw_okq (⟨"WolfsHeadModel", "readText", "()I"⟩, 29) := ⟨⟨by decide +kernel, by decide +kernel⟩, List.mem_of_getElem? (i := 1241) (by decide +kernel), List.mem_of_getElem? (i := 1390) (by decide +kernel), List.mem_of_getElem? (i := 1391) (by decide +kernel)⟩
theorem lw_p53 : lw_okq (⟨"WolfsHeadModel", "nextToken", "()V"⟩, 29) := ⟨⟨by decide +kernel, by decide +kernel⟩, List.mem_of_getElem? (i := 1241) (by decide +kernel), List.mem_of_getElem? (i := 1394) (by decide +kernel), List.mem_of_getElem? (i := 1395) (by decide +kernel)⟩
theorem lw_p54 : lw_okq (⟨"WolfsHeadModel", "byteAt", "(I)I"⟩, 29) := ⟨⟨by decide +kernel, by decide +kernel⟩, List.mem_of_getElem? (i := 1241) (by decide +kernel), List.mem_of_getElem? (i := 1398) (by decide +kernel), List.mem_of_getElem? (i := 1399) (by decide +kernel)⟩
theorem lw_p55 : lw_okq (⟨"WolfsHeadModel", "clause", "()I"⟩, 29) := ⟨⟨by decide +kernel, by decide +kernel⟩, List.mem_of_getElem? (i := 1241) (by decide +kernel), List.mem_of_getElem? (i := 1413) (by decide +kernel), List.mem_of_getElem? (i := 1414) (by decide +kernel)⟩
theorem lw_p56 : lw_okq (⟨"WolfsHeadModel", "sortOf", "()I"⟩, 29) := ⟨⟨by decide +kernel, by decide +kernel⟩, List.mem_of_getElem? (i := 1241) (by decide +kernel), List.mem_of_getElem? (i := 1417) (by decide +kernel), List.mem_of_getElem? (i := 1418) (by decide +kernel)⟩
theorem lw_p57 : lw_okq (⟨"WolfsHeadModel", "isHungers", "()Z"⟩, 29) := ⟨⟨by decide +kernel, by decide +kernel⟩, List.mem_of_getElem? (i := 1241) (by decide +kernel), List.mem_of_getElem? (i := 1421) (by decide +kernel), List.mem_of_getElem? (i := 1422) (by decide +kernel)⟩
theorem lw_p58 : lw_okq (⟨"WolfsHeadModel", "isWord", "(J)Z"⟩, 29) := ⟨⟨by decide +kernel, by decide +kernel⟩, List.mem_of_getElem? (i := 1241) (by decide +kernel), List.mem_of_getElem? (i := 1437) (by decide +kernel), List.mem_of_getElem? (i := 1438) (by decide +kernel)⟩
theorem lw_p59 : lw_okq (⟨"WolfsHeadModel", "body", "(II)I"⟩, 29) := ⟨⟨by decide +kernel, by decide +kernel⟩, List.mem_of_getElem? (i := 1241) (by decide +kernel), List.mem_of_getElem? (i := 1444) (by decide +kernel), List.mem_of_getElem? (i := 1445) (by decide +kernel)⟩
theorem lw_p60 : lw_okq (⟨"WolfsHeadModel", "figure", "(III)I"⟩, 29) := ⟨⟨by decide +kernel, by decide +kernel⟩, List.mem_of_getElem? (i := 1241) (by decide +kernel), List.mem_of_getElem? (i := 1448) (by decide +kernel), List.mem_of_getElem? (i := 1449) (by decide +kernel)⟩
theorem lw_p61 : lw_okq (⟨"WolfsHeadModel", "pair", "(IIJI)I"⟩, 29) := ⟨⟨by decide +kernel, by decide +kernel⟩, List.mem_of_getElem? (i := 1241) (by decide +kernel), List.mem_of_getElem? (i := 1452) (by decide +kernel), List.mem_of_getElem? (i := 1453) (by decide +kernel)⟩
theorem lw_p62 : lw_okq (⟨"WolfsHeadModel", "worded", "(JII)I"⟩, 29) := ⟨⟨by decide +kernel, by decide +kernel⟩, List.mem_of_getElem? (i := 1241) (by decide +kernel), List.mem_of_getElem? (i := 1456) (by decide +kernel), List.mem_of_getElem? (i := 1457) (by decide +kernel)⟩
theorem lw_p63 : lw_okq (⟨"WolfsHeadModel", "personClause", "(I)I"⟩, 29) := ⟨⟨by decide +kernel, by decide +kernel⟩, List.mem_of_getElem? (i := 1241) (by decide +kernel), List.mem_of_getElem? (i := 1460) (by decide +kernel), List.mem_of_getElem? (i := 1461) (by decide +kernel)⟩
def lw_privs_4 : List (MethodName × Nat) := [(⟨"WolfsHeadModel", "put", "(III)V"⟩, 29), (⟨"WolfsHeadModel", "begin", "(I)V"⟩, 29), (⟨"WolfsHeadModel", "get", "(II)I"⟩, 29), (⟨"WolfsHeadModel", "four", "(I)V"⟩, 29), (⟨"WolfsHeadModel", "readText", "()I"⟩, 29), (⟨"WolfsHeadModel", "nextToken", "()V"⟩, 29), (⟨"WolfsHeadModel", "byteAt", "(I)I"⟩, 29), (⟨"WolfsHeadModel", "clause", "()I"⟩, 29), (⟨"WolfsHeadModel", "sortOf", "()I"⟩, 29), (⟨"WolfsHeadModel", "isHungers", "()Z"⟩, 29), (⟨"WolfsHeadModel", "isWord", "(J)Z"⟩, 29), (⟨"WolfsHeadModel", "body", "(II)I"⟩, 29), (⟨"WolfsHeadModel", "figure", "(III)I"⟩, 29), (⟨"WolfsHeadModel", "pair", "(IIJI)I"⟩, 29), (⟨"WolfsHeadModel", "worded", "(JII)I"⟩, 29), (⟨"WolfsHeadModel", "personClause", "(I)I"⟩, 29)]
theorem lw_r4 : ∀ q ∈ lw_privs_4, lw_okq q := List.forall_mem_cons.mpr ⟨lw_p48, List.forall_mem_cons.mpr ⟨lw_p49, List.forall_mem_cons.mpr ⟨lw_p50, List.forall_mem_cons.mpr ⟨lw_p51, List.forall_mem_cons.mpr ⟨lw_p52, List.forall_mem_cons.mpr ⟨lw_p53, List.forall_mem_cons.mpr ⟨lw_p54, List.forall_mem_cons.mpr ⟨lw_p55, List.forall_mem_cons.mpr ⟨lw_p56, List.forall_mem_cons.mpr ⟨lw_p57, List.forall_mem_cons.mpr ⟨lw_p58, List.forall_mem_cons.mpr ⟨lw_p59, List.forall_mem_cons.mpr ⟨lw_p60, List.forall_mem_cons.mpr ⟨lw_p61, List.forall_mem_cons.mpr ⟨lw_p62, List.forall_mem_cons.mpr ⟨lw_p63, fun _ h => absurd h List.not_mem_nil⟩⟩⟩⟩⟩⟩⟩⟩⟩⟩⟩⟩⟩⟩⟩⟩
theorem lw_p64 : lw_okq (⟨"WolfsHeadModel", "lawClause", "(I)I"⟩, 29) := ⟨⟨by decide +kernel, by decide +kernel⟩, List.mem_of_getElem? (i := 1241) (by decide +kernel), List.mem_of_getElem? (i := 1464) (by decide +kernel), List.mem_of_getElem? (i := 1465) (by decide +kernel)⟩
theorem lw_p65 : lw_okq (⟨"WolfsHeadModel", "summed", "()I"⟩, 29) := ⟨⟨by decide +kernel, by decide +kernel⟩, List.mem_of_getElem? (i := 1241) (by decide +kernel), List.mem_of_getElem? (i := 1468) (by decide +kernel), List.mem_of_getElem? (i := 1469) (by decide +kernel)⟩
theorem lw_p66 : lw_okq (⟨"WolfsHeadModel", "behindOne", "()Z"⟩, 29) := ⟨⟨by decide +kernel, by decide +kernel⟩, List.mem_of_getElem? (i := 1241) (by decide +kernel), List.mem_of_getElem? (i := 1472) (by decide +kernel), List.mem_of_getElem? (i := 1473) (by decide +kernel)⟩
theorem lw_p67 : lw_okq (⟨"WolfsHeadModel", "betweenOf", "()I"⟩, 29) := ⟨⟨by decide +kernel, by decide +kernel⟩, List.mem_of_getElem? (i := 1241) (by decide +kernel), List.mem_of_getElem? (i := 1476) (by decide +kernel), List.mem_of_getElem? (i := 1477) (by decide +kernel)⟩
theorem lw_p68 : lw_okq (⟨"WolfsHeadModel", "openNow", "()I"⟩, 29) := ⟨⟨by decide +kernel, by decide +kernel⟩, List.mem_of_getElem? (i := 1241) (by decide +kernel), List.mem_of_getElem? (i := 1480) (by decide +kernel), List.mem_of_getElem? (i := 1481) (by decide +kernel)⟩
theorem lw_p69 : lw_okq (⟨"WolfsHeadModel", "openAt", "()I"⟩, 29) := ⟨⟨by decide +kernel, by decide +kernel⟩, List.mem_of_getElem? (i := 1241) (by decide +kernel), List.mem_of_getElem? (i := 1484) (by decide +kernel), List.mem_of_getElem? (i := 1485) (by decide +kernel)⟩
theorem lw_p70 : lw_okq (⟨"WolfsHeadModel", "isCompared", "()Z"⟩, 29) := ⟨⟨by decide +kernel, by decide +kernel⟩, List.mem_of_getElem? (i := 1241) (by decide +kernel), List.mem_of_getElem? (i := 1488) (by decide +kernel), List.mem_of_getElem? (i := 1489) (by decide +kernel)⟩
theorem lw_p71 : lw_okq (⟨"WolfsHeadModel", "compareOf", "()I"⟩, 29) := ⟨⟨by decide +kernel, by decide +kernel⟩, List.mem_of_getElem? (i := 1241) (by decide +kernel), List.mem_of_getElem? (i := 1495) (by decide +kernel), List.mem_of_getElem? (i := 1496) (by decide +kernel)⟩
theorem lw_p72 : lw_okq (⟨"WolfsHeadModel", "settle", "(I)V"⟩, 29) := ⟨⟨by decide +kernel, by decide +kernel⟩, List.mem_of_getElem? (i := 1241) (by decide +kernel), List.mem_of_getElem? (i := 1499) (by decide +kernel), List.mem_of_getElem? (i := 1500) (by decide +kernel)⟩
theorem lw_p73 : lw_okq (⟨"WolfsHeadModel", "emit", "(II)V"⟩, 29) := ⟨⟨by decide +kernel, by decide +kernel⟩, List.mem_of_getElem? (i := 1241) (by decide +kernel), List.mem_of_getElem? (i := 1503) (by decide +kernel), List.mem_of_getElem? (i := 1504) (by decide +kernel)⟩
theorem lw_p74 : lw_okq (⟨"WolfsHeadModel", "partOf", "(I)I"⟩, 29) := ⟨⟨by decide +kernel, by decide +kernel⟩, List.mem_of_getElem? (i := 1241) (by decide +kernel), List.mem_of_getElem? (i := 1507) (by decide +kernel), List.mem_of_getElem? (i := 1508) (by decide +kernel)⟩
theorem lw_p75 : lw_okq (⟨"WolfsHeadModel", "beginOne", "()I"⟩, 29) := ⟨⟨by decide +kernel, by decide +kernel⟩, List.mem_of_getElem? (i := 1241) (by decide +kernel), List.mem_of_getElem? (i := 1511) (by decide +kernel), List.mem_of_getElem? (i := 1512) (by decide +kernel)⟩
theorem lw_p76 : lw_okq (⟨"WolfsHeadModel", "nameOf", "()I"⟩, 29) := ⟨⟨by decide +kernel, by decide +kernel⟩, List.mem_of_getElem? (i := 1241) (by decide +kernel), List.mem_of_getElem? (i := 1515) (by decide +kernel), List.mem_of_getElem? (i := 1516) (by decide +kernel)⟩
theorem lw_p77 : lw_okq (⟨"WolfsHeadModel", "isOf", "(I)Z"⟩, 29) := ⟨⟨by decide +kernel, by decide +kernel⟩, List.mem_of_getElem? (i := 1241) (by decide +kernel), List.mem_of_getElem? (i := 1519) (by decide +kernel), List.mem_of_getElem? (i := 1520) (by decide +kernel)⟩
theorem lw_p78 : lw_okq (⟨"WolfsHeadModel", "opened", "(I)I"⟩, 29) := ⟨⟨by decide +kernel, by decide +kernel⟩, List.mem_of_getElem? (i := 1241) (by decide +kernel), List.mem_of_getElem? (i := 1523) (by decide +kernel), List.mem_of_getElem? (i := 1524) (by decide +kernel)⟩
theorem lw_p79 : lw_okq (⟨"WolfsHeadModel", "isAskAhead", "()Z"⟩, 29) := ⟨⟨by decide +kernel, by decide +kernel⟩, List.mem_of_getElem? (i := 1241) (by decide +kernel), List.mem_of_getElem? (i := 1527) (by decide +kernel), List.mem_of_getElem? (i := 1528) (by decide +kernel)⟩
def lw_privs_5 : List (MethodName × Nat) := [(⟨"WolfsHeadModel", "lawClause", "(I)I"⟩, 29), (⟨"WolfsHeadModel", "summed", "()I"⟩, 29), (⟨"WolfsHeadModel", "behindOne", "()Z"⟩, 29), (⟨"WolfsHeadModel", "betweenOf", "()I"⟩, 29), (⟨"WolfsHeadModel", "openNow", "()I"⟩, 29), (⟨"WolfsHeadModel", "openAt", "()I"⟩, 29), (⟨"WolfsHeadModel", "isCompared", "()Z"⟩, 29), (⟨"WolfsHeadModel", "compareOf", "()I"⟩, 29), (⟨"WolfsHeadModel", "settle", "(I)V"⟩, 29), (⟨"WolfsHeadModel", "emit", "(II)V"⟩, 29), (⟨"WolfsHeadModel", "partOf", "(I)I"⟩, 29), (⟨"WolfsHeadModel", "beginOne", "()I"⟩, 29), (⟨"WolfsHeadModel", "nameOf", "()I"⟩, 29), (⟨"WolfsHeadModel", "isOf", "(I)Z"⟩, 29), (⟨"WolfsHeadModel", "opened", "(I)I"⟩, 29), (⟨"WolfsHeadModel", "isAskAhead", "()Z"⟩, 29)]
theorem lw_r5 : ∀ q ∈ lw_privs_5, lw_okq q := List.forall_mem_cons.mpr ⟨lw_p64, List.forall_mem_cons.mpr ⟨lw_p65, List.forall_mem_cons.mpr ⟨lw_p66, List.forall_mem_cons.mpr ⟨lw_p67, List.forall_mem_cons.mpr ⟨lw_p68, List.forall_mem_cons.mpr ⟨lw_p69, List.forall_mem_cons.mpr ⟨lw_p70, List.forall_mem_cons.mpr ⟨lw_p71, List.forall_mem_cons.mpr ⟨lw_p72, List.forall_mem_cons.mpr ⟨lw_p73, List.forall_mem_cons.mpr ⟨lw_p74, List.forall_mem_cons.mpr ⟨lw_p75, List.forall_mem_cons.mpr ⟨lw_p76, List.forall_mem_cons.mpr ⟨lw_p77, List.forall_mem_cons.mpr ⟨lw_p78, List.forall_mem_cons.mpr ⟨lw_p79, fun _ h => absurd h List.not_mem_nil⟩⟩⟩⟩⟩⟩⟩⟩⟩⟩⟩⟩⟩⟩⟩⟩
theorem lw_p80 : lw_okq (⟨"WolfsHeadModel", "canCall", "(II)Z"⟩, 29) := ⟨⟨by decide +kernel, by decide +kernel⟩, List.mem_of_getElem? (i := 1241) (by decide +kernel), List.mem_of_getElem? (i := 1547) (by decide +kernel), List.mem_of_getElem? (i := 1548) (by decide +kernel)⟩
theorem lw_p81 : lw_okq (⟨"WolfsHeadModel", "isAlive", "(I)Z"⟩, 29) := ⟨⟨by decide +kernel, by decide +kernel⟩, List.mem_of_getElem? (i := 1241) (by decide +kernel), List.mem_of_getElem? (i := 1551) (by decide +kernel), List.mem_of_getElem? (i := 1552) (by decide +kernel)⟩
theorem lw_p82 : lw_okq (⟨"WolfsHeadModel", "isPerson", "(I)Z"⟩, 29) := ⟨⟨by decide +kernel, by decide +kernel⟩, List.mem_of_getElem? (i := 1241) (by decide +kernel), List.mem_of_getElem? (i := 1555) (by decide +kernel), List.mem_of_getElem? (i := 1556) (by decide +kernel)⟩
theorem lw_p83 : lw_okq (⟨"WolfsHeadModel", "keep", "()V"⟩, 29) := ⟨⟨by decide +kernel, by decide +kernel⟩, List.mem_of_getElem? (i := 1241) (by decide +kernel), List.mem_of_getElem? (i := 1559) (by decide +kernel), List.mem_of_getElem? (i := 1560) (by decide +kernel)⟩
theorem lw_p84 : lw_okq (⟨"WolfsHeadModel", "callNow", "(II)V"⟩, 29) := ⟨⟨by decide +kernel, by decide +kernel⟩, List.mem_of_getElem? (i := 1241) (by decide +kernel), List.mem_of_getElem? (i := 1563) (by decide +kernel), List.mem_of_getElem? (i := 1564) (by decide +kernel)⟩
theorem lw_p85 : lw_okq (⟨"WolfsHeadModel", "write", "(II)V"⟩, 29) := ⟨⟨by decide +kernel, by decide +kernel⟩, List.mem_of_getElem? (i := 1241) (by decide +kernel), List.mem_of_getElem? (i := 1567) (by decide +kernel), List.mem_of_getElem? (i := 1568) (by decide +kernel)⟩
theorem lw_p86 : lw_okq (⟨"WolfsHeadModel", "canMove", "(II)Z"⟩, 29) := ⟨⟨by decide +kernel, by decide +kernel⟩, List.mem_of_getElem? (i := 1241) (by decide +kernel), List.mem_of_getElem? (i := 1575) (by decide +kernel), List.mem_of_getElem? (i := 1576) (by decide +kernel)⟩
theorem lw_p87 : lw_okq (⟨"WolfsHeadModel", "areBeside", "(II)Z"⟩, 29) := ⟨⟨by decide +kernel, by decide +kernel⟩, List.mem_of_getElem? (i := 1241) (by decide +kernel), List.mem_of_getElem? (i := 1583) (by decide +kernel), List.mem_of_getElem? (i := 1584) (by decide +kernel)⟩
theorem lw_p88 : lw_okq (⟨"WolfsHeadModel", "isOutlaw", "(I)Z"⟩, 29) := ⟨⟨by decide +kernel, by decide +kernel⟩, List.mem_of_getElem? (i := 1241) (by decide +kernel), List.mem_of_getElem? (i := 1587) (by decide +kernel), List.mem_of_getElem? (i := 1588) (by decide +kernel)⟩
theorem lw_p89 : lw_okq (⟨"WolfsHeadModel", "feedNow", "(II)V"⟩, 29) := ⟨⟨by decide +kernel, by decide +kernel⟩, List.mem_of_getElem? (i := 1241) (by decide +kernel), List.mem_of_getElem? (i := 1591) (by decide +kernel), List.mem_of_getElem? (i := 1592) (by decide +kernel)⟩
theorem lw_p90 : lw_okq (⟨"WolfsHeadModel", "findsOf", "(I)I"⟩, 29) := ⟨⟨by decide +kernel, by decide +kernel⟩, List.mem_of_getElem? (i := 1241) (by decide +kernel), List.mem_of_getElem? (i := 1595) (by decide +kernel), List.mem_of_getElem? (i := 1596) (by decide +kernel)⟩
theorem lw_p91 : lw_okq (⟨"WolfsHeadModel", "findsIn", "(II)I"⟩, 29) := ⟨⟨by decide +kernel, by decide +kernel⟩, List.mem_of_getElem? (i := 1241) (by decide +kernel), List.mem_of_getElem? (i := 1599) (by decide +kernel), List.mem_of_getElem? (i := 1600) (by decide +kernel)⟩
theorem lw_p92 : lw_okq (⟨"WolfsHeadModel", "nameIn", "(II)V"⟩, 29) := ⟨⟨by decide +kernel, by decide +kernel⟩, List.mem_of_getElem? (i := 1241) (by decide +kernel), List.mem_of_getElem? (i := 1603) (by decide +kernel), List.mem_of_getElem? (i := 1604) (by decide +kernel)⟩
theorem lw_p93 : lw_okq (⟨"WolfsHeadModel", "crowdOf", "(II)I"⟩, 29) := ⟨⟨by decide +kernel, by decide +kernel⟩, List.mem_of_getElem? (i := 1241) (by decide +kernel), List.mem_of_getElem? (i := 1607) (by decide +kernel), List.mem_of_getElem? (i := 1608) (by decide +kernel)⟩
theorem lw_p94 : lw_okq (⟨"WolfsHeadModel", "says", "(IIII)I"⟩, 29) := ⟨⟨by decide +kernel, by decide +kernel⟩, List.mem_of_getElem? (i := 1241) (by decide +kernel), List.mem_of_getElem? (i := 1611) (by decide +kernel), List.mem_of_getElem? (i := 1612) (by decide +kernel)⟩
theorem lw_p95 : lw_okq (⟨"WolfsHeadModel", "summedUp", "(II)J"⟩, 29) := ⟨⟨by decide +kernel, by decide +kernel⟩, List.mem_of_getElem? (i := 1241) (by decide +kernel), List.mem_of_getElem? (i := 1615) (by decide +kernel), List.mem_of_getElem? (i := 1616) (by decide +kernel)⟩
def lw_privs_6 : List (MethodName × Nat) := [(⟨"WolfsHeadModel", "canCall", "(II)Z"⟩, 29), (⟨"WolfsHeadModel", "isAlive", "(I)Z"⟩, 29), (⟨"WolfsHeadModel", "isPerson", "(I)Z"⟩, 29), (⟨"WolfsHeadModel", "keep", "()V"⟩, 29), (⟨"WolfsHeadModel", "callNow", "(II)V"⟩, 29), (⟨"WolfsHeadModel", "write", "(II)V"⟩, 29), (⟨"WolfsHeadModel", "canMove", "(II)Z"⟩, 29), (⟨"WolfsHeadModel", "areBeside", "(II)Z"⟩, 29), (⟨"WolfsHeadModel", "isOutlaw", "(I)Z"⟩, 29), (⟨"WolfsHeadModel", "feedNow", "(II)V"⟩, 29), (⟨"WolfsHeadModel", "findsOf", "(I)I"⟩, 29), (⟨"WolfsHeadModel", "findsIn", "(II)I"⟩, 29), (⟨"WolfsHeadModel", "nameIn", "(II)V"⟩, 29), (⟨"WolfsHeadModel", "crowdOf", "(II)I"⟩, 29), (⟨"WolfsHeadModel", "says", "(IIII)I"⟩, 29), (⟨"WolfsHeadModel", "summedUp", "(II)J"⟩, 29)]
theorem lw_r6 : ∀ q ∈ lw_privs_6, lw_okq q := List.forall_mem_cons.mpr ⟨lw_p80, List.forall_mem_cons.mpr ⟨lw_p81, List.forall_mem_cons.mpr ⟨lw_p82, List.forall_mem_cons.mpr ⟨lw_p83, List.forall_mem_cons.mpr ⟨lw_p84, List.forall_mem_cons.mpr ⟨lw_p85, List.forall_mem_cons.mpr ⟨lw_p86, List.forall_mem_cons.mpr ⟨lw_p87, List.forall_mem_cons.mpr ⟨lw_p88, List.forall_mem_cons.mpr ⟨lw_p89, List.forall_mem_cons.mpr ⟨lw_p90, List.forall_mem_cons.mpr ⟨lw_p91, List.forall_mem_cons.mpr ⟨lw_p92, List.forall_mem_cons.mpr ⟨lw_p93, List.forall_mem_cons.mpr ⟨lw_p94, List.forall_mem_cons.mpr ⟨lw_p95, fun _ h => absurd h List.not_mem_nil⟩⟩⟩⟩⟩⟩⟩⟩⟩⟩⟩⟩⟩⟩⟩⟩
theorem lw_p96 : lw_okq (⟨"WolfsHeadModel", "prefixed", "(IJ)J"⟩, 29) := ⟨⟨by decide +kernel, by decide +kernel⟩, List.mem_of_getElem? (i := 1241) (by decide +kernel), List.mem_of_getElem? (i := 1619) (by decide +kernel), List.mem_of_getElem? (i := 1620) (by decide +kernel)⟩
theorem lw_p97 : lw_okq (⟨"WolfsHeadModel", "fearOf", "(J)J"⟩, 29) := ⟨⟨by decide +kernel, by decide +kernel⟩, List.mem_of_getElem? (i := 1241) (by decide +kernel), List.mem_of_getElem? (i := 1626) (by decide +kernel), List.mem_of_getElem? (i := 1627) (by decide +kernel)⟩
theorem lw_p98 : lw_okq (⟨"WolfsHeadModel", "drawn", "(I)I"⟩, 29) := ⟨⟨by decide +kernel, by decide +kernel⟩, List.mem_of_getElem? (i := 1241) (by decide +kernel), List.mem_of_getElem? (i := 1647) (by decide +kernel), List.mem_of_getElem? (i := 1648) (by decide +kernel)⟩
theorem lw_p99 : lw_okq (⟨"WolfsHeadModel", "anew", "()V"⟩, 29) := ⟨⟨by decide +kernel, by decide +kernel⟩, List.mem_of_getElem? (i := 1241) (by decide +kernel), List.mem_of_getElem? (i := 1651) (by decide +kernel), List.mem_of_getElem? (i := 1652) (by decide +kernel)⟩
theorem lw_p100 : lw_okq (⟨"WolfsHeadModel", "killNow", "(II)V"⟩, 29) := ⟨⟨by decide +kernel, by decide +kernel⟩, List.mem_of_getElem? (i := 1241) (by decide +kernel), List.mem_of_getElem? (i := 1662) (by decide +kernel), List.mem_of_getElem? (i := 1663) (by decide +kernel)⟩
theorem lw_p101 : lw_okq (⟨"WolfsHeadModel", "die", "(II)V"⟩, 29) := ⟨⟨by decide +kernel, by decide +kernel⟩, List.mem_of_getElem? (i := 1241) (by decide +kernel), List.mem_of_getElem? (i := 1666) (by decide +kernel), List.mem_of_getElem? (i := 1667) (by decide +kernel)⟩
theorem lw_p102 : lw_okq (⟨"WolfsHeadModel", "pardonNow", "(I)V"⟩, 29) := ⟨⟨by decide +kernel, by decide +kernel⟩, List.mem_of_getElem? (i := 1241) (by decide +kernel), List.mem_of_getElem? (i := 1670) (by decide +kernel), List.mem_of_getElem? (i := 1671) (by decide +kernel)⟩
theorem lw_p103 : lw_okq (⟨"WolfsHeadModel", "canPardon", "(II)Z"⟩, 29) := ⟨⟨by decide +kernel, by decide +kernel⟩, List.mem_of_getElem? (i := 1241) (by decide +kernel), List.mem_of_getElem? (i := 1678) (by decide +kernel), List.mem_of_getElem? (i := 1679) (by decide +kernel)⟩
theorem lw_p104 : lw_okq (⟨"WolfsHeadModel", "priceOf", "(II)I"⟩, 29) := ⟨⟨by decide +kernel, by decide +kernel⟩, List.mem_of_getElem? (i := 1241) (by decide +kernel), List.mem_of_getElem? (i := 1682) (by decide +kernel), List.mem_of_getElem? (i := 1683) (by decide +kernel)⟩
theorem lw_p105 : lw_okq (⟨"WolfsHeadModel", "payNow", "(II)I"⟩, 29) := ⟨⟨by decide +kernel, by decide +kernel⟩, List.mem_of_getElem? (i := 1241) (by decide +kernel), List.mem_of_getElem? (i := 1686) (by decide +kernel), List.mem_of_getElem? (i := 1687) (by decide +kernel)⟩
theorem lw_p106 : lw_okq (⟨"WolfsHeadModel", "arePassed", "(I)Z"⟩, 29) := ⟨⟨by decide +kernel, by decide +kernel⟩, List.mem_of_getElem? (i := 1241) (by decide +kernel), List.mem_of_getElem? (i := 1694) (by decide +kernel), List.mem_of_getElem? (i := 1695) (by decide +kernel)⟩
theorem lw_p107 : lw_okq (⟨"WolfsHeadModel", "goOn", "()V"⟩, 29) := ⟨⟨by decide +kernel, by decide +kernel⟩, List.mem_of_getElem? (i := 1241) (by decide +kernel), List.mem_of_getElem? (i := 1698) (by decide +kernel), List.mem_of_getElem? (i := 1699) (by decide +kernel)⟩
theorem lw_p108 : lw_okq (⟨"WolfsHeadModel", "live", "(I)V"⟩, 29) := ⟨⟨by decide +kernel, by decide +kernel⟩, List.mem_of_getElem? (i := 1241) (by decide +kernel), List.mem_of_getElem? (i := 1702) (by decide +kernel), List.mem_of_getElem? (i := 1703) (by decide +kernel)⟩
theorem lw_p109 : lw_okq (⟨"WolfsHeadModel", "earnsOf", "(I)I"⟩, 29) := ⟨⟨by decide +kernel, by decide +kernel⟩, List.mem_of_getElem? (i := 1241) (by decide +kernel), List.mem_of_getElem? (i := 1706) (by decide +kernel), List.mem_of_getElem? (i := 1707) (by decide +kernel)⟩
theorem lw_p110 : lw_okq (⟨"WolfsHeadModel", "hungersOf", "(I)I"⟩, 29) := ⟨⟨by decide +kernel, by decide +kernel⟩, List.mem_of_getElem? (i := 1241) (by decide +kernel), List.mem_of_getElem? (i := 1710) (by decide +kernel), List.mem_of_getElem? (i := 1711) (by decide +kernel)⟩
theorem lw_p111 : lw_okq (⟨"WolfsHeadModel", "isPlayed", "(I)Z"⟩, 29) := ⟨⟨by decide +kernel, by decide +kernel⟩, List.mem_of_getElem? (i := 1241) (by decide +kernel), List.mem_of_getElem? (i := 1718) (by decide +kernel), List.mem_of_getElem? (i := 1719) (by decide +kernel)⟩
def lw_privs_7 : List (MethodName × Nat) := [(⟨"WolfsHeadModel", "prefixed", "(IJ)J"⟩, 29), (⟨"WolfsHeadModel", "fearOf", "(J)J"⟩, 29), (⟨"WolfsHeadModel", "drawn", "(I)I"⟩, 29), (⟨"WolfsHeadModel", "anew", "()V"⟩, 29), (⟨"WolfsHeadModel", "killNow", "(II)V"⟩, 29), (⟨"WolfsHeadModel", "die", "(II)V"⟩, 29), (⟨"WolfsHeadModel", "pardonNow", "(I)V"⟩, 29), (⟨"WolfsHeadModel", "canPardon", "(II)Z"⟩, 29), (⟨"WolfsHeadModel", "priceOf", "(II)I"⟩, 29), (⟨"WolfsHeadModel", "payNow", "(II)I"⟩, 29), (⟨"WolfsHeadModel", "arePassed", "(I)Z"⟩, 29), (⟨"WolfsHeadModel", "goOn", "()V"⟩, 29), (⟨"WolfsHeadModel", "live", "(I)V"⟩, 29), (⟨"WolfsHeadModel", "earnsOf", "(I)I"⟩, 29), (⟨"WolfsHeadModel", "hungersOf", "(I)I"⟩, 29), (⟨"WolfsHeadModel", "isPlayed", "(I)Z"⟩, 29)]
theorem lw_r7 : ∀ q ∈ lw_privs_7, lw_okq q := List.forall_mem_cons.mpr ⟨lw_p96, List.forall_mem_cons.mpr ⟨lw_p97, List.forall_mem_cons.mpr ⟨lw_p98, List.forall_mem_cons.mpr ⟨lw_p99, List.forall_mem_cons.mpr ⟨lw_p100, List.forall_mem_cons.mpr ⟨lw_p101, List.forall_mem_cons.mpr ⟨lw_p102, List.forall_mem_cons.mpr ⟨lw_p103, List.forall_mem_cons.mpr ⟨lw_p104, List.forall_mem_cons.mpr ⟨lw_p105, List.forall_mem_cons.mpr ⟨lw_p106, List.forall_mem_cons.mpr ⟨lw_p107, List.forall_mem_cons.mpr ⟨lw_p108, List.forall_mem_cons.mpr ⟨lw_p109, List.forall_mem_cons.mpr ⟨lw_p110, List.forall_mem_cons.mpr ⟨lw_p111, fun _ h => absurd h List.not_mem_nil⟩⟩⟩⟩⟩⟩⟩⟩⟩⟩⟩⟩⟩⟩⟩⟩
theorem lw_p112 : lw_okq (⟨"WolfsHeadModel", "happens", "(I)V"⟩, 29) := ⟨⟨by decide +kernel, by decide +kernel⟩, List.mem_of_getElem? (i := 1241) (by decide +kernel), List.mem_of_getElem? (i := 1734) (by decide +kernel), List.mem_of_getElem? (i := 1735) (by decide +kernel)⟩
theorem lw_p113 : lw_okq (⟨"WolfsHeadModel", "aliveIn", "(I)I"⟩, 29) := ⟨⟨by decide +kernel, by decide +kernel⟩, List.mem_of_getElem? (i := 1241) (by decide +kernel), List.mem_of_getElem? (i := 1746) (by decide +kernel), List.mem_of_getElem? (i := 1747) (by decide +kernel)⟩
theorem lw_p114 : lw_okq (⟨"WolfsHeadModel", "shown", "()I"⟩, 29) := ⟨⟨by decide +kernel, by decide +kernel⟩, List.mem_of_getElem? (i := 1241) (by decide +kernel), List.mem_of_getElem? (i := 1758) (by decide +kernel), List.mem_of_getElem? (i := 1759) (by decide +kernel)⟩
theorem lw_p115 : lw_okq (⟨"WolfsHeadModel", "entry", "(II)I"⟩, 29) := ⟨⟨by decide +kernel, by decide +kernel⟩, List.mem_of_getElem? (i := 1241) (by decide +kernel), List.mem_of_getElem? (i := 1762) (by decide +kernel), List.mem_of_getElem? (i := 1763) (by decide +kernel)⟩
theorem lw_p116 : lw_okq (⟨"WolfsHeadModel", "setAside", "()V"⟩, 29) := ⟨⟨by decide +kernel, by decide +kernel⟩, List.mem_of_getElem? (i := 1241) (by decide +kernel), List.mem_of_getElem? (i := 1787) (by decide +kernel), List.mem_of_getElem? (i := 1788) (by decide +kernel)⟩
theorem lw_p117 : lw_okq (⟨"WolfsHeadModel", "putBack", "()V"⟩, 29) := ⟨⟨by decide +kernel, by decide +kernel⟩, List.mem_of_getElem? (i := 1241) (by decide +kernel), List.mem_of_getElem? (i := 1791) (by decide +kernel), List.mem_of_getElem? (i := 1792) (by decide +kernel)⟩
theorem lw_p118 : lw_okq (⟨"WolfsHeadModel", "layLikely", "(II)V"⟩, 29) := ⟨⟨by decide +kernel, by decide +kernel⟩, List.mem_of_getElem? (i := 1241) (by decide +kernel), List.mem_of_getElem? (i := 1803) (by decide +kernel), List.mem_of_getElem? (i := 1804) (by decide +kernel)⟩
theorem lw_p119 : lw_okq (⟨"WolfsHeadModel", "nextFrom", "(II)I"⟩, 29) := ⟨⟨by decide +kernel, by decide +kernel⟩, List.mem_of_getElem? (i := 1241) (by decide +kernel), List.mem_of_getElem? (i := 1807) (by decide +kernel), List.mem_of_getElem? (i := 1808) (by decide +kernel)⟩
theorem lw_p120 : lw_okq (⟨"WolfsHeadModel", "reachOf", "(I)I"⟩, 29) := ⟨⟨by decide +kernel, by decide +kernel⟩, List.mem_of_getElem? (i := 1241) (by decide +kernel), List.mem_of_getElem? (i := 1811) (by decide +kernel), List.mem_of_getElem? (i := 1812) (by decide +kernel)⟩
theorem lw_p121 : lw_okq (⟨"WolfsHeadModel", "lowestFrom", "(I)I"⟩, 29) := ⟨⟨by decide +kernel, by decide +kernel⟩, List.mem_of_getElem? (i := 1241) (by decide +kernel), List.mem_of_getElem? (i := 1818) (by decide +kernel), List.mem_of_getElem? (i := 1819) (by decide +kernel)⟩
theorem lw_p122 : lw_okq (⟨"WolfsHeadModel", "spread", "(II)I"⟩, 29) := ⟨⟨by decide +kernel, by decide +kernel⟩, List.mem_of_getElem? (i := 1241) (by decide +kernel), List.mem_of_getElem? (i := 1826) (by decide +kernel), List.mem_of_getElem? (i := 1827) (by decide +kernel)⟩
theorem lw_p123 : lw_okq (⟨"WolfsHeadModel", "isJoined", "(III)Z"⟩, 29) := ⟨⟨by decide +kernel, by decide +kernel⟩, List.mem_of_getElem? (i := 1241) (by decide +kernel), List.mem_of_getElem? (i := 1850) (by decide +kernel), List.mem_of_getElem? (i := 1851) (by decide +kernel)⟩
theorem lw_p124 : lw_okq (⟨"WolfsHeadModel", "wasAt", "(II)I"⟩, 29) := ⟨⟨by decide +kernel, by decide +kernel⟩, List.mem_of_getElem? (i := 1241) (by decide +kernel), List.mem_of_getElem? (i := 1862) (by decide +kernel), List.mem_of_getElem? (i := 1863) (by decide +kernel)⟩
theorem lw_p125 : lw_okq (⟨"WolfsHeadModel", "isExplained", "(I)Z"⟩, 29) := ⟨⟨by decide +kernel, by decide +kernel⟩, List.mem_of_getElem? (i := 1241) (by decide +kernel), List.mem_of_getElem? (i := 1878) (by decide +kernel), List.mem_of_getElem? (i := 1879) (by decide +kernel)⟩
theorem lw_p126 : lw_okq (⟨"WolfsHeadModel", "canBe", "(II)Z"⟩, 29) := ⟨⟨by decide +kernel, by decide +kernel⟩, List.mem_of_getElem? (i := 1241) (by decide +kernel), List.mem_of_getElem? (i := 1882) (by decide +kernel), List.mem_of_getElem? (i := 1883) (by decide +kernel)⟩
def lw_privs_8 : List (MethodName × Nat) := [(⟨"WolfsHeadModel", "happens", "(I)V"⟩, 29), (⟨"WolfsHeadModel", "aliveIn", "(I)I"⟩, 29), (⟨"WolfsHeadModel", "shown", "()I"⟩, 29), (⟨"WolfsHeadModel", "entry", "(II)I"⟩, 29), (⟨"WolfsHeadModel", "setAside", "()V"⟩, 29), (⟨"WolfsHeadModel", "putBack", "()V"⟩, 29), (⟨"WolfsHeadModel", "layLikely", "(II)V"⟩, 29), (⟨"WolfsHeadModel", "nextFrom", "(II)I"⟩, 29), (⟨"WolfsHeadModel", "reachOf", "(I)I"⟩, 29), (⟨"WolfsHeadModel", "lowestFrom", "(I)I"⟩, 29), (⟨"WolfsHeadModel", "spread", "(II)I"⟩, 29), (⟨"WolfsHeadModel", "isJoined", "(III)Z"⟩, 29), (⟨"WolfsHeadModel", "wasAt", "(II)I"⟩, 29), (⟨"WolfsHeadModel", "isExplained", "(I)Z"⟩, 29), (⟨"WolfsHeadModel", "canBe", "(II)Z"⟩, 29)]
theorem lw_r8 : ∀ q ∈ lw_privs_8, lw_okq q := List.forall_mem_cons.mpr ⟨lw_p112, List.forall_mem_cons.mpr ⟨lw_p113, List.forall_mem_cons.mpr ⟨lw_p114, List.forall_mem_cons.mpr ⟨lw_p115, List.forall_mem_cons.mpr ⟨lw_p116, List.forall_mem_cons.mpr ⟨lw_p117, List.forall_mem_cons.mpr ⟨lw_p118, List.forall_mem_cons.mpr ⟨lw_p119, List.forall_mem_cons.mpr ⟨lw_p120, List.forall_mem_cons.mpr ⟨lw_p121, List.forall_mem_cons.mpr ⟨lw_p122, List.forall_mem_cons.mpr ⟨lw_p123, List.forall_mem_cons.mpr ⟨lw_p124, List.forall_mem_cons.mpr ⟨lw_p125, List.forall_mem_cons.mpr ⟨lw_p126, fun _ h => absurd h List.not_mem_nil⟩⟩⟩⟩⟩⟩⟩⟩⟩⟩⟩⟩⟩⟩⟩
def lw_privs : List (MethodName × Nat) := lw_privs_1 ++ (lw_privs_2 ++ (lw_privs_3 ++ (lw_privs_4 ++ (lw_privs_5 ++ (lw_privs_6 ++ (lw_privs_7 ++ (lw_privs_8)))))))
def lw_tbl : List Cond := k2_sels lw_privs ++ tables_1
theorem lw_privs_ok : ∀ q ∈ lw_privs, lw_okq q := by
  show ∀ q ∈ lw_privs_1 ++ (lw_privs_2 ++ (lw_privs_3 ++ (lw_privs_4 ++ (lw_privs_5 ++ (lw_privs_6 ++ (lw_privs_7 ++ (lw_privs_8))))))), lw_okq q
  exact List.forall_mem_append.mpr ⟨lw_r1, List.forall_mem_append.mpr ⟨lw_r2, List.forall_mem_append.mpr ⟨lw_r3, List.forall_mem_append.mpr ⟨lw_r4, List.forall_mem_append.mpr ⟨lw_r5, List.forall_mem_append.mpr ⟨lw_r6, List.forall_mem_append.mpr ⟨lw_r7, lw_r8⟩⟩⟩⟩⟩⟩⟩
end
section
def RX0 : String := "WolfsHead$Deeds"
def TX0 : u_T := fun k => match k with
  | 0 => ("WolfsHead$Deeds", "realm", "LWolfsHead$Realm;", true)
  | 1 => ("WolfsHead$Deeds", "folk", "LWolfsHead$Folk;", true)
  | _ => ("WolfsHead$Deeds", "laws", "LWolfsHead$Laws;", true)
def tyX0 : Nat → FieldType := fun k => match k with
  | 0 => .object "WolfsHead$Realm"
  | 1 => .object "WolfsHead$Folk"
  | _ => .object "WolfsHead$Laws"
theorem nmX0 : ∀ a, a < 3 → ∀ b, b < 3 → a ≠ b → (TX0 a).2.1 ≠ (TX0 b).2.1 := by decide +kernel
theorem tyX0_ok : ∀ k, k < 3 → parseFieldDescriptor (TX0 k).2.2.1 = some (tyX0 k) := by decide +kernel
abbrev cX0_init : ByteArray := prog_2_method_1_code
def yX0_init : MethodName := ⟨RX0, "<init>", "(LWolfsHead$Realm;LWolfsHead$Folk;LWolfsHead$Laws;)V"⟩
abbrev cX0_alive : ByteArray := prog_2_method_2_code
def yX0_alive : MethodName := ⟨RX0, "alive", "(I)Z"⟩
abbrev cX0_outlaw : ByteArray := prog_2_method_3_code
def yX0_outlaw : MethodName := ⟨RX0, "outlaw", "(I)Z"⟩
abbrev cX0_meets : ByteArray := prog_2_method_4_code
def yX0_meets : MethodName := ⟨RX0, "meets", "(II)Z"⟩
abbrev cX0_summon : ByteArray := prog_2_method_5_code
def yX0_summon : MethodName := ⟨RX0, "summon", "(II)I"⟩
abbrev cX0_castOut : ByteArray := prog_2_method_6_code
def yX0_castOut : MethodName := ⟨RX0, "castOut", "(I)V"⟩
abbrev cX0_travel : ByteArray := prog_2_method_7_code
def yX0_travel : MethodName := ⟨RX0, "travel", "(II)Z"⟩
abbrev cX0_nourish : ByteArray := prog_2_method_8_code
def yX0_nourish : MethodName := ⟨RX0, "nourish", "(II)I"⟩
abbrev cX0_slay : ByteArray := prog_2_method_9_code
def yX0_slay : MethodName := ⟨RX0, "slay", "(II)Z"⟩
abbrev cX0_setFree : ByteArray := prog_2_method_10_code
def yX0_setFree : MethodName := ⟨RX0, "setFree", "(I)V"⟩
abbrev cX0_priceFor : ByteArray := prog_2_method_11_code
def yX0_priceFor : MethodName := ⟨RX0, "priceFor", "(II)I"⟩
abbrev cX0_forgive : ByteArray := prog_2_method_12_code
def yX0_forgive : MethodName := ⟨RX0, "forgive", "(II)I"⟩
abbrev cX0_passMonth : ByteArray := prog_2_method_13_code
def yX0_passMonth : MethodName := ⟨RX0, "passMonth", "()I"⟩
abbrev cX0_earn : ByteArray := prog_2_method_14_code
def yX0_earn : MethodName := ⟨RX0, "earn", "(I)V"⟩
abbrev cX0_hide : ByteArray := prog_2_method_15_code
def yX0_hide : MethodName := ⟨RX0, "hide", "(I)Z"⟩
def RX1 : String := "WolfsHead$Folk"
def TX1 : u_T := fun k => match k with
  | 0 => ("WolfsHead$Folk", "row", "[I", true)
  | 1 => ("WolfsHead$Folk", "fears", "[I", true)
  | _ => ("WolfsHead$Folk", "asTold", "[I", true)
def tyX1 : Nat → FieldType := fun k => match k with
  | 0 => .array .int
  | 1 => .array .int
  | _ => .array .int
theorem nmX1 : ∀ a, a < 3 → ∀ b, b < 3 → a ≠ b → (TX1 a).2.1 ≠ (TX1 b).2.1 := by decide +kernel
theorem tyX1_ok : ∀ k, k < 3 → parseFieldDescriptor (TX1 k).2.2.1 = some (tyX1 k) := by decide +kernel
abbrev cX1_init : ByteArray := prog_3_method_1_code
def yX1_init : MethodName := ⟨RX1, "<init>", "()V"⟩
abbrev cX1_become : ByteArray := prog_3_method_2_code
def yX1_become : MethodName := ⟨RX1, "become", "(LWolfsHead$Folk;)V"⟩
abbrev cX1_copyTo : ByteArray := prog_3_method_3_code
def yX1_copyTo : MethodName := ⟨RX1, "copyTo", "([II)V"⟩
abbrev cX1_takeFrom : ByteArray := prog_3_method_4_code
def yX1_takeFrom : MethodName := ⟨RX1, "takeFrom", "([II)V"⟩
abbrev cX1_tell : ByteArray := prog_3_method_5_code
def yX1_tell : MethodName := ⟨RX1, "tell", "(IIII)I"⟩
abbrev cX1_settle : ByteArray := prog_3_method_6_code
def yX1_settle : MethodName := ⟨RX1, "settle", "(I)V"⟩
abbrev cX1_count : ByteArray := prog_3_method_7_code
def yX1_count : MethodName := ⟨RX1, "count", "()I"⟩
abbrev cX1_told : ByteArray := prog_3_method_8_code
def yX1_told : MethodName := ⟨RX1, "told", "(I)Z"⟩
abbrev cX1_get : ByteArray := prog_3_method_9_code
def yX1_get : MethodName := ⟨RX1, "get", "(II)I"⟩
abbrev cX1_set : ByteArray := prog_3_method_10_code
def yX1_set : MethodName := ⟨RX1, "set", "(III)V"⟩
abbrev cX1_fearOf : ByteArray := prog_3_method_11_code
def yX1_fearOf : MethodName := ⟨RX1, "fearOf", "(I)I"⟩
abbrev cX1_othersIn : ByteArray := prog_3_method_12_code
def yX1_othersIn : MethodName := ⟨RX1, "othersIn", "(II)I"⟩
abbrev cX1_outlaws : ByteArray := prog_3_method_13_code
def yX1_outlaws : MethodName := ⟨RX1, "outlaws", "()I"⟩
abbrev cX1_monthNow : ByteArray := prog_3_method_14_code
def yX1_monthNow : MethodName := ⟨RX1, "monthNow", "()I"⟩
abbrev cX1_nextMonth : ByteArray := prog_3_method_15_code
def yX1_nextMonth : MethodName := ⟨RX1, "nextMonth", "()V"⟩
abbrev cX1_x : ByteArray := prog_3_method_16_code
def yX1_x : MethodName := ⟨RX1, "x", "()I"⟩
abbrev cX1_setX : ByteArray := prog_3_method_17_code
def yX1_setX : MethodName := ⟨RX1, "setX", "(I)V"⟩
abbrev cX1_stir : ByteArray := prog_3_method_18_code
def yX1_stir : MethodName := ⟨RX1, "stir", "()V"⟩
abbrev cX1_drawByTen : ByteArray := prog_3_method_19_code
def yX1_drawByTen : MethodName := ⟨RX1, "drawByTen", "()I"⟩
abbrev cX1_write : ByteArray := prog_3_method_20_code
def yX1_write : MethodName := ⟨RX1, "write", "(II)V"⟩
abbrev cX1_written : ByteArray := prog_3_method_21_code
def yX1_written : MethodName := ⟨RX1, "written", "()I"⟩
abbrev cX1_entry : ByteArray := prog_3_method_22_code
def yX1_entry : MethodName := ⟨RX1, "entry", "(I)I"⟩
abbrev cX1_entryMonth : ByteArray := prog_3_method_23_code
def yX1_entryMonth : MethodName := ⟨RX1, "entryMonth", "(I)I"⟩
abbrev cX1_entryPerson : ByteArray := prog_3_method_24_code
def yX1_entryPerson : MethodName := ⟨RX1, "entryPerson", "(I)I"⟩
abbrev cX1_entryWhat : ByteArray := prog_3_method_25_code
def yX1_entryWhat : MethodName := ⟨RX1, "entryWhat", "(I)I"⟩
def RX2 : String := "WolfsHead$Lands"
def TX2 : u_T := fun k => match k with
  | 0 => ("WolfsHead$Lands", "count", "I", false)
  | 1 => ("WolfsHead$Lands", "forests", "[I", true)
  | _ => ("WolfsHead$Lands", "roads", "[I", true)
def tyX2 : Nat → FieldType := fun k => match k with
  | 0 => .int
  | 1 => .array .int
  | _ => .array .int
theorem nmX2 : ∀ a, a < 3 → ∀ b, b < 3 → a ≠ b → (TX2 a).2.1 ≠ (TX2 b).2.1 := by decide +kernel
theorem tyX2_ok : ∀ k, k < 3 → parseFieldDescriptor (TX2 k).2.2.1 = some (tyX2 k) := by decide +kernel
abbrev cX2_init : ByteArray := prog_4_method_1_code
def yX2_init : MethodName := ⟨RX2, "<init>", "()V"⟩
abbrev cX2_become : ByteArray := prog_4_method_2_code
def yX2_become : MethodName := ⟨RX2, "become", "(LWolfsHead$Lands;)V"⟩
abbrev cX2_told : ByteArray := prog_4_method_3_code
def yX2_told : MethodName := ⟨RX2, "told", "(I)Z"⟩
abbrev cX2_tell : ByteArray := prog_4_method_4_code
def yX2_tell : MethodName := ⟨RX2, "tell", "(I)I"⟩
abbrev cX2_join : ByteArray := prog_4_method_5_code
def yX2_join : MethodName := ⟨RX2, "join", "(II)Z"⟩
abbrev cX2_joined : ByteArray := prog_4_method_6_code
def yX2_joined : MethodName := ⟨RX2, "joined", "(II)Z"⟩
abbrev cX2_forestOf : ByteArray := prog_4_method_7_code
def yX2_forestOf : MethodName := ⟨RX2, "forestOf", "(I)I"⟩
abbrev cX2_near : ByteArray := prog_4_method_8_code
def yX2_near : MethodName := ⟨RX2, "near", "(I)I"⟩
abbrev cX2_all : ByteArray := prog_4_method_9_code
def yX2_all : MethodName := ⟨RX2, "all", "()I"⟩
abbrev cX2_spread : ByteArray := prog_4_method_10_code
def yX2_spread : MethodName := ⟨RX2, "spread", "(I)I"⟩
abbrev cX2_distance : ByteArray := prog_4_method_11_code
def yX2_distance : MethodName := ⟨RX2, "distance", "(II)I"⟩
abbrev cX2_fewestHelpers : ByteArray := prog_4_method_12_code
def yX2_fewestHelpers : MethodName := ⟨RX2, "fewestHelpers", "()I"⟩
abbrev cX2_fewestWatched : ByteArray := prog_4_method_13_code
def yX2_fewestWatched : MethodName := ⟨RX2, "fewestWatched", "(II)I"⟩
abbrev cX2_parts : ByteArray := prog_4_method_14_code
def yX2_parts : MethodName := ⟨RX2, "parts", "(III)Z"⟩
def RX3 : String := "WolfsHead$Laws"
def TX3 : u_T := fun k => match k with
  | 0 => ("WolfsHead$Laws", "realm", "LWolfsHead$Realm;", true)
  | 1 => ("WolfsHead$Laws", "texts", "[LWolfsHead$Text;", true)
  | 2 => ("WolfsHead$Laws", "names", "[I", true)
  | _ => ("WolfsHead$Laws", "stack", "[I", true)
def tyX3 : Nat → FieldType := fun k => match k with
  | 0 => .object "WolfsHead$Realm"
  | 1 => .array (.object "WolfsHead$Text")
  | 2 => .array .int
  | _ => .array .int
theorem nmX3 : ∀ a, a < 4 → ∀ b, b < 4 → a ≠ b → (TX3 a).2.1 ≠ (TX3 b).2.1 := by decide +kernel
theorem tyX3_ok : ∀ k, k < 4 → parseFieldDescriptor (TX3 k).2.2.1 = some (tyX3 k) := by decide +kernel
abbrev cX3_init : ByteArray := prog_5_method_1_code
def yX3_init : MethodName := ⟨RX3, "<init>", "(LWolfsHead$Realm;[LWolfsHead$Text;)V"⟩
abbrev cX3_rule : ByteArray := prog_5_method_2_code
def yX3_rule : MethodName := ⟨RX3, "rule", "(IILWolfsHead$Folk;II)I"⟩
abbrev cX3_without : ByteArray := prog_5_method_3_code
def yX3_without : MethodName := ⟨RX3, "without", "(ILWolfsHead$Folk;II)I"⟩
abbrev cX3_fillNames : ByteArray := prog_5_method_4_code
def yX3_fillNames : MethodName := ⟨RX3, "fillNames", "(LWolfsHead$Folk;II)V"⟩
def RX4 : String := "WolfsHead$Notes"
def TX4 : u_T := fun k => match k with
  | 0 => ("WolfsHead$Notes", "calls", "I", false)
  | 1 => ("WolfsHead$Notes", "bordering", "I", false)
  | 2 => ("WolfsHead$Notes", "reportCount", "I", false)
  | 3 => ("WolfsHead$Notes", "unlikes", "I", false)
  | 4 => ("WolfsHead$Notes", "payments", "I", false)
  | 5 => ("WolfsHead$Notes", "callLands", "[I", true)
  | 6 => ("WolfsHead$Notes", "unlikeTo", "[I", true)
  | 7 => ("WolfsHead$Notes", "owners", "[I", true)
  | 8 => ("WolfsHead$Notes", "gains", "[I", true)
  | 9 => ("WolfsHead$Notes", "payers", "[I", true)
  | _ => ("WolfsHead$Notes", "prices", "[I", true)
def tyX4 : Nat → FieldType := fun k => match k with
  | 0 => .int
  | 1 => .int
  | 2 => .int
  | 3 => .int
  | 4 => .int
  | 5 => .array .int
  | 6 => .array .int
  | 7 => .array .int
  | 8 => .array .int
  | 9 => .array .int
  | _ => .array .int
theorem nmX4 : ∀ a, a < 11 → ∀ b, b < 11 → a ≠ b → (TX4 a).2.1 ≠ (TX4 b).2.1 := by decide +kernel
theorem tyX4_ok : ∀ k, k < 11 → parseFieldDescriptor (TX4 k).2.2.1 = some (tyX4 k) := by decide +kernel
abbrev cX4_init : ByteArray := prog_6_method_1_code
def yX4_init : MethodName := ⟨RX4, "<init>", "()V"⟩
abbrev cX4_become : ByteArray := prog_6_method_2_code
def yX4_become : MethodName := ⟨RX4, "become", "(LWolfsHead$Notes;)V"⟩
abbrev cX4_forgetCalls : ByteArray := prog_6_method_3_code
def yX4_forgetCalls : MethodName := ⟨RX4, "forgetCalls", "()V"⟩
abbrev cX4_noteCall : ByteArray := prog_6_method_4_code
def yX4_noteCall : MethodName := ⟨RX4, "noteCall", "(I)I"⟩
abbrev cX4_callLand : ByteArray := prog_6_method_5_code
def yX4_callLand : MethodName := ⟨RX4, "callLand", "(I)I"⟩
abbrev cX4_tellReports : ByteArray := prog_6_method_6_code
def yX4_tellReports : MethodName := ⟨RX4, "tellReports", "(I)Z"⟩
abbrev cX4_reported : ByteArray := prog_6_method_7_code
def yX4_reported : MethodName := ⟨RX4, "reported", "(I)Z"⟩
abbrev cX4_tellUnlike : ByteArray := prog_6_method_8_code
def yX4_tellUnlike : MethodName := ⟨RX4, "tellUnlike", "(II)I"⟩
abbrev cX4_paintFewest : ByteArray := prog_6_method_9_code
def yX4_paintFewest : MethodName := ⟨RX4, "paintFewest", "()I"⟩
abbrev cX4_paint : ByteArray := prog_6_method_10_code
def yX4_paint : MethodName := ⟨RX4, "paint", "(III)Z"⟩
abbrev cX4_fits : ByteArray := prog_6_method_11_code
def yX4_fits : MethodName := ⟨RX4, "fits", "(II)Z"⟩
abbrev cX4_headOf : ByteArray := prog_6_method_12_code
def yX4_headOf : MethodName := ⟨RX4, "headOf", "(I)I"⟩
abbrev cX4_tellGain : ByteArray := prog_6_method_13_code
def yX4_tellGain : MethodName := ⟨RX4, "tellGain", "(ZIII)Z"⟩
abbrev cX4_gain : ByteArray := prog_6_method_14_code
def yX4_gain : MethodName := ⟨RX4, "gain", "(ZII)I"⟩
abbrev cX4_calmPairs : ByteArray := prog_6_method_15_code
def yX4_calmPairs : MethodName := ⟨RX4, "calmPairs", "()I"⟩
abbrev cX4_evenOdds : ByteArray := prog_6_method_16_code
def yX4_evenOdds : MethodName := ⟨RX4, "evenOdds", "(Z)I"⟩
abbrev cX4_forgetPaid : ByteArray := prog_6_method_17_code
def yX4_forgetPaid : MethodName := ⟨RX4, "forgetPaid", "()V"⟩
abbrev cX4_notePaid : ByteArray := prog_6_method_18_code
def yX4_notePaid : MethodName := ⟨RX4, "notePaid", "(II)I"⟩
abbrev cX4_payer : ByteArray := prog_6_method_19_code
def yX4_payer : MethodName := ⟨RX4, "payer", "(I)I"⟩
abbrev cX4_payment : ByteArray := prog_6_method_20_code
def yX4_payment : MethodName := ⟨RX4, "payment", "(I)I"⟩
def RX5 : String := "WolfsHead$Reader"
def TX5 : u_T := fun k => match k with
  | 0 => ("WolfsHead$Reader", "fault", "I", false)
  | 1 => ("WolfsHead$Reader", "place", "I", false)
  | 2 => ("WolfsHead$Reader", "tape", "LWolfsHead$Tape;", true)
  | 3 => ("WolfsHead$Reader", "text", "LWolfsHead$Text;", false)
  | 4 => ("WolfsHead$Reader", "at", "I", false)
  | _ => ("WolfsHead$Reader", "law", "I", false)
def tyX5 : Nat → FieldType := fun k => match k with
  | 0 => .int
  | 1 => .int
  | 2 => .object "WolfsHead$Tape"
  | 3 => .object "WolfsHead$Text"
  | 4 => .int
  | _ => .int
theorem nmX5 : ∀ a, a < 6 → ∀ b, b < 6 → a ≠ b → (TX5 a).2.1 ≠ (TX5 b).2.1 := by decide +kernel
theorem tyX5_ok : ∀ k, k < 6 → parseFieldDescriptor (TX5 k).2.2.1 = some (tyX5 k) := by decide +kernel
abbrev cX5_init : ByteArray := prog_7_method_1_code
def yX5_init : MethodName := ⟨RX5, "<init>", "(LWolfsHead$Tape;)V"⟩
abbrev cX5_read : ByteArray := prog_7_method_2_code
def yX5_read : MethodName := ⟨RX5, "read", "(LWolfsHead$Text;)Z"⟩
abbrev cX5_token : ByteArray := prog_7_method_3_code
def yX5_token : MethodName := ⟨RX5, "token", "()I"⟩
abbrev cX5_next : ByteArray := prog_7_method_4_code
def yX5_next : MethodName := ⟨RX5, "next", "()V"⟩
abbrev cX5_fail : ByteArray := prog_7_method_5_code
def yX5_fail : MethodName := ⟨RX5, "fail", "(I)Z"⟩
abbrev cX5_expect : ByteArray := prog_7_method_6_code
def yX5_expect : MethodName := ⟨RX5, "expect", "(I)Z"⟩
abbrev cX5_clause : ByteArray := prog_7_method_7_code
def yX5_clause : MethodName := ⟨RX5, "clause", "(I)Z"⟩
abbrev cX5_lawOf : ByteArray := prog_7_method_8_code
def yX5_lawOf : MethodName := ⟨RX5, "lawOf", "(I)Z"⟩
abbrev cX5_deedOf : ByteArray := prog_7_method_9_code
def yX5_deedOf : MethodName := ⟨RX5, "deedOf", "(I)Z"⟩
abbrev cX5_number : ByteArray := prog_7_method_10_code
def yX5_number : MethodName := ⟨RX5, "number", "(II)Z"⟩
abbrev cX5_sum : ByteArray := prog_7_method_11_code
def yX5_sum : MethodName := ⟨RX5, "sum", "(I)Z"⟩
abbrev cX5_product : ByteArray := prog_7_method_12_code
def yX5_product : MethodName := ⟨RX5, "product", "(I)Z"⟩
abbrev cX5_one : ByteArray := prog_7_method_13_code
def yX5_one : MethodName := ⟨RX5, "one", "(I)Z"⟩
abbrev cX5_leaf : ByteArray := prog_7_method_14_code
def yX5_leaf : MethodName := ⟨RX5, "leaf", "(I)Z"⟩
abbrev cX5_choice : ByteArray := prog_7_method_15_code
def yX5_choice : MethodName := ⟨RX5, "choice", "(I)Z"⟩
abbrev cX5_either : ByteArray := prog_7_method_16_code
def yX5_either : MethodName := ⟨RX5, "either", "(I)Z"⟩
abbrev cX5_both : ByteArray := prog_7_method_17_code
def yX5_both : MethodName := ⟨RX5, "both", "(I)Z"⟩
abbrev cX5_ask : ByteArray := prog_7_method_18_code
def yX5_ask : MethodName := ⟨RX5, "ask", "(I)Z"⟩
def RX6 : String := "WolfsHead$Realm"
def TX6 : u_T := fun k => match k with
  | 0 => ("WolfsHead$Realm", "lands", "LWolfsHead$Lands;", true)
  | 1 => ("WolfsHead$Realm", "folk", "LWolfsHead$Folk;", true)
  | 2 => ("WolfsHead$Realm", "taken", "LWolfsHead$Steps;", true)
  | 3 => ("WolfsHead$Realm", "notes", "LWolfsHead$Notes;", true)
  | 4 => ("WolfsHead$Realm", "texts", "I", false)
  | _ => ("WolfsHead$Realm", "ruling", "I", false)
def tyX6 : Nat → FieldType := fun k => match k with
  | 0 => .object "WolfsHead$Lands"
  | 1 => .object "WolfsHead$Folk"
  | 2 => .object "WolfsHead$Steps"
  | 3 => .object "WolfsHead$Notes"
  | 4 => .int
  | _ => .int
theorem nmX6 : ∀ a, a < 6 → ∀ b, b < 6 → a ≠ b → (TX6 a).2.1 ≠ (TX6 b).2.1 := by decide +kernel
theorem tyX6_ok : ∀ k, k < 6 → parseFieldDescriptor (TX6 k).2.2.1 = some (tyX6 k) := by decide +kernel
abbrev cX6_init : ByteArray := prog_8_method_1_code
def yX6_init : MethodName := ⟨RX6, "<init>", "()V"⟩
abbrev cX6_become : ByteArray := prog_8_method_2_code
def yX6_become : MethodName := ⟨RX6, "become", "(LWolfsHead$Realm;)V"⟩
def RX7 : String := "WolfsHead$Steps"
def TX7 : u_T := fun k => match k with
  | 0 => ("WolfsHead$Steps", "count", "I", false)
  | 1 => ("WolfsHead$Steps", "next", "I", false)
  | _ => ("WolfsHead$Steps", "store", "[I", true)
def tyX7 : Nat → FieldType := fun k => match k with
  | 0 => .int
  | 1 => .int
  | _ => .array .int
theorem nmX7 : ∀ a, a < 3 → ∀ b, b < 3 → a ≠ b → (TX7 a).2.1 ≠ (TX7 b).2.1 := by decide +kernel
theorem tyX7_ok : ∀ k, k < 3 → parseFieldDescriptor (TX7 k).2.2.1 = some (tyX7 k) := by decide +kernel
abbrev cX7_init : ByteArray := prog_9_method_1_code
def yX7_init : MethodName := ⟨RX7, "<init>", "()V"⟩
abbrev cX7_become : ByteArray := prog_9_method_2_code
def yX7_become : MethodName := ⟨RX7, "become", "(LWolfsHead$Steps;)V"⟩
abbrev cX7_ahead : ByteArray := prog_9_method_3_code
def yX7_ahead : MethodName := ⟨RX7, "ahead", "(LWolfsHead$Folk;)V"⟩
abbrev cX7_keep : ByteArray := prog_9_method_4_code
def yX7_keep : MethodName := ⟨RX7, "keep", "()V"⟩
abbrev cX7_takeBack : ByteArray := prog_9_method_5_code
def yX7_takeBack : MethodName := ⟨RX7, "takeBack", "(LWolfsHead$Folk;)I"⟩
def RX8 : String := "WolfsHead$Tape"
def TX8 : u_T := fun k => match k with
  | 0 => ("WolfsHead$Tape", "length", "I", false)
  | 1 => ("WolfsHead$Tape", "tokens", "I", false)
  | 2 => ("WolfsHead$Tape", "bytes", "[B", true)
  | 3 => ("WolfsHead$Tape", "kinds", "[I", true)
  | 4 => ("WolfsHead$Tape", "places", "[I", true)
  | _ => ("WolfsHead$Tape", "numbers", "[I", true)
def tyX8 : Nat → FieldType := fun k => match k with
  | 0 => .int
  | 1 => .int
  | 2 => .array .byte
  | 3 => .array .int
  | 4 => .array .int
  | _ => .array .int
theorem nmX8 : ∀ a, a < 6 → ∀ b, b < 6 → a ≠ b → (TX8 a).2.1 ≠ (TX8 b).2.1 := by decide +kernel
theorem tyX8_ok : ∀ k, k < 6 → parseFieldDescriptor (TX8 k).2.2.1 = some (tyX8 k) := by decide +kernel
abbrev cX8_init : ByteArray := prog_10_method_1_code
def yX8_init : MethodName := ⟨RX8, "<init>", "()V"⟩
abbrev cX8_hasRoom : ByteArray := prog_10_method_2_code
def yX8_hasRoom : MethodName := ⟨RX8, "hasRoom", "()Z"⟩
abbrev cX8_take : ByteArray := prog_10_method_3_code
def yX8_take : MethodName := ⟨RX8, "take", "(I)V"⟩
abbrev cX8_split : ByteArray := prog_10_method_4_code
def yX8_split : MethodName := ⟨RX8, "split", "()V"⟩
abbrev cX8_put : ByteArray := prog_10_method_5_code
def yX8_put : MethodName := ⟨RX8, "put", "(III)V"⟩
abbrev cX8_cutToken : ByteArray := prog_10_method_6_code
def yX8_cutToken : MethodName := ⟨RX8, "cutToken", "(I)I"⟩
abbrev cX8_wordOf : ByteArray := prog_10_method_7_code
def yX8_wordOf : MethodName := ⟨RX8, "wordOf", "(II)I"⟩
abbrev cX8_spells : ByteArray := prog_10_method_8_code
def yX8_spells : MethodName := ⟨RX8, "spells", "(III)Z"⟩
abbrev cX8_signAt : ByteArray := prog_10_method_9_code
def yX8_signAt : MethodName := ⟨RX8, "signAt", "(I)I"⟩
abbrev cX8_byteAt : ByteArray := prog_10_method_10_code
def yX8_byteAt : MethodName := ⟨RX8, "byteAt", "(I)I"⟩
abbrev cX8_isBlank : ByteArray := prog_10_method_11_code
def yX8_isBlank : MethodName := ⟨RX8, "isBlank", "(I)Z"⟩
abbrev cX8_isLetter : ByteArray := prog_10_method_12_code
def yX8_isLetter : MethodName := ⟨RX8, "isLetter", "(I)Z"⟩
abbrev cX8_isDigit : ByteArray := prog_10_method_13_code
def yX8_isDigit : MethodName := ⟨RX8, "isDigit", "(I)Z"⟩
abbrev cX8_kind : ByteArray := prog_10_method_14_code
def yX8_kind : MethodName := ⟨RX8, "kind", "(I)I"⟩
abbrev cX8_place : ByteArray := prog_10_method_15_code
def yX8_place : MethodName := ⟨RX8, "place", "(I)I"⟩
abbrev cX8_number : ByteArray := prog_10_method_16_code
def yX8_number : MethodName := ⟨RX8, "number", "(I)I"⟩
def RX9 : String := "WolfsHead$Text"
def TX9 : u_T := fun k => match k with
  | 0 => ("WolfsHead$Text", "clauses", "I", false)
  | 1 => ("WolfsHead$Text", "length", "I", false)
  | 2 => ("WolfsHead$Text", "parts", "I", false)
  | 3 => ("WolfsHead$Text", "code", "[I", true)
  | 4 => ("WolfsHead$Text", "starts", "[I", true)
  | 5 => ("WolfsHead$Text", "ends", "[I", true)
  | _ => ("WolfsHead$Text", "rows", "[I", true)
def tyX9 : Nat → FieldType := fun k => match k with
  | 0 => .int
  | 1 => .int
  | 2 => .int
  | 3 => .array .int
  | 4 => .array .int
  | 5 => .array .int
  | _ => .array .int
theorem nmX9 : ∀ a, a < 7 → ∀ b, b < 7 → a ≠ b → (TX9 a).2.1 ≠ (TX9 b).2.1 := by decide +kernel
theorem tyX9_ok : ∀ k, k < 7 → parseFieldDescriptor (TX9 k).2.2.1 = some (tyX9 k) := by decide +kernel
abbrev cX9_init : ByteArray := prog_11_method_1_code
def yX9_init : MethodName := ⟨RX9, "<init>", "()V"⟩
abbrev cX9_empty : ByteArray := prog_11_method_2_code
def yX9_empty : MethodName := ⟨RX9, "empty", "()V"⟩
abbrev cX9_openClause : ByteArray := prog_11_method_3_code
def yX9_openClause : MethodName := ⟨RX9, "openClause", "(I)V"⟩
abbrev cX9_addPart : ByteArray := prog_11_method_4_code
def yX9_addPart : MethodName := ⟨RX9, "addPart", "(I)V"⟩
abbrev cX9_part : ByteArray := prog_11_method_5_code
def yX9_part : MethodName := ⟨RX9, "part", "(II)I"⟩
abbrev cX9_closeLaw : ByteArray := prog_11_method_6_code
def yX9_closeLaw : MethodName := ⟨RX9, "closeLaw", "(I)V"⟩
abbrev cX9_begun : ByteArray := prog_11_method_7_code
def yX9_begun : MethodName := ⟨RX9, "begun", "(I)Z"⟩
abbrev cX9_put : ByteArray := prog_11_method_8_code
def yX9_put : MethodName := ⟨RX9, "put", "(II)V"⟩
abbrev cX9_putLeap : ByteArray := prog_11_method_9_code
def yX9_putLeap : MethodName := ⟨RX9, "putLeap", "(I)I"⟩
abbrev cX9_leapsHere : ByteArray := prog_11_method_10_code
def yX9_leapsHere : MethodName := ⟨RX9, "leapsHere", "(II)V"⟩
abbrev cX9_value : ByteArray := prog_11_method_11_code
def yX9_value : MethodName := ⟨RX9, "value", "(I[ILWolfsHead$Folk;[I)I"⟩
abbrev cX9_ofOne : ByteArray := prog_11_method_12_code
def yX9_ofOne : MethodName := ⟨RX9, "ofOne", "(II)I"⟩
abbrev cX9_ofTwo : ByteArray := prog_11_method_13_code
def yX9_ofTwo : MethodName := ⟨RX9, "ofTwo", "(III)I"⟩
def RX10 : String := "WolfsHead$Ways"
def TX10 : u_T := fun k => match k with
  | 0 => ("WolfsHead$Ways", "upper", "I", false)
  | 1 => ("WolfsHead$Ways", "lower", "I", false)
  | 2 => ("WolfsHead$Ways", "gone", "I", false)
  | 3 => ("WolfsHead$Ways", "may", "I", false)
  | 4 => ("WolfsHead$Ways", "must", "I", false)
  | 5 => ("WolfsHead$Ways", "lives", "[I", true)
  | 6 => ("WolfsHead$Ways", "best", "[I", true)
  | 7 => ("WolfsHead$Ways", "way", "[I", true)
  | 8 => ("WolfsHead$Ways", "ends", "[I", true)
  | _ => ("WolfsHead$Ways", "begins", "[I", true)
def tyX10 : Nat → FieldType := fun k => match k with
  | 0 => .int
  | 1 => .int
  | 2 => .int
  | 3 => .int
  | 4 => .int
  | 5 => .array .int
  | 6 => .array .int
  | 7 => .array .int
  | 8 => .array .int
  | _ => .array .int
theorem nmX10 : ∀ a, a < 10 → ∀ b, b < 10 → a ≠ b → (TX10 a).2.1 ≠ (TX10 b).2.1 := by decide +kernel
theorem tyX10_ok : ∀ k, k < 10 → parseFieldDescriptor (TX10 k).2.2.1 = some (tyX10 k) := by decide +kernel
abbrev cX10_init : ByteArray := prog_12_method_1_code
def yX10_init : MethodName := ⟨RX10, "<init>", "()V"⟩
abbrev cX10_seekSurest : ByteArray := prog_12_method_2_code
def yX10_seekSurest : MethodName := ⟨RX10, "seekSurest", "(LWolfsHead$Realm;LWolfsHead$Laws;II)V"⟩
abbrev cX10_bestFrom : ByteArray := prog_12_method_3_code
def yX10_bestFrom : MethodName := ⟨RX10, "bestFrom", "(LWolfsHead$Lands;II)I"⟩
abbrev cX10_bestAfter : ByteArray := prog_12_method_4_code
def yX10_bestAfter : MethodName := ⟨RX10, "bestAfter", "(II)I"⟩
abbrev cX10_follow : ByteArray := prog_12_method_5_code
def yX10_follow : MethodName := ⟨RX10, "follow", "(LWolfsHead$Lands;II)V"⟩
abbrev cX10_landAt : ByteArray := prog_12_method_6_code
def yX10_landAt : MethodName := ⟨RX10, "landAt", "(I)I"⟩
abbrev cX10_countInCrowd : ByteArray := prog_12_method_7_code
def yX10_countInCrowd : MethodName := ⟨RX10, "countInCrowd", "(LWolfsHead$Lands;LWolfsHead$Notes;II)V"⟩
abbrev cX10_clear : ByteArray := prog_12_method_8_code
def yX10_clear : MethodName := ⟨RX10, "clear", "([I)V"⟩
abbrev cX10_comeTo : ByteArray := prog_12_method_9_code
def yX10_comeTo : MethodName := ⟨RX10, "comeTo", "(IIII)V"⟩
abbrev cX10_sumUp : ByteArray := prog_12_method_10_code
def yX10_sumUp : MethodName := ⟨RX10, "sumUp", "(I)V"⟩
def RX11 : String := "WolfsHead"
def TX11 : u_T := fun k => match k with
  | 0 => ("WolfsHead", "realm", "LWolfsHead$Realm;", true)
  | 1 => ("WolfsHead", "kept", "LWolfsHead$Realm;", true)
  | 2 => ("WolfsHead", "texts", "[LWolfsHead$Text;", true)
  | 3 => ("WolfsHead", "tape", "LWolfsHead$Tape;", true)
  | 4 => ("WolfsHead", "reader", "LWolfsHead$Reader;", true)
  | 5 => ("WolfsHead", "laws", "LWolfsHead$Laws;", true)
  | 6 => ("WolfsHead", "folk", "LWolfsHead$Folk;", true)
  | 7 => ("WolfsHead", "lands", "LWolfsHead$Lands;", true)
  | 8 => ("WolfsHead", "notes", "LWolfsHead$Notes;", true)
  | 9 => ("WolfsHead", "taken", "LWolfsHead$Steps;", true)
  | 10 => ("WolfsHead", "deeds", "LWolfsHead$Deeds;", true)
  | 11 => ("WolfsHead", "dreamt", "LWolfsHead$Folk;", true)
  | 12 => ("WolfsHead", "dream", "LWolfsHead$Deeds;", true)
  | _ => ("WolfsHead", "ways", "LWolfsHead$Ways;", true)
def tyX11 : Nat → FieldType := fun k => match k with
  | 0 => .object "WolfsHead$Realm"
  | 1 => .object "WolfsHead$Realm"
  | 2 => .array (.object "WolfsHead$Text")
  | 3 => .object "WolfsHead$Tape"
  | 4 => .object "WolfsHead$Reader"
  | 5 => .object "WolfsHead$Laws"
  | 6 => .object "WolfsHead$Folk"
  | 7 => .object "WolfsHead$Lands"
  | 8 => .object "WolfsHead$Notes"
  | 9 => .object "WolfsHead$Steps"
  | 10 => .object "WolfsHead$Deeds"
  | 11 => .object "WolfsHead$Folk"
  | 12 => .object "WolfsHead$Deeds"
  | _ => .object "WolfsHead$Ways"
theorem nmX11 : ∀ a, a < 14 → ∀ b, b < 14 → a ≠ b → (TX11 a).2.1 ≠ (TX11 b).2.1 := by decide +kernel
theorem tyX11_ok : ∀ k, k < 14 → parseFieldDescriptor (TX11 k).2.2.1 = some (tyX11 k) := by decide +kernel
abbrev cX11_init : ByteArray := prog_1_method_1_code
def yX11_init : MethodName := ⟨RX11, "<init>", "()V"⟩
abbrev cX11_land : ByteArray := prog_1_method_2_code
def yX11_land : MethodName := ⟨RX11, "land", "(I)I"⟩
abbrev cX11_road : ByteArray := prog_1_method_3_code
def yX11_road : MethodName := ⟨RX11, "road", "(II)Z"⟩
abbrev cX11_person : ByteArray := prog_1_method_4_code
def yX11_person : MethodName := ⟨RX11, "person", "(IIII)I"⟩
abbrev cX11_feed : ByteArray := prog_1_method_5_code
def yX11_feed : MethodName := ⟨RX11, "feed", "(IIIII)I"⟩
abbrev cX11_end : ByteArray := prog_1_method_6_code
def yX11_end : MethodName := ⟨RX11, "end", "(I)I"⟩
abbrev cX11_text : ByteArray := prog_1_method_7_code
def yX11_text : MethodName := ⟨RX11, "text", "()I"⟩
abbrev cX11_fault : ByteArray := prog_1_method_8_code
def yX11_fault : MethodName := ⟨RX11, "fault", "(I)I"⟩
abbrev cX11_by : ByteArray := prog_1_method_9_code
def yX11_by : MethodName := ⟨RX11, "by", "(I)Z"⟩
abbrev cX11_textTold : ByteArray := prog_1_method_10_code
def yX11_textTold : MethodName := ⟨RX11, "textTold", "(I)Z"⟩
abbrev cX11_call : ByteArray := prog_1_method_11_code
def yX11_call : MethodName := ⟨RX11, "call", "(II)I"⟩
abbrev cX11_move : ByteArray := prog_1_method_12_code
def yX11_move : MethodName := ⟨RX11, "move", "(II)Z"⟩
abbrev cX11_feeds : ByteArray := prog_1_method_13_code
def yX11_feeds : MethodName := ⟨RX11, "feeds", "(II)I"⟩
abbrev cX11_kill : ByteArray := prog_1_method_14_code
def yX11_kill : MethodName := ⟨RX11, "kill", "(II)Z"⟩
abbrev cX11_pardon : ByteArray := prog_1_method_15_code
def yX11_pardon : MethodName := ⟨RX11, "pardon", "(II)I"⟩
abbrev cX11_month : ByteArray := prog_1_method_16_code
def yX11_month : MethodName := ⟨RX11, "month", "(I)I"⟩
abbrev cX11_played : ByteArray := prog_1_method_17_code
def yX11_played : MethodName := ⟨RX11, "played", "(I)I"⟩
abbrev cX11_perform : ByteArray := prog_1_method_18_code
def yX11_perform : MethodName := ⟨RX11, "perform", "(LWolfsHead$Text;I)Z"⟩
abbrev cX11_passAll : ByteArray := prog_1_method_19_code
def yX11_passAll : MethodName := ⟨RX11, "passAll", "(I)Z"⟩
abbrev cX11_reigns : ByteArray := prog_1_method_20_code
def yX11_reigns : MethodName := ⟨RX11, "reigns", "(II)I"⟩
abbrev cX11_reignOnce : ByteArray := prog_1_method_21_code
def yX11_reignOnce : MethodName := ⟨RX11, "reignOnce", "()V"⟩
abbrev cX11_undo : ByteArray := prog_1_method_22_code
def yX11_undo : MethodName := ⟨RX11, "undo", "()I"⟩
abbrev cX11_of : ByteArray := prog_1_method_23_code
def yX11_of : MethodName := ⟨RX11, "of", "(II)I"⟩
abbrev cX11_ofLand : ByteArray := prog_1_method_24_code
def yX11_ofLand : MethodName := ⟨RX11, "ofLand", "(II)I"⟩
abbrev cX11_is : ByteArray := prog_1_method_25_code
def yX11_is : MethodName := ⟨RX11, "is", "(I)I"⟩
abbrev cX11_book : ByteArray := prog_1_method_26_code
def yX11_book : MethodName := ⟨RX11, "book", "(II)I"⟩
abbrev cX11_foretold : ByteArray := prog_1_method_27_code
def yX11_foretold : MethodName := ⟨RX11, "foretold", "(IIZ)I"⟩
abbrev cX11_toPay : ByteArray := prog_1_method_28_code
def yX11_toPay : MethodName := ⟨RX11, "toPay", "(II)I"⟩
abbrev cX11_surest : ByteArray := prog_1_method_29_code
def yX11_surest : MethodName := ⟨RX11, "surest", "(III)I"⟩
abbrev cX11_steps : ByteArray := prog_1_method_30_code
def yX11_steps : MethodName := ⟨RX11, "steps", "(II)I"⟩
abbrev cX11_unheard : ByteArray := prog_1_method_31_code
def yX11_unheard : MethodName := ⟨RX11, "unheard", "(II)I"⟩
abbrev cX11_crowd : ByteArray := prog_1_method_32_code
def yX11_crowd : MethodName := ⟨RX11, "crowd", "(I)I"⟩
abbrev cX11_inCrowd : ByteArray := prog_1_method_33_code
def yX11_inCrowd : MethodName := ⟨RX11, "inCrowd", "(III)I"⟩
abbrev cX11_helpers : ByteArray := prog_1_method_34_code
def yX11_helpers : MethodName := ⟨RX11, "helpers", "()I"⟩
abbrev cX11_watch : ByteArray := prog_1_method_35_code
def yX11_watch : MethodName := ⟨RX11, "watch", "(II)I"⟩
abbrev cX11_borders : ByteArray := prog_1_method_36_code
def yX11_borders : MethodName := ⟨RX11, "borders", "(I)Z"⟩
abbrev cX11_toBorder : ByteArray := prog_1_method_37_code
def yX11_toBorder : MethodName := ⟨RX11, "toBorder", "(I)I"⟩
abbrev cX11_reports : ByteArray := prog_1_method_38_code
def yX11_reports : MethodName := ⟨RX11, "reports", "(I)Z"⟩
abbrev cX11_unlike : ByteArray := prog_1_method_39_code
def yX11_unlike : MethodName := ⟨RX11, "unlike", "(II)I"⟩
abbrev cX11_heads : ByteArray := prog_1_method_40_code
def yX11_heads : MethodName := ⟨RX11, "heads", "(I)I"⟩
abbrev cX11_has : ByteArray := prog_1_method_41_code
def yX11_has : MethodName := ⟨RX11, "has", "(ZIII)Z"⟩
abbrev cX11_rests : ByteArray := prog_1_method_42_code
def yX11_rests : MethodName := ⟨RX11, "rests", "()I"⟩
abbrev cX11_mixed : ByteArray := prog_1_method_43_code
def yX11_mixed : MethodName := ⟨RX11, "mixed", "(Z)I"⟩
abbrev cX11_befell : ByteArray := prog_1_method_44_code
def yX11_befell : MethodName := ⟨RX11, "befell", "(II)I"⟩
abbrev cX11_heirs : ByteArray := prog_1_method_45_code
def yX11_heirs : MethodName := ⟨RX11, "heirs", "(I)I"⟩
abbrev cX11_feared : ByteArray := prog_1_method_46_code
def yX11_feared : MethodName := ⟨RX11, "feared", "()I"⟩
abbrev cX11_wolves : ByteArray := prog_1_method_47_code
def yX11_wolves : MethodName := ⟨RX11, "wolves", "()I"⟩
abbrev cX11_paid : ByteArray := prog_1_method_48_code
def yX11_paid : MethodName := ⟨RX11, "paid", "(II)I"⟩
abbrev cX11_whose : ByteArray := prog_1_method_49_code
def yX11_whose : MethodName := ⟨RX11, "whose", "()I"⟩
abbrev cX11_explains : ByteArray := prog_1_method_50_code
def yX11_explains : MethodName := ⟨RX11, "explains", "(I)Z"⟩
abbrev cX11_image : ByteArray := prog_1_method_51_code
def yX11_image : MethodName := ⟨RX11, "image", "()I"⟩
abbrev cX11_back : ByteArray := prog_1_method_52_code
def yX11_back : MethodName := ⟨RX11, "back", "()I"⟩
abbrev cX11_about : ByteArray := prog_1_method_53_code
def yX11_about : MethodName := ⟨RX11, "about", "(I)I"⟩
abbrev cX11_commonDivisor : ByteArray := prog_1_method_54_code
def yX11_commonDivisor : MethodName := ⟨RX11, "commonDivisor", "(II)I"⟩
def RX12 : String := "WolfsHeadModel"
def TX12 : u_T := fun k => match k with
  | 0 => ("WolfsHeadModel", "a", "[I", true)
  | 1 => ("WolfsHeadModel", "image", "[I", true)
  | 2 => ("WolfsHeadModel", "texts", "[I", true)
  | 3 => ("WolfsHeadModel", "tape", "[I", true)
  | 4 => ("WolfsHeadModel", "taped", "I", false)
  | 5 => ("WolfsHeadModel", "fault", "I", false)
  | 6 => ("WolfsHeadModel", "faultPlace", "I", false)
  | 7 => ("WolfsHeadModel", "at", "I", false)
  | 8 => ("WolfsHeadModel", "place", "I", false)
  | 9 => ("WolfsHeadModel", "token", "I", false)
  | 10 => ("WolfsHeadModel", "number", "I", false)
  | 11 => ("WolfsHeadModel", "word", "J", false)
  | 12 => ("WolfsHeadModel", "text0", "I", false)
  | 13 => ("WolfsHeadModel", "written", "I", false)
  | 14 => ("WolfsHeadModel", "sort0", "I", false)
  | 15 => ("WolfsHeadModel", "pile", "[I", true)
  | 16 => ("WolfsHeadModel", "piled", "I", false)
  | 17 => ("WolfsHeadModel", "opens", "I", false)
  | 18 => ("WolfsHeadModel", "isWhole", "Z", false)
  | 19 => ("WolfsHeadModel", "once", "I", false)
  | 20 => ("WolfsHeadModel", "named", "[I", true)
  | 21 => ("WolfsHeadModel", "values", "[J", true)
  | 22 => ("WolfsHeadModel", "truth", "[Z", true)
  | 23 => ("WolfsHeadModel", "isWritten", "Z", false)
  | 24 => ("WolfsHeadModel", "died", "I", false)
  | 25 => ("WolfsHeadModel", "aside", "[I", true)
  | 26 => ("WolfsHeadModel", "likely", "[I", true)
  | 27 => ("WolfsHeadModel", "safe", "[I", true)
  | _ => ("WolfsHeadModel", "headOf", "[I", true)
def tyX12 : Nat → FieldType := fun k => match k with
  | 0 => .array .int
  | 1 => .array .int
  | 2 => .array .int
  | 3 => .array .int
  | 4 => .int
  | 5 => .int
  | 6 => .int
  | 7 => .int
  | 8 => .int
  | 9 => .int
  | 10 => .int
  | 11 => .long
  | 12 => .int
  | 13 => .int
  | 14 => .int
  | 15 => .array .int
  | 16 => .int
  | 17 => .int
  | 18 => .boolean
  | 19 => .int
  | 20 => .array .int
  | 21 => .array .long
  | 22 => .array .boolean
  | 23 => .boolean
  | 24 => .int
  | 25 => .array .int
  | 26 => .array .int
  | 27 => .array .int
  | _ => .array .int
theorem nmX12 : ∀ a, a < 29 → ∀ b, b < 29 → a ≠ b → (TX12 a).2.1 ≠ (TX12 b).2.1 := by decide +kernel
theorem tyX12_ok : ∀ k, k < 29 → parseFieldDescriptor (TX12 k).2.2.1 = some (tyX12 k) := by decide +kernel
abbrev cX12_init : ByteArray := prog_14_method_1_code
def yX12_init : MethodName := ⟨RX12, "<init>", "()V"⟩
abbrev cX12_copy : ByteArray := prog_14_method_2_code
def yX12_copy : MethodName := ⟨RX12, "copy", "([I[I)V"⟩
abbrev cX12_isIn : ByteArray := prog_14_method_3_code
def yX12_isIn : MethodName := ⟨RX12, "isIn", "(III)Z"⟩
abbrev cX12_cut : ByteArray := prog_14_method_4_code
def yX12_cut : MethodName := ⟨RX12, "cut", "(JII)I"⟩
abbrev cX12_isWith : ByteArray := prog_14_method_5_code
def yX12_isWith : MethodName := ⟨RX12, "isWith", "(II)Z"⟩
abbrev cX12_bits : ByteArray := prog_14_method_6_code
def yX12_bits : MethodName := ⟨RX12, "bits", "(J)I"⟩
abbrev cX12_isLand : ByteArray := prog_14_method_7_code
def yX12_isLand : MethodName := ⟨RX12, "isLand", "(I)Z"⟩
abbrev cX12_isPerson : ByteArray := prog_14_method_8_code
def yX12_isPerson : MethodName := ⟨RX12, "isPerson", "(I)Z"⟩
abbrev cX12_get : ByteArray := prog_14_method_9_code
def yX12_get : MethodName := ⟨RX12, "get", "(II)I"⟩
abbrev cX12_put : ByteArray := prog_14_method_10_code
def yX12_put : MethodName := ⟨RX12, "put", "(III)V"⟩
abbrev cX12_isOutlaw : ByteArray := prog_14_method_11_code
def yX12_isOutlaw : MethodName := ⟨RX12, "isOutlaw", "(I)Z"⟩
abbrev cX12_isAlive : ByteArray := prog_14_method_12_code
def yX12_isAlive : MethodName := ⟨RX12, "isAlive", "(I)Z"⟩
abbrev cX12_land : ByteArray := prog_14_method_13_code
def yX12_land : MethodName := ⟨RX12, "land", "(I)I"⟩
abbrev cX12_road : ByteArray := prog_14_method_14_code
def yX12_road : MethodName := ⟨RX12, "road", "(II)Z"⟩
abbrev cX12_person : ByteArray := prog_14_method_15_code
def yX12_person : MethodName := ⟨RX12, "person", "(IIII)I"⟩
abbrev cX12_begin : ByteArray := prog_14_method_16_code
def yX12_begin : MethodName := ⟨RX12, "begin", "(I)V"⟩
abbrev cX12_four : ByteArray := prog_14_method_17_code
def yX12_four : MethodName := ⟨RX12, "four", "(I)V"⟩
abbrev cX12_feed : ByteArray := prog_14_method_18_code
def yX12_feed : MethodName := ⟨RX12, "feed", "(IIIII)I"⟩
abbrev cX12_end : ByteArray := prog_14_method_19_code
def yX12_end : MethodName := ⟨RX12, "end", "(I)I"⟩
abbrev cX12_byteAt : ByteArray := prog_14_method_20_code
def yX12_byteAt : MethodName := ⟨RX12, "byteAt", "(I)I"⟩
abbrev cX12_isLetterByte : ByteArray := prog_14_method_21_code
def yX12_isLetterByte : MethodName := ⟨RX12, "isLetterByte", "(I)Z"⟩
abbrev cX12_isFigure : ByteArray := prog_14_method_22_code
def yX12_isFigure : MethodName := ⟨RX12, "isFigure", "(I)Z"⟩
abbrev cX12_isSign : ByteArray := prog_14_method_23_code
def yX12_isSign : MethodName := ⟨RX12, "isSign", "(I)Z"⟩
abbrev cX12_nextToken : ByteArray := prog_14_method_24_code
def yX12_nextToken : MethodName := ⟨RX12, "nextToken", "()V"⟩
abbrev cX12_w2 : ByteArray := prog_14_method_25_code
def yX12_w2 : MethodName := ⟨RX12, "w2", "(II)J"⟩
abbrev cX12_w3 : ByteArray := prog_14_method_26_code
def yX12_w3 : MethodName := ⟨RX12, "w3", "(III)J"⟩
abbrev cX12_w4 : ByteArray := prog_14_method_27_code
def yX12_w4 : MethodName := ⟨RX12, "w4", "(IIII)J"⟩
abbrev cX12_w5 : ByteArray := prog_14_method_28_code
def yX12_w5 : MethodName := ⟨RX12, "w5", "(IIIII)J"⟩
abbrev cX12_w6 : ByteArray := prog_14_method_29_code
def yX12_w6 : MethodName := ⟨RX12, "w6", "(IIIIII)J"⟩
abbrev cX12_isWord : ByteArray := prog_14_method_30_code
def yX12_isWord : MethodName := ⟨RX12, "isWord", "(J)Z"⟩
abbrev cX12_emit : ByteArray := prog_14_method_31_code
def yX12_emit : MethodName := ⟨RX12, "emit", "(II)V"⟩
abbrev cX12_nameOf : ByteArray := prog_14_method_32_code
def yX12_nameOf : MethodName := ⟨RX12, "nameOf", "()I"⟩
abbrev cX12_isOf : ByteArray := prog_14_method_33_code
def yX12_isOf : MethodName := ⟨RX12, "isOf", "(I)Z"⟩
abbrev cX12_rank : ByteArray := prog_14_method_34_code
def yX12_rank : MethodName := ⟨RX12, "rank", "(I)I"⟩
abbrev cX12_settle : ByteArray := prog_14_method_35_code
def yX12_settle : MethodName := ⟨RX12, "settle", "(I)V"⟩
abbrev cX12_openAt : ByteArray := prog_14_method_36_code
def yX12_openAt : MethodName := ⟨RX12, "openAt", "()I"⟩
abbrev cX12_openNow : ByteArray := prog_14_method_37_code
def yX12_openNow : MethodName := ⟨RX12, "openNow", "()I"⟩
abbrev cX12_isCompared : ByteArray := prog_14_method_38_code
def yX12_isCompared : MethodName := ⟨RX12, "isCompared", "()Z"⟩
abbrev cX12_isAskAhead : ByteArray := prog_14_method_39_code
def yX12_isAskAhead : MethodName := ⟨RX12, "isAskAhead", "()Z"⟩
abbrev cX12_opened : ByteArray := prog_14_method_40_code
def yX12_opened : MethodName := ⟨RX12, "opened", "(I)I"⟩
abbrev cX12_beginOne : ByteArray := prog_14_method_41_code
def yX12_beginOne : MethodName := ⟨RX12, "beginOne", "()I"⟩
abbrev cX12_compareOf : ByteArray := prog_14_method_42_code
def yX12_compareOf : MethodName := ⟨RX12, "compareOf", "()I"⟩
abbrev cX12_betweenOf : ByteArray := prog_14_method_43_code
def yX12_betweenOf : MethodName := ⟨RX12, "betweenOf", "()I"⟩
abbrev cX12_partOf : ByteArray := prog_14_method_44_code
def yX12_partOf : MethodName := ⟨RX12, "partOf", "(I)I"⟩
abbrev cX12_behindOne : ByteArray := prog_14_method_45_code
def yX12_behindOne : MethodName := ⟨RX12, "behindOne", "()Z"⟩
abbrev cX12_summed : ByteArray := prog_14_method_46_code
def yX12_summed : MethodName := ⟨RX12, "summed", "()I"⟩
abbrev cX12_figure : ByteArray := prog_14_method_47_code
def yX12_figure : MethodName := ⟨RX12, "figure", "(III)I"⟩
abbrev cX12_worded : ByteArray := prog_14_method_48_code
def yX12_worded : MethodName := ⟨RX12, "worded", "(JII)I"⟩
abbrev cX12_lawClause : ByteArray := prog_14_method_49_code
def yX12_lawClause : MethodName := ⟨RX12, "lawClause", "(I)I"⟩
abbrev cX12_personClause : ByteArray := prog_14_method_50_code
def yX12_personClause : MethodName := ⟨RX12, "personClause", "(I)I"⟩
abbrev cX12_pair : ByteArray := prog_14_method_51_code
def yX12_pair : MethodName := ⟨RX12, "pair", "(IIJI)I"⟩
abbrev cX12_body : ByteArray := prog_14_method_52_code
def yX12_body : MethodName := ⟨RX12, "body", "(II)I"⟩
abbrev cX12_isHungers : ByteArray := prog_14_method_53_code
def yX12_isHungers : MethodName := ⟨RX12, "isHungers", "()Z"⟩
abbrev cX12_sortOf : ByteArray := prog_14_method_54_code
def yX12_sortOf : MethodName := ⟨RX12, "sortOf", "()I"⟩
abbrev cX12_clause : ByteArray := prog_14_method_55_code
def yX12_clause : MethodName := ⟨RX12, "clause", "()I"⟩
abbrev cX12_readText : ByteArray := prog_14_method_56_code
def yX12_readText : MethodName := ⟨RX12, "readText", "()I"⟩
abbrev cX12_text : ByteArray := prog_14_method_57_code
def yX12_text : MethodName := ⟨RX12, "text", "()I"⟩
abbrev cX12_fault : ByteArray := prog_14_method_58_code
def yX12_fault : MethodName := ⟨RX12, "fault", "(I)I"⟩
abbrev cX12_by : ByteArray := prog_14_method_59_code
def yX12_by : MethodName := ⟨RX12, "by", "(I)Z"⟩
abbrev cX12_clip : ByteArray := prog_14_method_60_code
def yX12_clip : MethodName := ⟨RX12, "clip", "(J)J"⟩
abbrev cX12_two : ByteArray := prog_14_method_61_code
def yX12_two : MethodName := ⟨RX12, "two", "(IJJ)J"⟩
abbrev cX12_isAsked : ByteArray := prog_14_method_62_code
def yX12_isAsked : MethodName := ⟨RX12, "isAsked", "(IJJ)Z"⟩
abbrev cX12_fearOf : ByteArray := prog_14_method_63_code
def yX12_fearOf : MethodName := ⟨RX12, "fearOf", "(J)J"⟩
abbrev cX12_prefixed : ByteArray := prog_14_method_64_code
def yX12_prefixed : MethodName := ⟨RX12, "prefixed", "(IJ)J"⟩
abbrev cX12_joined : ByteArray := prog_14_method_65_code
def yX12_joined : MethodName := ⟨RX12, "joined", "(IZZ)Z"⟩
abbrev cX12_summedUp : ByteArray := prog_14_method_66_code
def yX12_summedUp : MethodName := ⟨RX12, "summedUp", "(II)J"⟩
abbrev cX12_says : ByteArray := prog_14_method_67_code
def yX12_says : MethodName := ⟨RX12, "says", "(IIII)I"⟩
abbrev cX12_crowdOf : ByteArray := prog_14_method_68_code
def yX12_crowdOf : MethodName := ⟨RX12, "crowdOf", "(II)I"⟩
abbrev cX12_nameIn : ByteArray := prog_14_method_69_code
def yX12_nameIn : MethodName := ⟨RX12, "nameIn", "(II)V"⟩
abbrev cX12_hungersOf : ByteArray := prog_14_method_70_code
def yX12_hungersOf : MethodName := ⟨RX12, "hungersOf", "(I)I"⟩
abbrev cX12_findsIn : ByteArray := prog_14_method_71_code
def yX12_findsIn : MethodName := ⟨RX12, "findsIn", "(II)I"⟩
abbrev cX12_findsOf : ByteArray := prog_14_method_72_code
def yX12_findsOf : MethodName := ⟨RX12, "findsOf", "(I)I"⟩
abbrev cX12_priceOf : ByteArray := prog_14_method_73_code
def yX12_priceOf : MethodName := ⟨RX12, "priceOf", "(II)I"⟩
abbrev cX12_earnsOf : ByteArray := prog_14_method_74_code
def yX12_earnsOf : MethodName := ⟨RX12, "earnsOf", "(I)I"⟩
abbrev cX12_write : ByteArray := prog_14_method_75_code
def yX12_write : MethodName := ⟨RX12, "write", "(II)V"⟩
abbrev cX12_drawn : ByteArray := prog_14_method_76_code
def yX12_drawn : MethodName := ⟨RX12, "drawn", "(I)I"⟩
abbrev cX12_anew : ByteArray := prog_14_method_77_code
def yX12_anew : MethodName := ⟨RX12, "anew", "()V"⟩
abbrev cX12_die : ByteArray := prog_14_method_78_code
def yX12_die : MethodName := ⟨RX12, "die", "(II)V"⟩
abbrev cX12_live : ByteArray := prog_14_method_79_code
def yX12_live : MethodName := ⟨RX12, "live", "(I)V"⟩
abbrev cX12_goOn : ByteArray := prog_14_method_80_code
def yX12_goOn : MethodName := ⟨RX12, "goOn", "()V"⟩
abbrev cX12_keep : ByteArray := prog_14_method_81_code
def yX12_keep : MethodName := ⟨RX12, "keep", "()V"⟩
abbrev cX12_undo : ByteArray := prog_14_method_82_code
def yX12_undo : MethodName := ⟨RX12, "undo", "()I"⟩
abbrev cX12_canCall : ByteArray := prog_14_method_83_code
def yX12_canCall : MethodName := ⟨RX12, "canCall", "(II)Z"⟩
abbrev cX12_callNow : ByteArray := prog_14_method_84_code
def yX12_callNow : MethodName := ⟨RX12, "callNow", "(II)V"⟩
abbrev cX12_call : ByteArray := prog_14_method_85_code
def yX12_call : MethodName := ⟨RX12, "call", "(II)I"⟩
abbrev cX12_canMove : ByteArray := prog_14_method_86_code
def yX12_canMove : MethodName := ⟨RX12, "canMove", "(II)Z"⟩
abbrev cX12_move : ByteArray := prog_14_method_87_code
def yX12_move : MethodName := ⟨RX12, "move", "(II)Z"⟩
abbrev cX12_areBeside : ByteArray := prog_14_method_88_code
def yX12_areBeside : MethodName := ⟨RX12, "areBeside", "(II)Z"⟩
abbrev cX12_feedNow : ByteArray := prog_14_method_89_code
def yX12_feedNow : MethodName := ⟨RX12, "feedNow", "(II)V"⟩
abbrev cX12_feeds : ByteArray := prog_14_method_90_code
def yX12_feeds : MethodName := ⟨RX12, "feeds", "(II)I"⟩
abbrev cX12_pardonNow : ByteArray := prog_14_method_91_code
def yX12_pardonNow : MethodName := ⟨RX12, "pardonNow", "(I)V"⟩
abbrev cX12_killNow : ByteArray := prog_14_method_92_code
def yX12_killNow : MethodName := ⟨RX12, "killNow", "(II)V"⟩
abbrev cX12_kill : ByteArray := prog_14_method_93_code
def yX12_kill : MethodName := ⟨RX12, "kill", "(II)Z"⟩
abbrev cX12_canPardon : ByteArray := prog_14_method_94_code
def yX12_canPardon : MethodName := ⟨RX12, "canPardon", "(II)Z"⟩
abbrev cX12_payNow : ByteArray := prog_14_method_95_code
def yX12_payNow : MethodName := ⟨RX12, "payNow", "(II)I"⟩
abbrev cX12_pardon : ByteArray := prog_14_method_96_code
def yX12_pardon : MethodName := ⟨RX12, "pardon", "(II)I"⟩
abbrev cX12_arePassed : ByteArray := prog_14_method_97_code
def yX12_arePassed : MethodName := ⟨RX12, "arePassed", "(I)Z"⟩
abbrev cX12_month : ByteArray := prog_14_method_98_code
def yX12_month : MethodName := ⟨RX12, "month", "(I)I"⟩
abbrev cX12_isPlayed : ByteArray := prog_14_method_99_code
def yX12_isPlayed : MethodName := ⟨RX12, "isPlayed", "(I)Z"⟩
abbrev cX12_played : ByteArray := prog_14_method_100_code
def yX12_played : MethodName := ⟨RX12, "played", "(I)I"⟩
abbrev cX12_happens : ByteArray := prog_14_method_101_code
def yX12_happens : MethodName := ⟨RX12, "happens", "(I)V"⟩
abbrev cX12_reigns : ByteArray := prog_14_method_102_code
def yX12_reigns : MethodName := ⟨RX12, "reigns", "(II)I"⟩
abbrev cX12_of : ByteArray := prog_14_method_103_code
def yX12_of : MethodName := ⟨RX12, "of", "(II)I"⟩
abbrev cX12_aliveIn : ByteArray := prog_14_method_104_code
def yX12_aliveIn : MethodName := ⟨RX12, "aliveIn", "(I)I"⟩
abbrev cX12_ofLand : ByteArray := prog_14_method_105_code
def yX12_ofLand : MethodName := ⟨RX12, "ofLand", "(II)I"⟩
abbrev cX12_is : ByteArray := prog_14_method_106_code
def yX12_is : MethodName := ⟨RX12, "is", "(I)I"⟩
abbrev cX12_shown : ByteArray := prog_14_method_107_code
def yX12_shown : MethodName := ⟨RX12, "shown", "()I"⟩
abbrev cX12_entry : ByteArray := prog_14_method_108_code
def yX12_entry : MethodName := ⟨RX12, "entry", "(II)I"⟩
abbrev cX12_book : ByteArray := prog_14_method_109_code
def yX12_book : MethodName := ⟨RX12, "book", "(II)I"⟩
abbrev cX12_befell : ByteArray := prog_14_method_110_code
def yX12_befell : MethodName := ⟨RX12, "befell", "(II)I"⟩
abbrev cX12_heirs : ByteArray := prog_14_method_111_code
def yX12_heirs : MethodName := ⟨RX12, "heirs", "(I)I"⟩
abbrev cX12_wolves : ByteArray := prog_14_method_112_code
def yX12_wolves : MethodName := ⟨RX12, "wolves", "()I"⟩
abbrev cX12_feared : ByteArray := prog_14_method_113_code
def yX12_feared : MethodName := ⟨RX12, "feared", "()I"⟩
abbrev cX12_setAside : ByteArray := prog_14_method_114_code
def yX12_setAside : MethodName := ⟨RX12, "setAside", "()V"⟩
abbrev cX12_putBack : ByteArray := prog_14_method_115_code
def yX12_putBack : MethodName := ⟨RX12, "putBack", "()V"⟩
abbrev cX12_foretold : ByteArray := prog_14_method_116_code
def yX12_foretold : MethodName := ⟨RX12, "foretold", "(IIZ)I"⟩
abbrev cX12_toPay : ByteArray := prog_14_method_117_code
def yX12_toPay : MethodName := ⟨RX12, "toPay", "(II)I"⟩
abbrev cX12_reachOf : ByteArray := prog_14_method_118_code
def yX12_reachOf : MethodName := ⟨RX12, "reachOf", "(I)I"⟩
abbrev cX12_nextFrom : ByteArray := prog_14_method_119_code
def yX12_nextFrom : MethodName := ⟨RX12, "nextFrom", "(II)I"⟩
abbrev cX12_lowestFrom : ByteArray := prog_14_method_120_code
def yX12_lowestFrom : MethodName := ⟨RX12, "lowestFrom", "(I)I"⟩
abbrev cX12_layLikely : ByteArray := prog_14_method_121_code
def yX12_layLikely : MethodName := ⟨RX12, "layLikely", "(II)V"⟩
abbrev cX12_common : ByteArray := prog_14_method_122_code
def yX12_common : MethodName := ⟨RX12, "common", "(II)I"⟩
abbrev cX12_surest : ByteArray := prog_14_method_123_code
def yX12_surest : MethodName := ⟨RX12, "surest", "(III)I"⟩
abbrev cX12_spread : ByteArray := prog_14_method_124_code
def yX12_spread : MethodName := ⟨RX12, "spread", "(II)I"⟩
abbrev cX12_steps : ByteArray := prog_14_method_125_code
def yX12_steps : MethodName := ⟨RX12, "steps", "(II)I"⟩
abbrev cX12_unheard : ByteArray := prog_14_method_126_code
def yX12_unheard : MethodName := ⟨RX12, "unheard", "(II)I"⟩
abbrev cX12_borders : ByteArray := prog_14_method_127_code
def yX12_borders : MethodName := ⟨RX12, "borders", "(I)Z"⟩
abbrev cX12_toBorder : ByteArray := prog_14_method_128_code
def yX12_toBorder : MethodName := ⟨RX12, "toBorder", "(I)I"⟩
abbrev cX12_helpers : ByteArray := prog_14_method_129_code
def yX12_helpers : MethodName := ⟨RX12, "helpers", "()I"⟩
abbrev cX12_isJoined : ByteArray := prog_14_method_130_code
def yX12_isJoined : MethodName := ⟨RX12, "isJoined", "(III)Z"⟩
abbrev cX12_watch : ByteArray := prog_14_method_131_code
def yX12_watch : MethodName := ⟨RX12, "watch", "(II)I"⟩
abbrev cX12_crowd : ByteArray := prog_14_method_132_code
def yX12_crowd : MethodName := ⟨RX12, "crowd", "(I)I"⟩
abbrev cX12_wasAt : ByteArray := prog_14_method_133_code
def yX12_wasAt : MethodName := ⟨RX12, "wasAt", "(II)I"⟩
abbrev cX12_inCrowd : ByteArray := prog_14_method_134_code
def yX12_inCrowd : MethodName := ⟨RX12, "inCrowd", "(III)I"⟩
abbrev cX12_reports : ByteArray := prog_14_method_135_code
def yX12_reports : MethodName := ⟨RX12, "reports", "(I)Z"⟩
abbrev cX12_unlike : ByteArray := prog_14_method_136_code
def yX12_unlike : MethodName := ⟨RX12, "unlike", "(II)I"⟩
abbrev cX12_canBe : ByteArray := prog_14_method_137_code
def yX12_canBe : MethodName := ⟨RX12, "canBe", "(II)Z"⟩
abbrev cX12_isExplained : ByteArray := prog_14_method_138_code
def yX12_isExplained : MethodName := ⟨RX12, "isExplained", "(I)Z"⟩
abbrev cX12_heads : ByteArray := prog_14_method_139_code
def yX12_heads : MethodName := ⟨RX12, "heads", "(I)I"⟩
abbrev cX12_has : ByteArray := prog_14_method_140_code
def yX12_has : MethodName := ⟨RX12, "has", "(ZIII)Z"⟩
abbrev cX12_rests : ByteArray := prog_14_method_141_code
def yX12_rests : MethodName := ⟨RX12, "rests", "()I"⟩
abbrev cX12_mixed : ByteArray := prog_14_method_142_code
def yX12_mixed : MethodName := ⟨RX12, "mixed", "(Z)I"⟩
abbrev cX12_paid : ByteArray := prog_14_method_143_code
def yX12_paid : MethodName := ⟨RX12, "paid", "(II)I"⟩
abbrev cX12_whose : ByteArray := prog_14_method_144_code
def yX12_whose : MethodName := ⟨RX12, "whose", "()I"⟩
abbrev cX12_image : ByteArray := prog_14_method_145_code
def yX12_image : MethodName := ⟨RX12, "image", "()I"⟩
abbrev cX12_back : ByteArray := prog_14_method_146_code
def yX12_back : MethodName := ⟨RX12, "back", "()I"⟩
abbrev cX12_about : ByteArray := prog_14_method_147_code
def yX12_about : MethodName := ⟨RX12, "about", "(I)I"⟩
def RJ6 : String := "java/lang/Integer"
abbrev cJ6_bitCount_0f7a4 : ByteArray := prog_15_method_49_code
def yJ6_bitCount_0f7a4 : MethodName := ⟨RJ6, "bitCount", "(I)I"⟩
def RJ9 : String := "java/lang/Math"
abbrev cJ9_abs_0f7a4 : ByteArray := prog_16_method_59_code
def yJ9_abs_0f7a4 : MethodName := ⟨RJ9, "abs", "(I)I"⟩
abbrev cJ9_max_7cf53 : ByteArray := prog_16_method_65_code
def yJ9_max_7cf53 : MethodName := ⟨RJ9, "max", "(II)I"⟩
abbrev cJ9_max_f86c9 : ByteArray := prog_16_method_66_code
def yJ9_max_f86c9 : MethodName := ⟨RJ9, "max", "(JJ)J"⟩
abbrev cJ9_min_7cf53 : ByteArray := prog_16_method_69_code
def yJ9_min_7cf53 : MethodName := ⟨RJ9, "min", "(II)I"⟩
abbrev cJ9_min_f86c9 : ByteArray := prog_16_method_70_code
def yJ9_min_f86c9 : MethodName := ⟨RJ9, "min", "(JJ)J"⟩
def RJ0 : String := "java/lang/String"
abbrev cJ0_length_8abf5 : ByteArray := prog_17_method_54_code
def yJ0_length_8abf5 : MethodName := ⟨RJ0, "length", "()I"⟩
abbrev cJ0_charAt_5068e : ByteArray := prog_17_method_56_code
def yJ0_charAt_5068e : MethodName := ⟨RJ0, "charAt", "(I)C"⟩
abbrev cJ0_coder_7d493 : ByteArray := prog_17_method_152_code
def yJ0_coder_7d493 : MethodName := ⟨RJ0, "coder", "()B"⟩
abbrev cJ0_isLatin1_aae02 : ByteArray := prog_17_method_154_code
def yJ0_isLatin1_aae02 : MethodName := ⟨RJ0, "isLatin1", "()Z"⟩
abbrev cJ0_checkIndex_df160 : ByteArray := prog_17_method_155_code
def yJ0_checkIndex_df160 : MethodName := ⟨RJ0, "checkIndex", "(II)V"⟩
def RJ1 : String := "java/lang/StringLatin1"
abbrev cJ1_charAt_3b067 : ByteArray := prog_18_method_2_code
def yJ1_charAt_3b067 : MethodName := ⟨RJ1, "charAt", "([BI)C"⟩
def RJ2 : String := "java/lang/StringUTF16"
abbrev cJ2_getChar_3b067 : ByteArray := prog_19_method_5_code
def yJ2_getChar_3b067 : MethodName := ⟨RJ2, "getChar", "([BI)C"⟩
abbrev cJ2_length_9d52b : ByteArray := prog_19_method_6_code
def yJ2_length_9d52b : MethodName := ⟨RJ2, "length", "([B)I"⟩
abbrev cJ2_charAt_3b067 : ByteArray := prog_19_method_83_code
def yJ2_charAt_3b067 : MethodName := ⟨RJ2, "charAt", "([BI)C"⟩
abbrev cJ2_checkIndex_2214a : ByteArray := prog_19_method_91_code
def yJ2_checkIndex_2214a : MethodName := ⟨RJ2, "checkIndex", "(I[B)V"⟩
def RJ10 : String := "java/lang/System"
def RJ3 : String := "jdk/internal/util/Preconditions"
abbrev cJ3_checkIndex_8e157 : ByteArray := prog_21_method_11_code
def yJ3_checkIndex_8e157 : MethodName := ⟨RJ3, "checkIndex", "(IILjava/util/function/BiFunction;)I"⟩
def RL : String := "WolfsHeadLaw"
abbrev cL_law : ByteArray := code
def yL_law : MethodName := ⟨RL, "law", "([I)Z"⟩
abbrev vwCl : List vw_C := [(RX0, TX0, 3), (RX1, TX1, 3), (RX2, TX2, 3), (RX3, TX3, 4), (RX4, TX4, 11), (RX5, TX5, 6), (RX6, TX6, 6), (RX7, TX7, 3), (RX8, TX8, 6), (RX9, TX9, 7), (RX10, TX10, 10), (RX11, TX11, 14), (RX12, TX12, 29)]
end
section
/-! one list of words for every method: its own code, then the tables' (those that outlast a step) -/
def lw_g : List Cond := lw_tbl.filter goodWord
theorem in_g {w : Cond} (h : w ∈ lw_tbl) (hg : goodWord w = true) : w ∈ lw_g := List.mem_filter.mpr ⟨h, hg⟩
theorem g_in {w : Cond} (h : w ∈ lw_g) : w ∈ lw_tbl := (List.mem_filter.mp h).1
def mw (y : MethodName) (b : ByteArray) (n : Nat) (r : Option FieldType) : List Cond := .code y b n r :: lw_g
theorem mw_good {y : MethodName} {b : ByteArray} {n : Nat} {r : Option FieldType} (h : Cond.code y b n r ∈ lw_g) : GoodIn lw_g (mw y b n r) := by
  intro w hw
  have hm : w ∈ lw_g := by
    rcases List.mem_cons.mp hw with h2 | h2
    · rw [h2]; exact h
    · exact h2
  exact ⟨hm, good_of_word (List.mem_filter.mp hm).2⟩
theorem at_k {w : Cond} (k : Nat) (h : lw_tbl[k]? = some w) (hg : goodWord w = true) : w ∈ lw_g := in_g (List.mem_of_getElem? h) hg
theorem all_k {ws : List Cond} (ps : List Nat) (hp : ws = ps.filterMap (fun i => lw_tbl[i]?)) (hg : ws.all goodWord = true) : ∀ w ∈ ws, w ∈ lw_g := by
  intro w hw
  refine in_g ?_ (List.all_eq_true.mp hg w hw)
  rw [hp] at hw
  obtain ⟨i, -, hi⟩ := List.mem_filterMap.mp hw
  exact List.mem_of_getElem? hi
/-! contracts: a world before, a world behind, an answer -/
abbrev mPre (D : va_G) (tys : List (ClassId × FieldType)) (w : va_W) (sz : Nat) (vs : List Value) : Array Value → State → Prop := va_Pc vs (fun U => U.heap.size = sz ∧ va_P D vwCl w U.heap ∧ va_K D vwCl tys U ∧ va_D (fun _ => True) w)
def mAt (D : va_G) (w : va_W) (A : Nat → Prop) : Unit → State → Prop := fun _ t => va_P D vwCl w t.heap ∧ va_D A w
def mB (r : Int32) : Prop := narrow .boolean (.int r) = .int r
abbrev mQi (D : va_G) (w : va_W) (r0 : Int32) (X : Prop) (A : Nat → Prop) : Array Value → State → Outcome → State → Prop := va_Qi (fun (r : Int32) (_ : Unit) => r = r0 ∧ X) (mAt D w A) A
abbrev mQl (D : va_G) (w : va_W) (r0 : Int64) (A : Nat → Prop) : Array Value → State → Outcome → State → Prop := va_Ql (fun (r : Int64) (_ : Unit) => r = r0) (mAt D w A) A
abbrev mQv (D : va_G) (w : va_W) (A : Nat → Prop) : Array Value → State → Outcome → State → Prop := va_Qv (fun (_ : Unit) => True) (mAt D w A) A
abbrev mT (cI cJ cZ cB cT : ClassId) : List (ClassId × FieldType) := [(cI, .int), (cJ, .long), (cZ, .boolean), (cB, .byte), (cT, .object "WolfsHead$Text")]
/-! the functions' words -/
def gA {β : Type} (f : Nat → Int32) (n : Nat) (i : Int32) (k : Int32 → Option β) : Option β := if i < 0 ∨ n ≤ i.toNatClampNeg then none else k (f i.toNatClampNeg)
def gL {β : Type} (f : Nat → Int64) (n : Nat) (i : Int32) (k : Int64 → Option β) : Option β := if i < 0 ∨ n ≤ i.toNatClampNeg then none else k (f i.toNatClampNeg)
def sA {β : Type} (f : Nat → Int32) (n : Nat) (i : Int32) (x : Int32) (k : (Nat → Int32) → Option β) : Option β := if i < 0 ∨ n ≤ i.toNatClampNeg then none else k (upd f i.toNatClampNeg x)
def sL {β : Type} (f : Nat → Int64) (n : Nat) (i : Int32) (x : Int64) (k : (Nat → Int64) → Option β) : Option β := if i < 0 ∨ n ≤ i.toNatClampNeg then none else k (vp_updL f i.toNatClampNeg x)
def dvI {β : Type} (x y : Int32) (k : Int32 → Option β) : Option β := if y = 0 then none else k (x / y)
def rmI {β : Type} (x y : Int32) (k : Int32 → Option β) : Option β := if y = 0 then none else k (x - x / y * y)
def dvL {β : Type} (x y : Int64) (k : Int64 → Option β) : Option β := if y = 0 then none else k (x / y)
def rmL {β : Type} (x y : Int64) (k : Int64 → Option β) : Option β := if y = 0 then none else k (x - x / y * y)
theorem gA_some {β : Type} {f : Nat → Int32} {n : Nat} {i : Int32} {k : Int32 → Option β} {r : β} (h : gA f n i k = some r) : vp_in i n ∧ k (f i.toNatClampNeg) = some r := by
  unfold gA at h
  split at h
  · cases h
  · exact ⟨by assumption, h⟩
theorem gL_some {β : Type} {f : Nat → Int64} {n : Nat} {i : Int32} {k : Int64 → Option β} {r : β} (h : gL f n i k = some r) : vp_in i n ∧ k (f i.toNatClampNeg) = some r := by
  unfold gL at h
  split at h
  · cases h
  · exact ⟨by assumption, h⟩
theorem sA_some {β : Type} {f : Nat → Int32} {n : Nat} {i x : Int32} {k : (Nat → Int32) → Option β} {r : β} (h : sA f n i x k = some r) : vp_in i n ∧ k (upd f i.toNatClampNeg x) = some r := by
  unfold sA at h
  split at h
  · cases h
  · exact ⟨by assumption, h⟩
theorem sL_some {β : Type} {f : Nat → Int64} {n : Nat} {i : Int32} {x : Int64} {k : (Nat → Int64) → Option β} {r : β} (h : sL f n i x k = some r) : vp_in i n ∧ k (vp_updL f i.toNatClampNeg x) = some r := by
  unfold sL at h
  split at h
  · cases h
  · exact ⟨by assumption, h⟩
theorem dvI_some {β : Type} {x y : Int32} {k : Int32 → Option β} {r : β} (h : dvI x y k = some r) : (¬ y = 0) ∧ k (x / y) = some r := by
  unfold dvI at h
  split at h
  · cases h
  · exact ⟨by assumption, h⟩
theorem rmI_some {β : Type} {x y : Int32} {k : Int32 → Option β} {r : β} (h : rmI x y k = some r) : (¬ y = 0) ∧ k (x - x / y * y) = some r := by
  unfold rmI at h
  split at h
  · cases h
  · exact ⟨by assumption, h⟩
theorem dvL_some {β : Type} {x y : Int64} {k : Int64 → Option β} {r : β} (h : dvL x y k = some r) : (¬ y = 0) ∧ k (x / y) = some r := by
  unfold dvL at h
  split at h
  · cases h
  · exact ⟨by assumption, h⟩
theorem rmL_some {β : Type} {x y : Int64} {k : Int64 → Option β} {r : β} (h : rmL x y k = some r) : (¬ y = 0) ∧ k (x - x / y * y) = some r := by
  unfold rmL at h
  split at h
  · cases h
  · exact ⟨by assumption, h⟩
def ob1 {A B : Type} (o : Option A) (k : A → Option B) : Option B := match o with
  | some a => k a
  | none => none
theorem ob1_some {A B : Type} {o : Option A} {k : A → Option B} {r : B} (h : ob1 o k = some r) : ∃ a, o = some a ∧ k a = some r := by
  cases o with
  | none => cases h
  | some a => exact ⟨a, rfl, h⟩
def ob2 {T1 T2 B : Type} (o : Option (T1 × T2)) (k : T1 → T2 → Option B) : Option B := match o with
  | some (a1, a2) => k a1 a2
  | none => none
theorem ob2_some {T1 T2 B : Type} {o : Option (T1 × T2)} {k : T1 → T2 → Option B} {r : B} (h : ob2 o k = some r) : ∃ a1 a2, o = some (a1, a2) ∧ k a1 a2 = some r := by
  cases o with
  | none => cases h
  | some a => obtain ⟨a1, a2⟩ := a; exact ⟨a1, a2, rfl, h⟩
def ob3 {T1 T2 T3 B : Type} (o : Option (T1 × T2 × T3)) (k : T1 → T2 → T3 → Option B) : Option B := match o with
  | some (a1, a2, a3) => k a1 a2 a3
  | none => none
theorem ob3_some {T1 T2 T3 B : Type} {o : Option (T1 × T2 × T3)} {k : T1 → T2 → T3 → Option B} {r : B} (h : ob3 o k = some r) : ∃ a1 a2 a3, o = some (a1, a2, a3) ∧ k a1 a2 a3 = some r := by
  cases o with
  | none => cases h
  | some a => obtain ⟨a1, a2, a3⟩ := a; exact ⟨a1, a2, a3, rfl, h⟩
def ob4 {T1 T2 T3 T4 B : Type} (o : Option (T1 × T2 × T3 × T4)) (k : T1 → T2 → T3 → T4 → Option B) : Option B := match o with
  | some (a1, a2, a3, a4) => k a1 a2 a3 a4
  | none => none
theorem ob4_some {T1 T2 T3 T4 B : Type} {o : Option (T1 × T2 × T3 × T4)} {k : T1 → T2 → T3 → T4 → Option B} {r : B} (h : ob4 o k = some r) : ∃ a1 a2 a3 a4, o = some (a1, a2, a3, a4) ∧ k a1 a2 a3 a4 = some r := by
  cases o with
  | none => cases h
  | some a => obtain ⟨a1, a2, a3, a4⟩ := a; exact ⟨a1, a2, a3, a4, rfl, h⟩
def ob5 {T1 T2 T3 T4 T5 B : Type} (o : Option (T1 × T2 × T3 × T4 × T5)) (k : T1 → T2 → T3 → T4 → T5 → Option B) : Option B := match o with
  | some (a1, a2, a3, a4, a5) => k a1 a2 a3 a4 a5
  | none => none
theorem ob5_some {T1 T2 T3 T4 T5 B : Type} {o : Option (T1 × T2 × T3 × T4 × T5)} {k : T1 → T2 → T3 → T4 → T5 → Option B} {r : B} (h : ob5 o k = some r) : ∃ a1 a2 a3 a4 a5, o = some (a1, a2, a3, a4, a5) ∧ k a1 a2 a3 a4 a5 = some r := by
  cases o with
  | none => cases h
  | some a => obtain ⟨a1, a2, a3, a4, a5⟩ := a; exact ⟨a1, a2, a3, a4, a5, rfl, h⟩
def ob6 {T1 T2 T3 T4 T5 T6 B : Type} (o : Option (T1 × T2 × T3 × T4 × T5 × T6)) (k : T1 → T2 → T3 → T4 → T5 → T6 → Option B) : Option B := match o with
  | some (a1, a2, a3, a4, a5, a6) => k a1 a2 a3 a4 a5 a6
  | none => none
theorem ob6_some {T1 T2 T3 T4 T5 T6 B : Type} {o : Option (T1 × T2 × T3 × T4 × T5 × T6)} {k : T1 → T2 → T3 → T4 → T5 → T6 → Option B} {r : B} (h : ob6 o k = some r) : ∃ a1 a2 a3 a4 a5 a6, o = some (a1, a2, a3, a4, a5, a6) ∧ k a1 a2 a3 a4 a5 a6 = some r := by
  cases o with
  | none => cases h
  | some a => obtain ⟨a1, a2, a3, a4, a5, a6⟩ := a; exact ⟨a1, a2, a3, a4, a5, a6, rfl, h⟩
def ob7 {T1 T2 T3 T4 T5 T6 T7 B : Type} (o : Option (T1 × T2 × T3 × T4 × T5 × T6 × T7)) (k : T1 → T2 → T3 → T4 → T5 → T6 → T7 → Option B) : Option B := match o with
  | some (a1, a2, a3, a4, a5, a6, a7) => k a1 a2 a3 a4 a5 a6 a7
  | none => none
theorem ob7_some {T1 T2 T3 T4 T5 T6 T7 B : Type} {o : Option (T1 × T2 × T3 × T4 × T5 × T6 × T7)} {k : T1 → T2 → T3 → T4 → T5 → T6 → T7 → Option B} {r : B} (h : ob7 o k = some r) : ∃ a1 a2 a3 a4 a5 a6 a7, o = some (a1, a2, a3, a4, a5, a6, a7) ∧ k a1 a2 a3 a4 a5 a6 a7 = some r := by
  cases o with
  | none => cases h
  | some a => obtain ⟨a1, a2, a3, a4, a5, a6, a7⟩ := a; exact ⟨a1, a2, a3, a4, a5, a6, a7, rfl, h⟩
def ob8 {T1 T2 T3 T4 T5 T6 T7 T8 B : Type} (o : Option (T1 × T2 × T3 × T4 × T5 × T6 × T7 × T8)) (k : T1 → T2 → T3 → T4 → T5 → T6 → T7 → T8 → Option B) : Option B := match o with
  | some (a1, a2, a3, a4, a5, a6, a7, a8) => k a1 a2 a3 a4 a5 a6 a7 a8
  | none => none
theorem ob8_some {T1 T2 T3 T4 T5 T6 T7 T8 B : Type} {o : Option (T1 × T2 × T3 × T4 × T5 × T6 × T7 × T8)} {k : T1 → T2 → T3 → T4 → T5 → T6 → T7 → T8 → Option B} {r : B} (h : ob8 o k = some r) : ∃ a1 a2 a3 a4 a5 a6 a7 a8, o = some (a1, a2, a3, a4, a5, a6, a7, a8) ∧ k a1 a2 a3 a4 a5 a6 a7 a8 = some r := by
  cases o with
  | none => cases h
  | some a => obtain ⟨a1, a2, a3, a4, a5, a6, a7, a8⟩ := a; exact ⟨a1, a2, a3, a4, a5, a6, a7, a8, rfl, h⟩
theorem sw_ne {x : Int32} {k : Int32} (h : ¬ x = k) : x.toInt ≠ k.toInt := fun e => h (Int32.toInt_inj.mp e)
section
variable {p : Program} {l : Launch} {e : Env} {R : Room} {s : State} {m : MethodId} {args : Array Value} {below : List Frame} {meth : Method} {c : Code} {H : Heap} {locs : List Loc} {cells slots : Nat} {Q : State → Prop}
variable {cc bytes : ByteArray} {pc nL maxL index n : Nat} {ls : Array Slot} {rest st : List Value} {A : Nat → Prop} {H0 : Heap} {D : va_G} {tys : List (ClassId × FieldType)} {ws wc wr w1 : va_W} {own C : String} {y : MethodName} {ret : Option FieldType} {rm : Room} {b : Addr} {As : List Value}
theorem mPre_blind {w : va_W} {sz : Nat} {vs : List Value} : FrameBlind (mPre D tys w sz vs) := fun a U g mk q => by
  obtain ⟨q0, q1, qP, qK, qD⟩ := q
  exact ⟨q0, q1, qP, va_K.moved (u := U) (U := U.calling g mk a) (Vm.Alike.refl U.vm) qK, qD⟩
theorem mP_sub (hP : va_P D vwCl ws H) (isC : List Nat) (hC : isC.map (fun i => ws[i]?) = wc.map some) : va_P D vwCl wc H := by
  intro k q hk
  have h1 : (isC.map (fun i => ws[i]?))[k]? = some (some q) := by rw [hC, List.getElem?_map, hk]; rfl
  rw [List.getElem?_map] at h1
  cases hi : isC[k]? with
  | none => rw [hi] at h1; cases h1
  | some i => rw [hi] at h1; exact hP i q (Option.some.inj h1)
theorem mcw_B (n : Nat) (ht : ∀ w ∈ lw_g, w.before args s = true) (h1 : Cond.methodLink own index y ∈ lw_g) (h4 : Cond.initialized y.cls ∈ lw_g) (h5 : Cond.code y bytes maxL ret ∈ lw_g) (hd : y.cls ≠ "java/lang/invoke/MethodHandle" ∧ y.cls ≠ "java/lang/invoke/VarHandle" ∧ (parseMethodDescriptor y.desc).map (fun d => d.parameters.length) = some n) (hrc : rm.cells = 0) (hrs : rm.slots = 0) (hR : rm.frames + 1 ≤ R.frames ∧ 8 + (maxL + 11) + rm.locals ≤ R.locals) : CallB R s args own index y bytes maxL ret (mw y bytes maxL ret) rm 0 0 n :=
  callB_of n ht (mw_good h5) rfl hrc hrs (ht _ h4) (ht _ h1) hd hR
theorem mcw_V (n : Nat) (ht : ∀ w ∈ lw_g, w.before args s = true) (h1 : Cond.methodLink own index y ∈ lw_g) (h4 : Cond.initialized y.cls ∈ lw_g) (h5 : Cond.code y bytes maxL ret ∈ lw_g) (h2 : Cond.instanceMethod y ∈ lw_g) (h3 : Cond.selects C y y ∈ lw_g) (hd : y.cls ≠ "java/lang/invoke/MethodHandle" ∧ y.cls ≠ "java/lang/invoke/VarHandle" ∧ (parseMethodDescriptor y.desc).map (fun d => d.parameters.length) = some n) (hrc : rm.cells = 0) (hrs : rm.slots = 0) (hR : rm.frames + 1 ≤ R.frames ∧ 8 + (maxL + 11) + rm.locals ≤ R.locals) : CallW R s args own C index y bytes maxL ret (mw y bytes maxL ret) rm 0 0 n :=
  ⟨mcw_B n ht h1 h4 h5 hd hrc hrs hR, ht _ h2, ht _ h3⟩
theorem mcw_S (n : Nat) (ht : ∀ w ∈ lw_g, w.before args s = true) (h1 : Cond.methodLink own index y ∈ lw_g) (h4 : Cond.initialized y.cls ∈ lw_g) (h5 : Cond.code y bytes maxL ret ∈ lw_g) (h2 : Cond.static y ∈ lw_g) (hd : y.cls ≠ "java/lang/invoke/MethodHandle" ∧ y.cls ≠ "java/lang/invoke/VarHandle" ∧ (parseMethodDescriptor y.desc).map (fun d => d.parameters.length) = some n) (hrc : rm.cells = 0) (hrs : rm.slots = 0) (hR : rm.frames + 1 ≤ R.frames ∧ 8 + (maxL + 11) + rm.locals ≤ R.locals) : CallB R s args own index y bytes maxL ret (mw y bytes maxL ret) rm 0 0 n ∧ (Cond.static y).before args s = true :=
  ⟨mcw_B n ht h1 h4 h5 hd hrc hrs hR, ht _ h2⟩
theorem mcV_i {r0 : Int32} {X : Prop} (hx : p.tables.exec = Jvm.exec) (hb : c.code = cc) (hml : c.maxLocals = nL) (hown : s.vm.findClass own = some m.cls) (hts : ∀ w ∈ lw_g, w.before args s = true) (hK : va_K D vwCl tys s) (hP : va_P D vwCl ws H) (hD : va_D A ws) (hS : va_S A H0 H locs) (hA : ∀ q, H0.size ≤ q → A q)
    (hM : ∀ sz, Met l y (mw y bytes maxL ret) rm (mPre D tys wc sz (.ref b :: As)) (mQi D w1 r0 X (va_A wc sz)) 0 0 (va_A wc sz)) (cw : CallW R s args own C index y bytes maxL ret (mw y bytes maxL ret) rm 0 0 n) (isC isR : List Nat) (hC : isC.map (fun i => ws[i]?) = wc.map some) (hR : isR.map (fun i => ws[i]?) = wr.map some) (hn : va_nd isR = true) (hdis : ∀ i ∈ isR, i ∉ isC) (hCn : va_nd isC = true) (q0 : Nat) {ci : Nat} {fs : List Value} {q : vw_C} (hc : vwCl[ci]? = some q) (hq : q.1 = C) (he : wc[q0]? = some (b, .inr (ci, fs)))
    (hlen : As.length = n) (hsz : ls.size = nL) (hst : st = As.reverse ++ .ref b :: rest) (hrest : (rest.map fun v => v.category).sum ≤ 8) (hdg : decode cc pc = .ok (.invokevirtual index, 3)) (hroom : cells ≤ R.cells ∧ slots ≤ R.slots)
    (kk : X → ∀ (H1 : Heap) (locs1 : List Loc), va_P D vwCl (wr ++ w1) H1 → va_D A (wr ++ w1) → va_S A H0 H1 locs1 → W p l e R s m args below meth c H1 locs1 cells slots Q (F0 m (pc + 3) ls (.int r0 :: rest))) : W p l e R s m args below meth c H locs cells slots Q (F0 m pc ls st) := by
  subst hst
  have hPc := mP_sub (wc := wc) hP isC hC
  have hDc := hD.sub (ws' := wc) isC hCn hC
  have hFc := va_free (wc := wc) hD hS hA isC hC
  refine va_calli (va_runV (As := As) (rest := rest) ⟨hx, hb, hml, hown, hts⟩ (hM H.size) cw ⟨mPre_blind, hq ▸ va_recv hK hPc hc he, fun U hU hW => ⟨rfl, by rw [hU], by rw [hU]; exact hPc, va_K.moved hW.alike hK, hDc.weaken (fun _ _ _ _ => trivial)⟩⟩ rfl hlen hsz rfl (lv_room hrest) hdg hroom) hS (fun q _ h => hFc q h) hFc (fun r u t H1 locs1 ht hvm hw hB hz1 hk1 hS1 => ?_)
  obtain ⟨hP1, hD1⟩ := hB
  rw [ht] at hP1
  obtain ⟨rfl, hX⟩ := hw
  obtain ⟨hP2, hD2⟩ := va_join (wr := wr) (w1 := w1) hP hD isC isR hC hR hn hdis hk1 hFc hP1 hD1
  exact kk hX H1 locs1 hP2 hD2 hS1
theorem mcS_i {r0 : Int32} {X : Prop} (hx : p.tables.exec = Jvm.exec) (hb : c.code = cc) (hml : c.maxLocals = nL) (hown : s.vm.findClass own = some m.cls) (hts : ∀ w ∈ lw_g, w.before args s = true) (hK : va_K D vwCl tys s) (hP : va_P D vwCl ws H) (hD : va_D A ws) (hS : va_S A H0 H locs) (hA : ∀ q, H0.size ≤ q → A q)
    (hM : ∀ sz, Met l y (mw y bytes maxL ret) rm (mPre D tys wc sz As) (mQi D w1 r0 X (va_A wc sz)) 0 0 (va_A wc sz)) (cw : CallB R s args own index y bytes maxL ret (mw y bytes maxL ret) rm 0 0 n ∧ (Cond.static y).before args s = true) (isC isR : List Nat) (hC : isC.map (fun i => ws[i]?) = wc.map some) (hR : isR.map (fun i => ws[i]?) = wr.map some) (hn : va_nd isR = true) (hdis : ∀ i ∈ isR, i ∉ isC) (hCn : va_nd isC = true) 
    (hlen : As.length = n) (hsz : ls.size = nL) (hst : st = As.reverse ++ rest) (hrest : (rest.map fun v => v.category).sum ≤ 8) (hdg : decode cc pc = .ok (.invokestatic index, 3)) (hroom : cells ≤ R.cells ∧ slots ≤ R.slots)
    (kk : X → ∀ (H1 : Heap) (locs1 : List Loc), va_P D vwCl (wr ++ w1) H1 → va_D A (wr ++ w1) → va_S A H0 H1 locs1 → W p l e R s m args below meth c H1 locs1 cells slots Q (F0 m (pc + 3) ls (.int r0 :: rest))) : W p l e R s m args below meth c H locs cells slots Q (F0 m pc ls st) := by
  subst hst
  have hPc := mP_sub (wc := wc) hP isC hC
  have hDc := hD.sub (ws' := wc) isC hCn hC
  have hFc := va_free (wc := wc) hD hS hA isC hC
  refine va_calli (va_runS (As := As) (rest := rest) ⟨hx, hb, hml, hown, hts⟩ (hM H.size) cw ⟨mPre_blind, fun U hU hW => ⟨rfl, by rw [hU], by rw [hU]; exact hPc, va_K.moved hW.alike hK, hDc.weaken (fun _ _ _ _ => trivial)⟩⟩ rfl hlen hsz rfl (lv_room hrest) hdg hroom) hS (fun q _ h => hFc q h) hFc (fun r u t H1 locs1 ht hvm hw hB hz1 hk1 hS1 => ?_)
  obtain ⟨hP1, hD1⟩ := hB
  rw [ht] at hP1
  obtain ⟨rfl, hX⟩ := hw
  obtain ⟨hP2, hD2⟩ := va_join (wr := wr) (w1 := w1) hP hD isC isR hC hR hn hdis hk1 hFc hP1 hD1
  exact kk hX H1 locs1 hP2 hD2 hS1
theorem mcS0_i {r0 : Int32} {X : Prop} (hx : p.tables.exec = Jvm.exec) (hb : c.code = cc) (hml : c.maxLocals = nL) (hown : s.vm.findClass own = some m.cls) (hts : ∀ w ∈ lw_g, w.before args s = true) (hK : va_K D vwCl tys s) (hP : va_P D vwCl ws H) (hD : va_D A ws) (hS : va_S A H0 H locs) (hA : ∀ q, H0.size ≤ q → A q)
    (hM : ∀ sz, Met l y (mw y bytes maxL ret) rm (mPre D tys ([] : va_W) sz As) (mQi D ([] : va_W) r0 X (va_A ([] : va_W) sz)) 0 0 (va_A ([] : va_W) sz)) (cw : CallB R s args own index y bytes maxL ret (mw y bytes maxL ret) rm 0 0 n ∧ (Cond.static y).before args s = true)  
    (hlen : As.length = n) (hsz : ls.size = nL) (hst : st = As.reverse ++ rest) (hrest : (rest.map fun v => v.category).sum ≤ 8) (hdg : decode cc pc = .ok (.invokestatic index, 3)) (hroom : cells ≤ R.cells ∧ slots ≤ R.slots)
    (kk : X → ∀ (H1 : Heap) (locs1 : List Loc), va_P D vwCl ws H1 → va_D A ws → va_S A H0 H1 locs1 → W p l e R s m args below meth c H1 locs1 cells slots Q (F0 m (pc + 3) ls (.int r0 :: rest))) : W p l e R s m args below meth c H locs cells slots Q (F0 m pc ls st) := by
  subst hst
  have hPc : va_P D vwCl [] H := fun k q h => by simp at h
  have hDc : va_D A [] := ⟨fun i j p q h => by simp at h, fun k q h => by simp at h⟩
  have hFc := va_free (wc := []) hD hS hA [] rfl
  refine va_calli (va_runS (As := As) (rest := rest) ⟨hx, hb, hml, hown, hts⟩ (hM H.size) cw ⟨mPre_blind, fun U hU hW => ⟨rfl, by rw [hU], by rw [hU]; exact hPc, va_K.moved hW.alike hK, hDc.weaken (fun _ _ _ _ => trivial)⟩⟩ rfl hlen hsz rfl (lv_room hrest) hdg hroom) hS (fun q _ h => hFc q h) hFc (fun r u t H1 locs1 ht hvm hw hB hz1 hk1 hS1 => ?_)
  obtain ⟨hP1, hD1⟩ := hB
  rw [ht] at hP1
  obtain ⟨rfl, hX⟩ := hw
  refine kk hX H1 locs1 (hP.kept fun k q hq => hk1 q.1 (hP k q hq).lt fun h => ?_) hD hS1
  rcases h with ⟨k2, e2, h⟩ | h
  · simp at h
  · exact absurd h (Nat.not_le.mpr (hP k q hq).lt)
theorem mcV_l {r0 : Int64} (hx : p.tables.exec = Jvm.exec) (hb : c.code = cc) (hml : c.maxLocals = nL) (hown : s.vm.findClass own = some m.cls) (hts : ∀ w ∈ lw_g, w.before args s = true) (hK : va_K D vwCl tys s) (hP : va_P D vwCl ws H) (hD : va_D A ws) (hS : va_S A H0 H locs) (hA : ∀ q, H0.size ≤ q → A q)
    (hM : ∀ sz, Met l y (mw y bytes maxL ret) rm (mPre D tys wc sz (.ref b :: As)) (mQl D w1 r0 (va_A wc sz)) 0 0 (va_A wc sz)) (cw : CallW R s args own C index y bytes maxL ret (mw y bytes maxL ret) rm 0 0 n) (isC isR : List Nat) (hC : isC.map (fun i => ws[i]?) = wc.map some) (hR : isR.map (fun i => ws[i]?) = wr.map some) (hn : va_nd isR = true) (hdis : ∀ i ∈ isR, i ∉ isC) (hCn : va_nd isC = true) (q0 : Nat) {ci : Nat} {fs : List Value} {q : vw_C} (hc : vwCl[ci]? = some q) (hq : q.1 = C) (he : wc[q0]? = some (b, .inr (ci, fs)))
    (hlen : As.length = n) (hsz : ls.size = nL) (hst : st = As.reverse ++ .ref b :: rest) (hrest : (rest.map fun v => v.category).sum ≤ 8) (hdg : decode cc pc = .ok (.invokevirtual index, 3)) (hroom : cells ≤ R.cells ∧ slots ≤ R.slots)
    (kk : ∀ (H1 : Heap) (locs1 : List Loc), va_P D vwCl (wr ++ w1) H1 → va_D A (wr ++ w1) → va_S A H0 H1 locs1 → W p l e R s m args below meth c H1 locs1 cells slots Q (F0 m (pc + 3) ls (.long r0 :: rest))) : W p l e R s m args below meth c H locs cells slots Q (F0 m pc ls st) := by
  subst hst
  have hPc := mP_sub (wc := wc) hP isC hC
  have hDc := hD.sub (ws' := wc) isC hCn hC
  have hFc := va_free (wc := wc) hD hS hA isC hC
  refine va_calll (va_runV (As := As) (rest := rest) ⟨hx, hb, hml, hown, hts⟩ (hM H.size) cw ⟨mPre_blind, hq ▸ va_recv hK hPc hc he, fun U hU hW => ⟨rfl, by rw [hU], by rw [hU]; exact hPc, va_K.moved hW.alike hK, hDc.weaken (fun _ _ _ _ => trivial)⟩⟩ rfl hlen hsz rfl (lv_room hrest) hdg hroom) hS (fun q _ h => hFc q h) hFc (fun r u t H1 locs1 ht hvm hw hB hz1 hk1 hS1 => ?_)
  obtain ⟨hP1, hD1⟩ := hB
  rw [ht] at hP1
  subst hw
  obtain ⟨hP2, hD2⟩ := va_join (wr := wr) (w1 := w1) hP hD isC isR hC hR hn hdis hk1 hFc hP1 hD1
  exact kk H1 locs1 hP2 hD2 hS1
theorem mcS_l {r0 : Int64} (hx : p.tables.exec = Jvm.exec) (hb : c.code = cc) (hml : c.maxLocals = nL) (hown : s.vm.findClass own = some m.cls) (hts : ∀ w ∈ lw_g, w.before args s = true) (hK : va_K D vwCl tys s) (hP : va_P D vwCl ws H) (hD : va_D A ws) (hS : va_S A H0 H locs) (hA : ∀ q, H0.size ≤ q → A q)
    (hM : ∀ sz, Met l y (mw y bytes maxL ret) rm (mPre D tys wc sz As) (mQl D w1 r0 (va_A wc sz)) 0 0 (va_A wc sz)) (cw : CallB R s args own index y bytes maxL ret (mw y bytes maxL ret) rm 0 0 n ∧ (Cond.static y).before args s = true) (isC isR : List Nat) (hC : isC.map (fun i => ws[i]?) = wc.map some) (hR : isR.map (fun i => ws[i]?) = wr.map some) (hn : va_nd isR = true) (hdis : ∀ i ∈ isR, i ∉ isC) (hCn : va_nd isC = true) 
    (hlen : As.length = n) (hsz : ls.size = nL) (hst : st = As.reverse ++ rest) (hrest : (rest.map fun v => v.category).sum ≤ 8) (hdg : decode cc pc = .ok (.invokestatic index, 3)) (hroom : cells ≤ R.cells ∧ slots ≤ R.slots)
    (kk : ∀ (H1 : Heap) (locs1 : List Loc), va_P D vwCl (wr ++ w1) H1 → va_D A (wr ++ w1) → va_S A H0 H1 locs1 → W p l e R s m args below meth c H1 locs1 cells slots Q (F0 m (pc + 3) ls (.long r0 :: rest))) : W p l e R s m args below meth c H locs cells slots Q (F0 m pc ls st) := by
  subst hst
  have hPc := mP_sub (wc := wc) hP isC hC
  have hDc := hD.sub (ws' := wc) isC hCn hC
  have hFc := va_free (wc := wc) hD hS hA isC hC
  refine va_calll (va_runS (As := As) (rest := rest) ⟨hx, hb, hml, hown, hts⟩ (hM H.size) cw ⟨mPre_blind, fun U hU hW => ⟨rfl, by rw [hU], by rw [hU]; exact hPc, va_K.moved hW.alike hK, hDc.weaken (fun _ _ _ _ => trivial)⟩⟩ rfl hlen hsz rfl (lv_room hrest) hdg hroom) hS (fun q _ h => hFc q h) hFc (fun r u t H1 locs1 ht hvm hw hB hz1 hk1 hS1 => ?_)
  obtain ⟨hP1, hD1⟩ := hB
  rw [ht] at hP1
  subst hw
  obtain ⟨hP2, hD2⟩ := va_join (wr := wr) (w1 := w1) hP hD isC isR hC hR hn hdis hk1 hFc hP1 hD1
  exact kk H1 locs1 hP2 hD2 hS1
theorem mcS0_l {r0 : Int64} (hx : p.tables.exec = Jvm.exec) (hb : c.code = cc) (hml : c.maxLocals = nL) (hown : s.vm.findClass own = some m.cls) (hts : ∀ w ∈ lw_g, w.before args s = true) (hK : va_K D vwCl tys s) (hP : va_P D vwCl ws H) (hD : va_D A ws) (hS : va_S A H0 H locs) (hA : ∀ q, H0.size ≤ q → A q)
    (hM : ∀ sz, Met l y (mw y bytes maxL ret) rm (mPre D tys ([] : va_W) sz As) (mQl D ([] : va_W) r0 (va_A ([] : va_W) sz)) 0 0 (va_A ([] : va_W) sz)) (cw : CallB R s args own index y bytes maxL ret (mw y bytes maxL ret) rm 0 0 n ∧ (Cond.static y).before args s = true)  
    (hlen : As.length = n) (hsz : ls.size = nL) (hst : st = As.reverse ++ rest) (hrest : (rest.map fun v => v.category).sum ≤ 8) (hdg : decode cc pc = .ok (.invokestatic index, 3)) (hroom : cells ≤ R.cells ∧ slots ≤ R.slots)
    (kk : ∀ (H1 : Heap) (locs1 : List Loc), va_P D vwCl ws H1 → va_D A ws → va_S A H0 H1 locs1 → W p l e R s m args below meth c H1 locs1 cells slots Q (F0 m (pc + 3) ls (.long r0 :: rest))) : W p l e R s m args below meth c H locs cells slots Q (F0 m pc ls st) := by
  subst hst
  have hPc : va_P D vwCl [] H := fun k q h => by simp at h
  have hDc : va_D A [] := ⟨fun i j p q h => by simp at h, fun k q h => by simp at h⟩
  have hFc := va_free (wc := []) hD hS hA [] rfl
  refine va_calll (va_runS (As := As) (rest := rest) ⟨hx, hb, hml, hown, hts⟩ (hM H.size) cw ⟨mPre_blind, fun U hU hW => ⟨rfl, by rw [hU], by rw [hU]; exact hPc, va_K.moved hW.alike hK, hDc.weaken (fun _ _ _ _ => trivial)⟩⟩ rfl hlen hsz rfl (lv_room hrest) hdg hroom) hS (fun q _ h => hFc q h) hFc (fun r u t H1 locs1 ht hvm hw hB hz1 hk1 hS1 => ?_)
  obtain ⟨hP1, hD1⟩ := hB
  rw [ht] at hP1
  subst hw
  refine kk H1 locs1 (hP.kept fun k q hq => hk1 q.1 (hP k q hq).lt fun h => ?_) hD hS1
  rcases h with ⟨k2, e2, h⟩ | h
  · simp at h
  · exact absurd h (Nat.not_le.mpr (hP k q hq).lt)
theorem mcV_v  (hx : p.tables.exec = Jvm.exec) (hb : c.code = cc) (hml : c.maxLocals = nL) (hown : s.vm.findClass own = some m.cls) (hts : ∀ w ∈ lw_g, w.before args s = true) (hK : va_K D vwCl tys s) (hP : va_P D vwCl ws H) (hD : va_D A ws) (hS : va_S A H0 H locs) (hA : ∀ q, H0.size ≤ q → A q)
    (hM : ∀ sz, Met l y (mw y bytes maxL ret) rm (mPre D tys wc sz (.ref b :: As)) (mQv D w1 (va_A wc sz)) 0 0 (va_A wc sz)) (cw : CallW R s args own C index y bytes maxL ret (mw y bytes maxL ret) rm 0 0 n) (isC isR : List Nat) (hC : isC.map (fun i => ws[i]?) = wc.map some) (hR : isR.map (fun i => ws[i]?) = wr.map some) (hn : va_nd isR = true) (hdis : ∀ i ∈ isR, i ∉ isC) (hCn : va_nd isC = true) (q0 : Nat) {ci : Nat} {fs : List Value} {q : vw_C} (hc : vwCl[ci]? = some q) (hq : q.1 = C) (he : wc[q0]? = some (b, .inr (ci, fs)))
    (hlen : As.length = n) (hsz : ls.size = nL) (hst : st = As.reverse ++ .ref b :: rest) (hrest : (rest.map fun v => v.category).sum ≤ 8) (hdg : decode cc pc = .ok (.invokevirtual index, 3)) (hroom : cells ≤ R.cells ∧ slots ≤ R.slots)
    (kk : ∀ (H1 : Heap) (locs1 : List Loc), va_P D vwCl (wr ++ w1) H1 → va_D A (wr ++ w1) → va_S A H0 H1 locs1 → W p l e R s m args below meth c H1 locs1 cells slots Q (F0 m (pc + 3) ls (rest))) : W p l e R s m args below meth c H locs cells slots Q (F0 m pc ls st) := by
  subst hst
  have hPc := mP_sub (wc := wc) hP isC hC
  have hDc := hD.sub (ws' := wc) isC hCn hC
  have hFc := va_free (wc := wc) hD hS hA isC hC
  refine va_callv (va_runV (As := As) (rest := rest) ⟨hx, hb, hml, hown, hts⟩ (hM H.size) cw ⟨mPre_blind, hq ▸ va_recv hK hPc hc he, fun U hU hW => ⟨rfl, by rw [hU], by rw [hU]; exact hPc, va_K.moved hW.alike hK, hDc.weaken (fun _ _ _ _ => trivial)⟩⟩ rfl hlen hsz rfl (lv_room hrest) hdg hroom) hS (fun q _ h => hFc q h) hFc (fun u t H1 locs1 ht hvm hw hB hz1 hk1 hS1 => ?_)
  obtain ⟨hP1, hD1⟩ := hB
  rw [ht] at hP1
  obtain ⟨hP2, hD2⟩ := va_join (wr := wr) (w1 := w1) hP hD isC isR hC hR hn hdis hk1 hFc hP1 hD1
  exact kk H1 locs1 hP2 hD2 hS1
theorem mcS_v  (hx : p.tables.exec = Jvm.exec) (hb : c.code = cc) (hml : c.maxLocals = nL) (hown : s.vm.findClass own = some m.cls) (hts : ∀ w ∈ lw_g, w.before args s = true) (hK : va_K D vwCl tys s) (hP : va_P D vwCl ws H) (hD : va_D A ws) (hS : va_S A H0 H locs) (hA : ∀ q, H0.size ≤ q → A q)
    (hM : ∀ sz, Met l y (mw y bytes maxL ret) rm (mPre D tys wc sz As) (mQv D w1 (va_A wc sz)) 0 0 (va_A wc sz)) (cw : CallB R s args own index y bytes maxL ret (mw y bytes maxL ret) rm 0 0 n ∧ (Cond.static y).before args s = true) (isC isR : List Nat) (hC : isC.map (fun i => ws[i]?) = wc.map some) (hR : isR.map (fun i => ws[i]?) = wr.map some) (hn : va_nd isR = true) (hdis : ∀ i ∈ isR, i ∉ isC) (hCn : va_nd isC = true) 
    (hlen : As.length = n) (hsz : ls.size = nL) (hst : st = As.reverse ++ rest) (hrest : (rest.map fun v => v.category).sum ≤ 8) (hdg : decode cc pc = .ok (.invokestatic index, 3)) (hroom : cells ≤ R.cells ∧ slots ≤ R.slots)
    (kk : ∀ (H1 : Heap) (locs1 : List Loc), va_P D vwCl (wr ++ w1) H1 → va_D A (wr ++ w1) → va_S A H0 H1 locs1 → W p l e R s m args below meth c H1 locs1 cells slots Q (F0 m (pc + 3) ls (rest))) : W p l e R s m args below meth c H locs cells slots Q (F0 m pc ls st) := by
  subst hst
  have hPc := mP_sub (wc := wc) hP isC hC
  have hDc := hD.sub (ws' := wc) isC hCn hC
  have hFc := va_free (wc := wc) hD hS hA isC hC
  refine va_callv (va_runS (As := As) (rest := rest) ⟨hx, hb, hml, hown, hts⟩ (hM H.size) cw ⟨mPre_blind, fun U hU hW => ⟨rfl, by rw [hU], by rw [hU]; exact hPc, va_K.moved hW.alike hK, hDc.weaken (fun _ _ _ _ => trivial)⟩⟩ rfl hlen hsz rfl (lv_room hrest) hdg hroom) hS (fun q _ h => hFc q h) hFc (fun u t H1 locs1 ht hvm hw hB hz1 hk1 hS1 => ?_)
  obtain ⟨hP1, hD1⟩ := hB
  rw [ht] at hP1
  obtain ⟨hP2, hD2⟩ := va_join (wr := wr) (w1 := w1) hP hD isC isR hC hR hn hdis hk1 hFc hP1 hD1
  exact kk H1 locs1 hP2 hD2 hS1
theorem mcS0_v  (hx : p.tables.exec = Jvm.exec) (hb : c.code = cc) (hml : c.maxLocals = nL) (hown : s.vm.findClass own = some m.cls) (hts : ∀ w ∈ lw_g, w.before args s = true) (hK : va_K D vwCl tys s) (hP : va_P D vwCl ws H) (hD : va_D A ws) (hS : va_S A H0 H locs) (hA : ∀ q, H0.size ≤ q → A q)
    (hM : ∀ sz, Met l y (mw y bytes maxL ret) rm (mPre D tys ([] : va_W) sz As) (mQv D ([] : va_W) (va_A ([] : va_W) sz)) 0 0 (va_A ([] : va_W) sz)) (cw : CallB R s args own index y bytes maxL ret (mw y bytes maxL ret) rm 0 0 n ∧ (Cond.static y).before args s = true)  
    (hlen : As.length = n) (hsz : ls.size = nL) (hst : st = As.reverse ++ rest) (hrest : (rest.map fun v => v.category).sum ≤ 8) (hdg : decode cc pc = .ok (.invokestatic index, 3)) (hroom : cells ≤ R.cells ∧ slots ≤ R.slots)
    (kk : ∀ (H1 : Heap) (locs1 : List Loc), va_P D vwCl ws H1 → va_D A ws → va_S A H0 H1 locs1 → W p l e R s m args below meth c H1 locs1 cells slots Q (F0 m (pc + 3) ls (rest))) : W p l e R s m args below meth c H locs cells slots Q (F0 m pc ls st) := by
  subst hst
  have hPc : va_P D vwCl [] H := fun k q h => by simp at h
  have hDc : va_D A [] := ⟨fun i j p q h => by simp at h, fun k q h => by simp at h⟩
  have hFc := va_free (wc := []) hD hS hA [] rfl
  refine va_callv (va_runS (As := As) (rest := rest) ⟨hx, hb, hml, hown, hts⟩ (hM H.size) cw ⟨mPre_blind, fun U hU hW => ⟨rfl, by rw [hU], by rw [hU]; exact hPc, va_K.moved hW.alike hK, hDc.weaken (fun _ _ _ _ => trivial)⟩⟩ rfl hlen hsz rfl (lv_room hrest) hdg hroom) hS (fun q _ h => hFc q h) hFc (fun u t H1 locs1 ht hvm hw hB hz1 hk1 hS1 => ?_)
  obtain ⟨hP1, hD1⟩ := hB
  rw [ht] at hP1
  refine kk H1 locs1 (hP.kept fun k q hq => hk1 q.1 (hP k q hq).lt fun h => ?_) hD hS1
  rcases h with ⟨k2, e2, h⟩ | h
  · simp at h
  · exact absurd h (Nat.not_le.mpr (hP k q hq).lt)
theorem mret_i {r0 v : Int32} {X : Prop} (hx : p.tables.exec = Jvm.exec) (hb : c.code = cc) (hr : meth.sig.returnType = some .int) (hlocks : meth.locks = false) (hP : va_P D vwCl w1 H) (hD : va_D A w1) (hS : va_S A s.heap H locs) (hdg : decode cc pc = .ok (.ireturn, 1)) (hv : v = r0) (hX : X) : W p l e R s m args below meth c H locs cells slots (MQ below (mQi D w1 r0 X A) args s cells slots A) (F0 m pc ls [.int v]) :=
  W.iret (v := v) hx hb hr (fun t ht hW => ⟨⟨v, (), rfl, ⟨hv, hX⟩, by rw [ht]; exact hP, hD⟩, hS.F ht⟩) hS.2.2 hdg hlocks
theorem mret_z {r0 v : Int32} (hx : p.tables.exec = Jvm.exec) (hb : c.code = cc) (hr : meth.sig.returnType = some .boolean) (hlocks : meth.locks = false) (hP : va_P D vwCl w1 H) (hD : va_D A w1) (hS : va_S A s.heap H locs) (hdg : decode cc pc = .ok (.ireturn, 1)) (hv : v = r0) (hn : mB v) : W p l e R s m args below meth c H locs cells slots (MQ below (mQi D w1 r0 (mB r0) A) args s cells slots A) (F0 m pc ls [.int v]) :=
  W.zret (v := v) hx hb hr hn (fun t ht hW => ⟨⟨v, (), rfl, ⟨hv, hv ▸ hn⟩, by rw [ht]; exact hP, hD⟩, hS.F ht⟩) hS.2.2 hdg hlocks
theorem mret_l {r0 v : Int64} (hx : p.tables.exec = Jvm.exec) (hb : c.code = cc) (hr : meth.sig.returnType = some .long) (hlocks : meth.locks = false) (hP : va_P D vwCl w1 H) (hD : va_D A w1) (hS : va_S A s.heap H locs) (hdg : decode cc pc = .ok (.lreturn, 1)) (hv : v = r0) : W p l e R s m args below meth c H locs cells slots (MQ below (mQl D w1 r0 A) args s cells slots A) (F0 m pc ls [.long v]) :=
  W.lret (v := v) hx hb hr (fun t ht hW => ⟨⟨v, (), rfl, hv, by rw [ht]; exact hP, hD⟩, hS.F ht⟩) hS.2.2 hdg hlocks
theorem mret_v (hx : p.tables.exec = Jvm.exec) (hb : c.code = cc) (hr : meth.sig.returnType = none) (hlocks : meth.locks = false) (hP : va_P D vwCl w1 H) (hD : va_D A w1) (hS : va_S A s.heap H locs) (hdg : decode cc pc = .ok (.return_, 1)) : W p l e R s m args below meth c H locs cells slots (MQ below (mQv D w1 A) args s cells slots A) (F0 m pc ls []) :=
  W.vret hx hb hr (fun t ht hW => ⟨⟨(), rfl, trivial, by rw [ht]; exact hP, hD⟩, hS.F ht⟩) hS.2.2 hdg hlocks
theorem mMet {w : va_W} {vs : List Value} {Qc : (Nat → Prop) → Array Value → State → Outcome → State → Prop} (hy : plainName y.cls = true) (hlen : (lg_sl vs).length ≤ maxL)
    (body : ∀ (p : Program) (e : Env) (s : State) (m : MethodId) (below : List Frame) (meth : Method) (c : Code) (A : Nat → Prop) (ls : Array Slot), p.tables.exec = Jvm.exec → c.code = bytes → meth.sig.returnType = ret → c.maxLocals = maxL → (∀ w ∈ lw_g, w.before vs.toArray s = true) → s.vm.findClass y.cls = some m.cls → meth.locks = false → va_K D vwCl tys s → (∀ q : Nat, s.heap.size ≤ q → A q) → va_P D vwCl w s.heap → va_D A w → lv_has ls maxL (lv_args 0 vs) → W p l e rm s m vs.toArray below meth c s.heap [] 0 0 (MQ below (Qc A) vs.toArray s 0 0 A) (F0 m 0 ls [])) :
    ∀ sz, Met l y (mw y bytes maxL ret) rm (mPre D tys w sz vs) (Qc (va_A w sz)) 0 0 (va_A w sz) := by
  intro sz
  refine Met.ofW (cc := bytes) (maxL := maxL) (ret := ret) hy rfl ?_
  intro p e s m args below meth c s₁ B hml hv
  obtain ⟨rfl, hsz, hP, hK, hD0⟩ := hv
  subst hsz
  have hts := atoms_spec (ws := mw y bytes maxL ret) B.pre
  have hown : s.vm.findClass y.cls = some m.cls := findClass_of_methodNamed B.named
  have hl := lv_entry vs (n := maxL) hlen
  have hD := hD0.self (sz := s.heap.size)
  rw [lg_entry_eq]
  exact body p e s m below meth c (va_A w s.heap.size) _ B.exec B.bytes B.returns hml (fun w hw => hts w (List.mem_cons_of_mem _ hw)) hown B.notSynchronized hK (fun q h => Or.inr h) hP hD hl
end
end
section
section
variable {p : Program} {l : Launch} {e : Env} {R : Room} {s : State} {m : MethodId} {args : Array Value} {below : List Frame} {meth : Method} {c : Code} {H : Heap} {locs : List Loc} {cells slots : Nat} {Q : State → Prop}
variable {cc bytes : ByteArray} {pc nL maxL index n : Nat} {ls : Array Slot} {rest st : List Value} {A : Nat → Prop} {H0 : Heap} {D : va_G} {tys : List (ClassId × FieldType)} {ws wc wr w1 : va_W} {own C : String} {y : MethodName} {ret : Option FieldType} {rm : Room} {b : Addr} {As : List Value} {β : Type} {out : β}
theorem xiald (hx : p.tables.exec = Jvm.exec) (hb : c.code = cc) (hK : va_K D vwCl tys s) (hP : va_P D vwCl ws H) (q0 t0 : Nat) {cA : ClassId} {f : Nat → Int32} (ha : ws[q0]? = some (b, .inl (cA, n, .inl f))) (ht : tys[t0]? = some (cA, .int)) {i : Int32} {k : Int32 → Option β} (hdg : decode cc pc = .ok (.iaload, 1)) (hf : gA f n i k = some out)
    (kk : ∀ v : Int32, k v = some out → W p l e R s m args below meth c H locs cells slots Q (F0 m (pc + 1) ls (.int v :: rest))) : W p l e R s m args below meth c H locs cells slots Q (F0 m pc ls (.int i :: .ref b :: rest)) :=
  va_iald hx hb hK hP q0 t0 ha ht (gA_some hf).1 hdg (kk _ (gA_some hf).2)
theorem xzald (hx : p.tables.exec = Jvm.exec) (hb : c.code = cc) (hK : va_K D vwCl tys s) (hP : va_P D vwCl ws H) (q0 t0 : Nat) {cA : ClassId} {f : Nat → Int32} (ha : ws[q0]? = some (b, .inl (cA, n, .inl f))) (ht : tys[t0]? = some (cA, .boolean)) {i : Int32} {k : Int32 → Option β} (hdg : decode cc pc = .ok (.baload, 1)) (hf : gA f n i k = some out)
    (kk : ∀ v : Int32, k v = some out → W p l e R s m args below meth c H locs cells slots Q (F0 m (pc + 1) ls (.int v :: rest))) : W p l e R s m args below meth c H locs cells slots Q (F0 m pc ls (.int i :: .ref b :: rest)) :=
  va_zald hx hb hK hP q0 t0 ha ht (gA_some hf).1 hdg (kk _ (gA_some hf).2)
theorem xbald (hx : p.tables.exec = Jvm.exec) (hb : c.code = cc) (hK : va_K D vwCl tys s) (hP : va_P D vwCl ws H) (q0 t0 : Nat) {cA : ClassId} {f : Nat → Int32} (ha : ws[q0]? = some (b, .inl (cA, n, .inl f))) (ht : tys[t0]? = some (cA, .byte)) {i : Int32} {k : Int32 → Option β} (hdg : decode cc pc = .ok (.baload, 1)) (hf : gA f n i k = some out)
    (kk : ∀ v : Int32, k v = some out → W p l e R s m args below meth c H locs cells slots Q (F0 m (pc + 1) ls (.int v :: rest))) : W p l e R s m args below meth c H locs cells slots Q (F0 m pc ls (.int i :: .ref b :: rest)) :=
  va_bald hx hb hK hP q0 t0 ha ht (gA_some hf).1 hdg (kk _ (gA_some hf).2)
theorem xlald (hx : p.tables.exec = Jvm.exec) (hb : c.code = cc) (hK : va_K D vwCl tys s) (hP : va_P D vwCl ws H) (q0 t0 : Nat) {cA : ClassId} {f : Nat → Int64} (ha : ws[q0]? = some (b, .inl (cA, n, .inr (.inl f)))) (ht : tys[t0]? = some (cA, .long)) {i : Int32} {k : Int64 → Option β} (hdg : decode cc pc = .ok (.laload, 1)) (hf : gL f n i k = some out)
    (kk : ∀ v : Int64, k v = some out → W p l e R s m args below meth c H locs cells slots Q (F0 m (pc + 1) ls (.long v :: rest))) : W p l e R s m args below meth c H locs cells slots Q (F0 m pc ls (.int i :: .ref b :: rest)) :=
  va_lald hx hb hK hP q0 t0 ha ht (gL_some hf).1 hdg (kk _ (gL_some hf).2)
theorem xiast (hx : p.tables.exec = Jvm.exec) (hb : c.code = cc) (hK : va_K D vwCl tys s) (hP : va_P D vwCl ws H) (hD : va_D A ws) (hS : va_S A H0 H locs) (q0 t0 : Nat) {cA : ClassId} {f : Nat → Int32} (ha : ws[q0]? = some (b, .inl (cA, n, .inl f))) (ht : tys[t0]? = some (cA, .int)) {i : Int32} {x : Int32} {k : (Nat → Int32) → Option β} (hdg : decode cc pc = .ok (.iastore, 1)) (hf : sA f n i x k = some out)
    (kk : ∀ g : Nat → Int32, k g = some out → ∀ (H1 : Heap) (locs1 : List Loc), va_P D vwCl (ws.set q0 (b, .inl (cA, n, .inl g))) H1 → va_D A (ws.set q0 (b, .inl (cA, n, .inl g))) → va_S A H0 H1 locs1 → W p l e R s m args below meth c H1 locs1 cells slots Q (F0 m (pc + 1) ls rest)) : W p l e R s m args below meth c H locs cells slots Q (F0 m pc ls (.int x :: .int i :: .ref b :: rest)) :=
  va_iast hx hb hK hP hD hS q0 t0 ha ht (sA_some hf).1 hdg (fun H1 locs1 => kk _ (sA_some hf).2 H1 locs1)
theorem xzast (hx : p.tables.exec = Jvm.exec) (hb : c.code = cc) (hK : va_K D vwCl tys s) (hP : va_P D vwCl ws H) (hD : va_D A ws) (hS : va_S A H0 H locs) (q0 t0 : Nat) {cA : ClassId} {f : Nat → Int32} (ha : ws[q0]? = some (b, .inl (cA, n, .inl f))) (ht : tys[t0]? = some (cA, .boolean)) {i : Int32} {x : Int32} {k : (Nat → Int32) → Option β} (hdg : decode cc pc = .ok (.bastore, 1)) (hf : sA f n i (vp_nar .boolean x) k = some out)
    (kk : ∀ g : Nat → Int32, k g = some out → ∀ (H1 : Heap) (locs1 : List Loc), va_P D vwCl (ws.set q0 (b, .inl (cA, n, .inl g))) H1 → va_D A (ws.set q0 (b, .inl (cA, n, .inl g))) → va_S A H0 H1 locs1 → W p l e R s m args below meth c H1 locs1 cells slots Q (F0 m (pc + 1) ls rest)) : W p l e R s m args below meth c H locs cells slots Q (F0 m pc ls (.int x :: .int i :: .ref b :: rest)) :=
  va_zast hx hb hK hP hD hS q0 t0 ha ht (sA_some hf).1 hdg (fun H1 locs1 => kk _ (sA_some hf).2 H1 locs1)
theorem xbast (hx : p.tables.exec = Jvm.exec) (hb : c.code = cc) (hK : va_K D vwCl tys s) (hP : va_P D vwCl ws H) (hD : va_D A ws) (hS : va_S A H0 H locs) (q0 t0 : Nat) {cA : ClassId} {f : Nat → Int32} (ha : ws[q0]? = some (b, .inl (cA, n, .inl f))) (ht : tys[t0]? = some (cA, .byte)) {i : Int32} {x : Int32} {k : (Nat → Int32) → Option β} (hdg : decode cc pc = .ok (.bastore, 1)) (hf : sA f n i (vp_nar .byte x) k = some out)
    (kk : ∀ g : Nat → Int32, k g = some out → ∀ (H1 : Heap) (locs1 : List Loc), va_P D vwCl (ws.set q0 (b, .inl (cA, n, .inl g))) H1 → va_D A (ws.set q0 (b, .inl (cA, n, .inl g))) → va_S A H0 H1 locs1 → W p l e R s m args below meth c H1 locs1 cells slots Q (F0 m (pc + 1) ls rest)) : W p l e R s m args below meth c H locs cells slots Q (F0 m pc ls (.int x :: .int i :: .ref b :: rest)) :=
  va_bast hx hb hK hP hD hS q0 t0 ha ht (sA_some hf).1 hdg (fun H1 locs1 => kk _ (sA_some hf).2 H1 locs1)
theorem xlast (hx : p.tables.exec = Jvm.exec) (hb : c.code = cc) (hK : va_K D vwCl tys s) (hP : va_P D vwCl ws H) (hD : va_D A ws) (hS : va_S A H0 H locs) (q0 t0 : Nat) {cA : ClassId} {f : Nat → Int64} (ha : ws[q0]? = some (b, .inl (cA, n, .inr (.inl f)))) (ht : tys[t0]? = some (cA, .long)) {i : Int32} {x : Int64} {k : (Nat → Int64) → Option β} (hdg : decode cc pc = .ok (.lastore, 1)) (hf : sL f n i x k = some out)
    (kk : ∀ g : Nat → Int64, k g = some out → ∀ (H1 : Heap) (locs1 : List Loc), va_P D vwCl (ws.set q0 (b, .inl (cA, n, .inr (.inl g)))) H1 → va_D A (ws.set q0 (b, .inl (cA, n, .inr (.inl g)))) → va_S A H0 H1 locs1 → W p l e R s m args below meth c H1 locs1 cells slots Q (F0 m (pc + 1) ls rest)) : W p l e R s m args below meth c H locs cells slots Q (F0 m pc ls (.long x :: .int i :: .ref b :: rest)) :=
  va_last hx hb hK hP hD hS q0 t0 ha ht (sL_some hf).1 hdg (fun H1 locs1 => kk _ (sL_some hf).2 H1 locs1)
theorem xidiv (hx : p.tables.exec = Jvm.exec) (hb : c.code = cc) {x y : Int32} {k : Int32 → Option β} (hdg : decode cc pc = .ok (.idiv, 1)) (hf : dvI x y k = some out) (kk : ∀ v : Int32, k v = some out → W p l e R s m args below meth c H locs cells slots Q (F0 m (pc + 1) ls (.int v :: rest))) : W p l e R s m args below meth c H locs cells slots Q (F0 m pc ls (.int y :: .int x :: rest)) :=
  lv_idiv hx hb hdg (dvI_some hf).1 (kk _ (dvI_some hf).2)
theorem xirem (hx : p.tables.exec = Jvm.exec) (hb : c.code = cc) {x y : Int32} {k : Int32 → Option β} (hdg : decode cc pc = .ok (.irem, 1)) (hf : rmI x y k = some out) (kk : ∀ v : Int32, k v = some out → W p l e R s m args below meth c H locs cells slots Q (F0 m (pc + 1) ls (.int v :: rest))) : W p l e R s m args below meth c H locs cells slots Q (F0 m pc ls (.int y :: .int x :: rest)) :=
  lv_irem hx hb hdg (rmI_some hf).1 (kk _ (rmI_some hf).2)
theorem xldiv (hx : p.tables.exec = Jvm.exec) (hb : c.code = cc) {x y : Int64} {k : Int64 → Option β} (hdg : decode cc pc = .ok (.ldiv, 1)) (hf : dvL x y k = some out) (kk : ∀ v : Int64, k v = some out → W p l e R s m args below meth c H locs cells slots Q (F0 m (pc + 1) ls (.long v :: rest))) : W p l e R s m args below meth c H locs cells slots Q (F0 m pc ls (.long y :: .long x :: rest)) :=
  lv_ldiv hx hb hdg (dvL_some hf).1 (kk _ (dvL_some hf).2)
theorem xlrem (hx : p.tables.exec = Jvm.exec) (hb : c.code = cc) {x y : Int64} {k : Int64 → Option β} (hdg : decode cc pc = .ok (.lrem, 1)) (hf : rmL x y k = some out) (kk : ∀ v : Int64, k v = some out → W p l e R s m args below meth c H locs cells slots Q (F0 m (pc + 1) ls (.long v :: rest))) : W p l e R s m args below meth c H locs cells slots Q (F0 m pc ls (.long y :: .long x :: rest)) :=
  lv_lrem hx hb hdg (rmL_some hf).1 (kk _ (rmL_some hf).2)
theorem xif_eq (hx : p.tables.exec = Jvm.exec) (hb : c.code = cc) {x : Int32} {off : Int} (tgt : Nat) {F G : Option β} (hdg : decode cc pc = .ok (.ifCond .eq off, 3)) (ht : (pc : Int) + off = (tgt : Int)) (hf : (if x = 0 then F else G) = some out)
    (kt : F = some out → W p l e R s m args below meth c H locs cells slots Q (F0 m tgt ls rest)) (kf : G = some out → W p l e R s m args below meth c H locs cells slots Q (F0 m (pc + 3) ls rest)) : W p l e R s m args below meth c H locs cells slots Q (F0 m pc ls (.int x :: rest)) :=
  lv_if_eq hx hb hdg ht (fun h => kt ((if_pos h).symm.trans hf)) (fun h => kf ((if_neg h).symm.trans hf))
theorem xicmp_eq (hx : p.tables.exec = Jvm.exec) (hb : c.code = cc) {x y : Int32} {off : Int} (tgt : Nat) {F G : Option β} (hdg : decode cc pc = .ok (.if_icmp .eq off, 3)) (ht : (pc : Int) + off = (tgt : Int)) (hf : (if x = y then F else G) = some out)
    (kt : F = some out → W p l e R s m args below meth c H locs cells slots Q (F0 m tgt ls rest)) (kf : G = some out → W p l e R s m args below meth c H locs cells slots Q (F0 m (pc + 3) ls rest)) : W p l e R s m args below meth c H locs cells slots Q (F0 m pc ls (.int y :: .int x :: rest)) :=
  lv_icmp_eq hx hb hdg ht (fun h => kt ((if_pos h).symm.trans hf)) (fun h => kf ((if_neg h).symm.trans hf))
theorem xif_ne (hx : p.tables.exec = Jvm.exec) (hb : c.code = cc) {x : Int32} {off : Int} (tgt : Nat) {F G : Option β} (hdg : decode cc pc = .ok (.ifCond .ne off, 3)) (ht : (pc : Int) + off = (tgt : Int)) (hf : (if x = 0 then F else G) = some out)
    (kf : F = some out → W p l e R s m args below meth c H locs cells slots Q (F0 m (pc + 3) ls rest)) (kt : G = some out → W p l e R s m args below meth c H locs cells slots Q (F0 m tgt ls rest)) : W p l e R s m args below meth c H locs cells slots Q (F0 m pc ls (.int x :: rest)) :=
  lv_if_ne hx hb hdg ht (fun h => kt ((if_neg h).symm.trans hf)) (fun h => kf ((if_pos h).symm.trans hf))
theorem xicmp_ne (hx : p.tables.exec = Jvm.exec) (hb : c.code = cc) {x y : Int32} {off : Int} (tgt : Nat) {F G : Option β} (hdg : decode cc pc = .ok (.if_icmp .ne off, 3)) (ht : (pc : Int) + off = (tgt : Int)) (hf : (if x = y then F else G) = some out)
    (kf : F = some out → W p l e R s m args below meth c H locs cells slots Q (F0 m (pc + 3) ls rest)) (kt : G = some out → W p l e R s m args below meth c H locs cells slots Q (F0 m tgt ls rest)) : W p l e R s m args below meth c H locs cells slots Q (F0 m pc ls (.int y :: .int x :: rest)) :=
  lv_icmp_ne hx hb hdg ht (fun h => kt ((if_neg h).symm.trans hf)) (fun h => kf ((if_pos h).symm.trans hf))
theorem xif_lt (hx : p.tables.exec = Jvm.exec) (hb : c.code = cc) {x : Int32} {off : Int} (tgt : Nat) {F G : Option β} (hdg : decode cc pc = .ok (.ifCond .lt off, 3)) (ht : (pc : Int) + off = (tgt : Int)) (hf : (if x < 0 then F else G) = some out)
    (kt : F = some out → W p l e R s m args below meth c H locs cells slots Q (F0 m tgt ls rest)) (kf : G = some out → W p l e R s m args below meth c H locs cells slots Q (F0 m (pc + 3) ls rest)) : W p l e R s m args below meth c H locs cells slots Q (F0 m pc ls (.int x :: rest)) :=
  lv_if_lt hx hb hdg ht (fun h => kt ((if_pos h).symm.trans hf)) (fun h => kf ((if_neg h).symm.trans hf))
theorem xicmp_lt (hx : p.tables.exec = Jvm.exec) (hb : c.code = cc) {x y : Int32} {off : Int} (tgt : Nat) {F G : Option β} (hdg : decode cc pc = .ok (.if_icmp .lt off, 3)) (ht : (pc : Int) + off = (tgt : Int)) (hf : (if x < y then F else G) = some out)
    (kt : F = some out → W p l e R s m args below meth c H locs cells slots Q (F0 m tgt ls rest)) (kf : G = some out → W p l e R s m args below meth c H locs cells slots Q (F0 m (pc + 3) ls rest)) : W p l e R s m args below meth c H locs cells slots Q (F0 m pc ls (.int y :: .int x :: rest)) :=
  lv_icmp_lt hx hb hdg ht (fun h => kt ((if_pos h).symm.trans hf)) (fun h => kf ((if_neg h).symm.trans hf))
theorem xif_ge (hx : p.tables.exec = Jvm.exec) (hb : c.code = cc) {x : Int32} {off : Int} (tgt : Nat) {F G : Option β} (hdg : decode cc pc = .ok (.ifCond .ge off, 3)) (ht : (pc : Int) + off = (tgt : Int)) (hf : (if 0 ≤ x then F else G) = some out)
    (kt : F = some out → W p l e R s m args below meth c H locs cells slots Q (F0 m tgt ls rest)) (kf : G = some out → W p l e R s m args below meth c H locs cells slots Q (F0 m (pc + 3) ls rest)) : W p l e R s m args below meth c H locs cells slots Q (F0 m pc ls (.int x :: rest)) :=
  lv_if_ge hx hb hdg ht (fun h => kt ((if_pos h).symm.trans hf)) (fun h => kf ((if_neg h).symm.trans hf))
theorem xicmp_ge (hx : p.tables.exec = Jvm.exec) (hb : c.code = cc) {x y : Int32} {off : Int} (tgt : Nat) {F G : Option β} (hdg : decode cc pc = .ok (.if_icmp .ge off, 3)) (ht : (pc : Int) + off = (tgt : Int)) (hf : (if y ≤ x then F else G) = some out)
    (kt : F = some out → W p l e R s m args below meth c H locs cells slots Q (F0 m tgt ls rest)) (kf : G = some out → W p l e R s m args below meth c H locs cells slots Q (F0 m (pc + 3) ls rest)) : W p l e R s m args below meth c H locs cells slots Q (F0 m pc ls (.int y :: .int x :: rest)) :=
  lv_icmp_ge hx hb hdg ht (fun h => kt ((if_pos h).symm.trans hf)) (fun h => kf ((if_neg h).symm.trans hf))
theorem xif_gt (hx : p.tables.exec = Jvm.exec) (hb : c.code = cc) {x : Int32} {off : Int} (tgt : Nat) {F G : Option β} (hdg : decode cc pc = .ok (.ifCond .gt off, 3)) (ht : (pc : Int) + off = (tgt : Int)) (hf : (if 0 < x then F else G) = some out)
    (kt : F = some out → W p l e R s m args below meth c H locs cells slots Q (F0 m tgt ls rest)) (kf : G = some out → W p l e R s m args below meth c H locs cells slots Q (F0 m (pc + 3) ls rest)) : W p l e R s m args below meth c H locs cells slots Q (F0 m pc ls (.int x :: rest)) :=
  lv_if_gt hx hb hdg ht (fun h => kt ((if_pos h).symm.trans hf)) (fun h => kf ((if_neg h).symm.trans hf))
theorem xicmp_gt (hx : p.tables.exec = Jvm.exec) (hb : c.code = cc) {x y : Int32} {off : Int} (tgt : Nat) {F G : Option β} (hdg : decode cc pc = .ok (.if_icmp .gt off, 3)) (ht : (pc : Int) + off = (tgt : Int)) (hf : (if y < x then F else G) = some out)
    (kt : F = some out → W p l e R s m args below meth c H locs cells slots Q (F0 m tgt ls rest)) (kf : G = some out → W p l e R s m args below meth c H locs cells slots Q (F0 m (pc + 3) ls rest)) : W p l e R s m args below meth c H locs cells slots Q (F0 m pc ls (.int y :: .int x :: rest)) :=
  lv_icmp_gt hx hb hdg ht (fun h => kt ((if_pos h).symm.trans hf)) (fun h => kf ((if_neg h).symm.trans hf))
theorem xif_le (hx : p.tables.exec = Jvm.exec) (hb : c.code = cc) {x : Int32} {off : Int} (tgt : Nat) {F G : Option β} (hdg : decode cc pc = .ok (.ifCond .le off, 3)) (ht : (pc : Int) + off = (tgt : Int)) (hf : (if x ≤ 0 then F else G) = some out)
    (kt : F = some out → W p l e R s m args below meth c H locs cells slots Q (F0 m tgt ls rest)) (kf : G = some out → W p l e R s m args below meth c H locs cells slots Q (F0 m (pc + 3) ls rest)) : W p l e R s m args below meth c H locs cells slots Q (F0 m pc ls (.int x :: rest)) :=
  lv_if_le hx hb hdg ht (fun h => kt ((if_pos h).symm.trans hf)) (fun h => kf ((if_neg h).symm.trans hf))
theorem xicmp_le (hx : p.tables.exec = Jvm.exec) (hb : c.code = cc) {x y : Int32} {off : Int} (tgt : Nat) {F G : Option β} (hdg : decode cc pc = .ok (.if_icmp .le off, 3)) (ht : (pc : Int) + off = (tgt : Int)) (hf : (if x ≤ y then F else G) = some out)
    (kt : F = some out → W p l e R s m args below meth c H locs cells slots Q (F0 m tgt ls rest)) (kf : G = some out → W p l e R s m args below meth c H locs cells slots Q (F0 m (pc + 3) ls rest)) : W p l e R s m args below meth c H locs cells slots Q (F0 m pc ls (.int y :: .int x :: rest)) :=
  lv_icmp_le hx hb hdg ht (fun h => kt ((if_pos h).symm.trans hf)) (fun h => kf ((if_neg h).symm.trans hf))
theorem mcV1_i {r0 : Int32} {X : Prop} (hx : p.tables.exec = Jvm.exec) (hb : c.code = cc) (hml : c.maxLocals = nL) (hown : s.vm.findClass own = some m.cls) (hts : ∀ w ∈ lw_g, w.before args s = true) (hK : va_K D vwCl tys s) (hP : va_P D vwCl ws H) (hD : va_D A ws) (hS : va_S A H0 H locs) (hA : ∀ q, H0.size ≤ q → A q)
    (hM : ∀ sz, Met l y (mw y bytes maxL ret) rm (mPre D tys ws sz (.ref b :: As)) (mQi D w1 r0 X (va_A ws sz)) 0 0 (va_A ws sz)) (cw : CallW R s args own C index y bytes maxL ret (mw y bytes maxL ret) rm 0 0 n) (q0 : Nat) {ci : Nat} {fs : List Value} {q : vw_C} (hc : vwCl[ci]? = some q) (hq : q.1 = C) (he : ws[q0]? = some (b, .inr (ci, fs)))
    (hlen : As.length = n) (hsz : ls.size = nL) (hst : st = As.reverse ++ .ref b :: rest) (hrest : (rest.map fun v => v.category).sum ≤ 8) (hdg : decode cc pc = .ok (.invokevirtual index, 3)) (hroom : cells ≤ R.cells ∧ slots ≤ R.slots)
    (kk : X → ∀ (H1 : Heap) (locs1 : List Loc), va_P D vwCl w1 H1 → va_D A w1 → va_S A H0 H1 locs1 → W p l e R s m args below meth c H1 locs1 cells slots Q (F0 m (pc + 3) ls (.int r0 :: rest))) : W p l e R s m args below meth c H locs cells slots Q (F0 m pc ls st) := by
  subst hst
  have hFc : ∀ q, va_A ws H.size q → A q := by
    intro q h
    rcases h with ⟨k, e2, h⟩ | h
    · exact hD.2 k _ h
    · exact hA q (Nat.le_trans hS.1 h)
  refine va_calli (va_runV (As := As) (rest := rest) ⟨hx, hb, hml, hown, hts⟩ (hM H.size) cw ⟨mPre_blind, hq ▸ va_recv hK hP hc he, fun U hU hW => ⟨rfl, by rw [hU], by rw [hU]; exact hP, va_K.moved hW.alike hK, hD.weaken (fun _ _ _ _ => trivial)⟩⟩ rfl hlen hsz rfl (lv_room hrest) hdg hroom) hS (fun q _ h => hFc q h) hFc (fun r u t H1 locs1 ht hvm hw hB hz1 hk1 hS1 => ?_)
  obtain ⟨hP1, hD1⟩ := hB
  rw [ht] at hP1
  obtain ⟨rfl, hX⟩ := hw
  exact kk hX H1 locs1 hP1 (hD1.weaken (fun k q _ h => hFc q.1 h)) hS1
theorem mcV1_l {r0 : Int64} (hx : p.tables.exec = Jvm.exec) (hb : c.code = cc) (hml : c.maxLocals = nL) (hown : s.vm.findClass own = some m.cls) (hts : ∀ w ∈ lw_g, w.before args s = true) (hK : va_K D vwCl tys s) (hP : va_P D vwCl ws H) (hD : va_D A ws) (hS : va_S A H0 H locs) (hA : ∀ q, H0.size ≤ q → A q)
    (hM : ∀ sz, Met l y (mw y bytes maxL ret) rm (mPre D tys ws sz (.ref b :: As)) (mQl D w1 r0 (va_A ws sz)) 0 0 (va_A ws sz)) (cw : CallW R s args own C index y bytes maxL ret (mw y bytes maxL ret) rm 0 0 n) (q0 : Nat) {ci : Nat} {fs : List Value} {q : vw_C} (hc : vwCl[ci]? = some q) (hq : q.1 = C) (he : ws[q0]? = some (b, .inr (ci, fs)))
    (hlen : As.length = n) (hsz : ls.size = nL) (hst : st = As.reverse ++ .ref b :: rest) (hrest : (rest.map fun v => v.category).sum ≤ 8) (hdg : decode cc pc = .ok (.invokevirtual index, 3)) (hroom : cells ≤ R.cells ∧ slots ≤ R.slots)
    (kk : ∀ (H1 : Heap) (locs1 : List Loc), va_P D vwCl w1 H1 → va_D A w1 → va_S A H0 H1 locs1 → W p l e R s m args below meth c H1 locs1 cells slots Q (F0 m (pc + 3) ls (.long r0 :: rest))) : W p l e R s m args below meth c H locs cells slots Q (F0 m pc ls st) := by
  subst hst
  have hFc : ∀ q, va_A ws H.size q → A q := by
    intro q h
    rcases h with ⟨k, e2, h⟩ | h
    · exact hD.2 k _ h
    · exact hA q (Nat.le_trans hS.1 h)
  refine va_calll (va_runV (As := As) (rest := rest) ⟨hx, hb, hml, hown, hts⟩ (hM H.size) cw ⟨mPre_blind, hq ▸ va_recv hK hP hc he, fun U hU hW => ⟨rfl, by rw [hU], by rw [hU]; exact hP, va_K.moved hW.alike hK, hD.weaken (fun _ _ _ _ => trivial)⟩⟩ rfl hlen hsz rfl (lv_room hrest) hdg hroom) hS (fun q _ h => hFc q h) hFc (fun r u t H1 locs1 ht hvm hw hB hz1 hk1 hS1 => ?_)
  obtain ⟨hP1, hD1⟩ := hB
  rw [ht] at hP1
  subst hw
  exact kk H1 locs1 hP1 (hD1.weaken (fun k q _ h => hFc q.1 h)) hS1
theorem mcV1_v  (hx : p.tables.exec = Jvm.exec) (hb : c.code = cc) (hml : c.maxLocals = nL) (hown : s.vm.findClass own = some m.cls) (hts : ∀ w ∈ lw_g, w.before args s = true) (hK : va_K D vwCl tys s) (hP : va_P D vwCl ws H) (hD : va_D A ws) (hS : va_S A H0 H locs) (hA : ∀ q, H0.size ≤ q → A q)
    (hM : ∀ sz, Met l y (mw y bytes maxL ret) rm (mPre D tys ws sz (.ref b :: As)) (mQv D w1 (va_A ws sz)) 0 0 (va_A ws sz)) (cw : CallW R s args own C index y bytes maxL ret (mw y bytes maxL ret) rm 0 0 n) (q0 : Nat) {ci : Nat} {fs : List Value} {q : vw_C} (hc : vwCl[ci]? = some q) (hq : q.1 = C) (he : ws[q0]? = some (b, .inr (ci, fs)))
    (hlen : As.length = n) (hsz : ls.size = nL) (hst : st = As.reverse ++ .ref b :: rest) (hrest : (rest.map fun v => v.category).sum ≤ 8) (hdg : decode cc pc = .ok (.invokevirtual index, 3)) (hroom : cells ≤ R.cells ∧ slots ≤ R.slots)
    (kk : ∀ (H1 : Heap) (locs1 : List Loc), va_P D vwCl w1 H1 → va_D A w1 → va_S A H0 H1 locs1 → W p l e R s m args below meth c H1 locs1 cells slots Q (F0 m (pc + 3) ls (rest))) : W p l e R s m args below meth c H locs cells slots Q (F0 m pc ls st) := by
  subst hst
  have hFc : ∀ q, va_A ws H.size q → A q := by
    intro q h
    rcases h with ⟨k, e2, h⟩ | h
    · exact hD.2 k _ h
    · exact hA q (Nat.le_trans hS.1 h)
  refine va_callv (va_runV (As := As) (rest := rest) ⟨hx, hb, hml, hown, hts⟩ (hM H.size) cw ⟨mPre_blind, hq ▸ va_recv hK hP hc he, fun U hU hW => ⟨rfl, by rw [hU], by rw [hU]; exact hP, va_K.moved hW.alike hK, hD.weaken (fun _ _ _ _ => trivial)⟩⟩ rfl hlen hsz rfl (lv_room hrest) hdg hroom) hS (fun q _ h => hFc q h) hFc (fun u t H1 locs1 ht hvm hw hB hz1 hk1 hS1 => ?_)
  obtain ⟨hP1, hD1⟩ := hB
  rw [ht] at hP1
  exact kk H1 locs1 hP1 (hD1.weaken (fun k q _ h => hFc q.1 h)) hS1
end
end
section
section
set_option maxRecDepth 100000 in
theorem wd50 : Cond.selects RX12 yX12_get yX12_get ∈ lw_g := at_k 50 (by decide +kernel) rfl
set_option maxRecDepth 100000 in
theorem wd82 : Cond.selects RX12 yX12_isPerson yX12_isPerson ∈ lw_g := at_k 82 (by decide +kernel) rfl
set_option maxRecDepth 100000 in
theorem wd140 : Cond.initialized RX12 ∈ lw_g := at_k 140 (by decide +kernel) rfl
set_option maxRecDepth 100000 in
theorem wd1376 : Cond.fieldLink RX12 7 "WolfsHeadModel" "a" "[I" ∈ lw_g := at_k 1376 (by decide +kernel) rfl
set_option maxRecDepth 100000 in
theorem wd1470 : Cond.methodLink RX12 63 yX12_isIn ∈ lw_g := at_k 1470 (by decide +kernel) rfl
set_option maxRecDepth 100000 in
theorem wd1471 : Cond.static yX12_isIn ∈ lw_g := at_k 1471 (by decide +kernel) rfl
set_option maxRecDepth 100000 in
theorem wd1472 : Cond.code yX12_isIn cX12_isIn 3 (some .boolean) ∈ lw_g := at_k 1472 (by decide +kernel) rfl
set_option maxRecDepth 100000 in
theorem wd1496 : Cond.methodLink RX12 71 yX12_get ∈ lw_g := at_k 1496 (by decide +kernel) rfl
set_option maxRecDepth 100000 in
theorem wd1498 : Cond.instanceMethod yX12_get ∈ lw_g := at_k 1498 (by decide +kernel) rfl
set_option maxRecDepth 100000 in
theorem wd1499 : Cond.code yX12_get cX12_get 3 (some .int) ∈ lw_g := at_k 1499 (by decide +kernel) rfl
set_option maxRecDepth 100000 in
theorem wd1681 : Cond.methodLink RX12 67 yX12_isPerson ∈ lw_g := at_k 1681 (by decide +kernel) rfl
set_option maxRecDepth 100000 in
theorem wd1683 : Cond.instanceMethod yX12_isPerson ∈ lw_g := at_k 1683 (by decide +kernel) rfl
set_option maxRecDepth 100000 in
theorem wd1684 : Cond.code yX12_isPerson cX12_isPerson 2 (some .boolean) ∈ lw_g := at_k 1684 (by decide +kernel) rfl
set_option maxRecDepth 100000 in
theorem inX12 : ∀ w ∈ u_ws RX12 TX12 29, w ∈ lw_g := all_k [1405, 1407, 1409, 1411, 1413, 1415, 1417, 1419, 1421, 1423, 1425, 1427, 1429, 1431, 1433, 1435, 1437, 1439, 1441, 1443, 1445, 1447, 1449, 1451, 1453, 1455, 1457, 1459, 1461] (by decide +kernel) (by decide +kernel)
variable {p : Program} {l : Launch} {e : Env} {R : Room} {s : State} {m : MethodId} {args : Array Value} {below : List Frame} {meth : Method} {c : Code} {H : Heap} {locs : List Loc} {cells slots : Nat} {Q : State → Prop}
variable {cc bytes : ByteArray} {pc nL maxL index n : Nat} {ls : Array Slot} {rest st : List Value} {A : Nat → Prop} {H0 : Heap} {D : va_G} {tys : List (ClassId × FieldType)} {ws wc wr w1 : va_W} {rm : Room} {b : Addr}
theorem gfX12_7 (hx : p.tables.exec = Jvm.exec) (hb : c.code = cc) (hts : ∀ w ∈ lw_g, w.before args s = true) (hown : s.vm.findClass RX12 = some m.cls) (hK : va_K D vwCl tys s) (hP : va_P D vwCl ws H) (q0 : Nat) {fs : List Value} (he : ws[q0]? = some (b, .inr (12, fs))) {v : Value} (hv : fs[0]? = some v) (hdg : decode cc pc = .ok (.getfield 7, 3)) (kk : W p l e R s m args below meth c H locs cells slots Q (F0 m (pc + 3) ls (v :: rest))) : W p l e R s m args below meth c H locs cells slots Q (F0 m pc ls (.ref b :: rest)) :=
  va_get (D := D) (ci := 12) (C := RX12) (T := TX12) (N := 29) hx hb hts inX12 hown hK hP q0 he rfl 0 (by decide) (hts _ wd1376) (fun _ h => h) hv hdg kk
theorem kwX12_63 (ht : ∀ w ∈ lw_g, w.before args s = true) (hrc : rm.cells = 0) (hrs : rm.slots = 0) (hR : rm.frames + 1 ≤ R.frames ∧ 8 + (3 + 11) + rm.locals ≤ R.locals) : CallB R s args RX12 63 yX12_isIn cX12_isIn 3 (some .boolean) (mw yX12_isIn cX12_isIn 3 (some .boolean)) rm 0 0 3 ∧ (Cond.static yX12_isIn).before args s = true :=
  mcw_S 3 ht wd1470 wd140 wd1472 wd1471 ⟨by decide, by decide, by decide +kernel⟩ hrc hrs hR
theorem kwX12_67 (ht : ∀ w ∈ lw_g, w.before args s = true) (hrc : rm.cells = 0) (hrs : rm.slots = 0) (hR : rm.frames + 1 ≤ R.frames ∧ 8 + (2 + 11) + rm.locals ≤ R.locals) : CallW R s args RX12 RX12 67 yX12_isPerson cX12_isPerson 2 (some .boolean) (mw yX12_isPerson cX12_isPerson 2 (some .boolean)) rm 0 0 1 :=
  mcw_V 1 ht wd1681 wd140 wd1684 wd1683 wd82 ⟨by decide, by decide, by decide +kernel⟩ hrc hrs hR
theorem kwX12_71 (ht : ∀ w ∈ lw_g, w.before args s = true) (hrc : rm.cells = 0) (hrs : rm.slots = 0) (hR : rm.frames + 1 ≤ R.frames ∧ 8 + (3 + 11) + rm.locals ≤ R.locals) : CallW R s args RX12 RX12 71 yX12_get cX12_get 3 (some .int) (mw yX12_get cX12_get 3 (some .int)) rm 0 0 2 :=
  mcw_V 2 ht wd1496 wd140 wd1499 wd1498 wd50 ⟨by decide, by decide, by decide +kernel⟩ hrc hrs hR
end
abbrev WM (h : Nat) (q : Nat → Nat) (cI cJ cZ : ClassId) (v_a : Nat → Int32) (v_image : Nat → Int32) (v_texts : Nat → Int32) (v_tape : Nat → Int32) (v_taped : Int32) (v_fault : Int32) (v_faultPlace : Int32) (v_at : Int32) (v_place : Int32) (v_token : Int32) (v_number : Int32) (v_word : Int64) (v_text0 : Int32) (v_written : Int32) (v_sort0 : Int32) (v_pile : Nat → Int32) (v_piled : Int32) (v_opens : Int32) (v_isWhole : Int32) (v_once : Int32) (v_named : Nat → Int32) (v_values : Nat → Int64) (v_truth : Nat → Int32) (v_isWritten : Int32) (v_died : Int32) (v_aside : Nat → Int32) (v_likely : Nat → Int32) (v_safe : Nat → Int32) (v_headOf : Nat → Int32) : va_W := [(h, .inr (12, [.ref (q 0), .ref (q 1), .ref (q 2), .ref (q 3), .int v_taped, .int v_fault, .int v_faultPlace, .int v_at, .int v_place, .int v_token, .int v_number, .long v_word, .int v_text0, .int v_written, .int v_sort0, .ref (q 4), .int v_piled, .int v_opens, .int v_isWhole, .int v_once, .ref (q 5), .ref (q 6), .ref (q 7), .int v_isWritten, .int v_died, .ref (q 8), .ref (q 9), .ref (q 10), .ref (q 11)])), ((q 0), .inl (cI, 8762, .inl v_a)), ((q 1), .inl (cI, 8762, .inl v_image)), ((q 2), .inl (cI, 2916, .inl v_texts)), ((q 3), .inl (cI, 300, .inl v_tape)), ((q 4), .inl (cI, 160, .inl v_pile)), ((q 5), .inl (cI, 10, .inl v_named)), ((q 6), .inl (cJ, 330, .inr (.inl v_values))), ((q 7), .inl (cZ, 330, .inl v_truth)), ((q 8), .inl (cI, 80, .inl v_aside)), ((q 9), .inl (cI, 56, .inl v_likely)), ((q 10), .inl (cI, 8, .inl v_safe)), ((q 11), .inl (cI, 8, .inl v_headOf))]
abbrev WC2 (qa qb : Nat) (cI : ClassId) (fr to : Nat → Int32) : va_W := [(qa, .inl (cI, 8762, .inl fr)), (qb, .inl (cI, 8762, .inl to))]
end
section
theorem dX12_copy_0 : decode cX12_copy 0 = .ok (.iconst 0, 1) := by decide +kernel
theorem dX12_copy_1 : decode cX12_copy 1 = .ok (.istore_n 2, 1) := by decide +kernel
theorem dX12_copy_2 : decode cX12_copy 2 = .ok (.iload_n 2, 1) := by decide +kernel
theorem dX12_copy_3 : decode cX12_copy 3 = .ok (.sipush 8762, 3) := by decide +kernel
theorem dX12_copy_6 : decode cX12_copy 6 = .ok (.if_icmp .ge 15, 3) := by decide +kernel
theorem dX12_copy_9 : decode cX12_copy 9 = .ok (.aload_n 1, 1) := by decide +kernel
theorem dX12_copy_10 : decode cX12_copy 10 = .ok (.iload_n 2, 1) := by decide +kernel
theorem dX12_copy_11 : decode cX12_copy 11 = .ok (.aload_n 0, 1) := by decide +kernel
theorem dX12_copy_12 : decode cX12_copy 12 = .ok (.iload_n 2, 1) := by decide +kernel
theorem dX12_copy_13 : decode cX12_copy 13 = .ok (.iaload, 1) := by decide +kernel
theorem dX12_copy_14 : decode cX12_copy 14 = .ok (.iastore, 1) := by decide +kernel
theorem dX12_copy_15 : decode cX12_copy 15 = .ok (.iinc 2 1, 3) := by decide +kernel
theorem dX12_copy_18 : decode cX12_copy 18 = .ok (.goto (-16), 3) := by decide +kernel
theorem dX12_copy_21 : decode cX12_copy 21 = .ok (.return_, 1) := by decide +kernel
def f_X12_copy_2 (N : Nat) : Nat → (Nat → Int32) → (Nat → Int32) → Int32 → Option ((Nat → Int32))
  | 0, _, _, _ => none
  | n + 1, fr, to, x2 => if (8762 : Int32) ≤ x2 then (some to) else (gA fr 8762 x2 fun v13 => sA to 8762 x2 v13 fun to_14 => (f_X12_copy_2 N n) fr to_14 (x2 + (1 : Int32)))
def f_X12_copy (N : Nat) (fr : Nat → Int32) (to : Nat → Int32) : Option ((Nat → Int32)) := f_X12_copy_2 N N fr to (0 : Int32)
set_option maxHeartbeats 4000000 in
set_option maxRecDepth 100000 in
theorem k_X12_copy (l : Launch) (N : Nat) (D : va_G) (cI cJ cZ cB cT : ClassId) (qa : Nat) (qb : Nat) (fr : Nat → Int32) (to : Nat → Int32) (o_to : Nat → Int32) (hf : f_X12_copy N fr to = some o_to) : ∀ sz, Met l yX12_copy (mw yX12_copy cX12_copy 3 none) ({ frames := 0, cells := 0, slots := 0, locals := 0 } : Room) (mPre D (mT cI cJ cZ cB cT) (WC2 qa qb cI fr to) sz [.ref qa, .ref qb]) ((mQv D (WC2 qa qb cI fr o_to)) (va_A (WC2 qa qb cI fr to) sz)) 0 0 (va_A (WC2 qa qb cI fr to) sz) := by
  refine mMet (Qc := (mQv D (WC2 qa qb cI fr o_to))) (by decide) (Nat.le_of_ble_eq_true rfl) (fun p e s m below meth c A ls hx hb hr hml hts hown hlocks hK hA hP hD hl => ?_)
  have hown : s.vm.findClass RX12 = some m.cls := hown
  have hl : lv_has ls 3 [(0, .ref qa), (1, .ref qb)] := hl
  have hS : va_S A s.heap s.heap [] := va_S.rf
  have b2 : ∀ n2 : Nat, ∀ (to : Nat → Int32) (x2 : Int32) (H : Heap) (locs : List Loc) (ls : Array Slot), f_X12_copy_2 N n2 fr to x2 = some o_to → va_P D vwCl (WC2 qa qb cI fr to) H → va_D A (WC2 qa qb cI fr to) → va_S A s.heap H locs → lv_has ls 3 [(0, .ref qa), (1, .ref qb), (2, .int x2)] → W p l e ({ frames := 0, cells := 0, slots := 0, locals := 0 } : Room) s m ([.ref qa, .ref qb] : List Value).toArray below meth c H locs 0 0 (MQ below ((mQv D (WC2 qa qb cI fr o_to)) A) ([.ref qa, .ref qb] : List Value).toArray s 0 0 A) (F0 m 2 ls []) := by
    intro n2
    induction n2 with
    | zero =>
      intro to x2 H locs ls hf hP hD hS hl
      simp [f_X12_copy_2] at hf
    | succ n2 ih2 =>
      intro to x2 H locs ls hf hP hD hS hl
      rw [f_X12_copy_2.eq_2] at hf
      refine lv_iload_n hx hb dX12_copy_2 rfl (lv_at hl 2 rfl) ?_
      refine lv_sipush (v := (8762 : Int32)) hx hb dX12_copy_3 (by decide) ?_
      refine xicmp_ge hx hb 21 dX12_copy_6 (by decide) hf (fun hf => ?_) (fun hf => ?_)
      · cases hf
        exact mret_v hx hb hr hlocks hP hD hS dX12_copy_21
      · refine lv_aload_n hx hb dX12_copy_9 rfl (lv_at hl 1 rfl) ?_
        refine lv_iload_n hx hb dX12_copy_10 rfl (lv_at hl 2 rfl) ?_
        refine lv_aload_n hx hb dX12_copy_11 rfl (lv_at hl 0 rfl) ?_
        refine lv_iload_n hx hb dX12_copy_12 rfl (lv_at hl 2 rfl) ?_
        refine xiald hx hb hK hP 0 0 rfl rfl dX12_copy_13 hf (fun v13 hf => ?_)
        refine xiast hx hb hK hP hD hS 1 0 rfl rfl dX12_copy_14 hf (fun to_14 hf H locs hP hD hS => ?_)
        have hP : va_P D vwCl (WC2 qa qb cI fr to_14) H := hP
        have hD : va_D A (WC2 qa qb cI fr to_14) := hD
        refine lv_iinc (v := (x2 + (1 : Int32))) (lv' := [(2, .int (x2 + (1 : Int32))), (0, .ref qa), (1, .ref qb)]) hx hb dX12_copy_15 hl (k := 2) rfl rfl (by decide) rfl (fun ls hl => ?_)
        refine lv_goto (tgt := 2) hx hb dX12_copy_18 (by decide) ?_
        exact ih2 to_14 (x2 + (1 : Int32)) _ _ _ hf hP hD hS (lv_sub hl [1, 2, 0] rfl)
  unfold f_X12_copy at hf
  refine lv_iconst (v := (0 : Int32)) hx hb dX12_copy_0 (by decide) ?_
  refine lv_istore_n (lv' := [(2, .int (0 : Int32)), (0, .ref qa), (1, .ref qb)]) hx hb dX12_copy_1 rfl hl (by decide) rfl (fun ls hl => ?_)
  exact b2 N to (0 : Int32) _ _ _ hf hP hD hS (lv_sub hl [1, 2, 0] rfl)
theorem dX12_isIn_0 : decode cX12_isIn 0 = .ok (.iload_n 0, 1) := by decide +kernel
theorem dX12_isIn_1 : decode cX12_isIn 1 = .ok (.iload_n 1, 1) := by decide +kernel
theorem dX12_isIn_2 : decode cX12_isIn 2 = .ok (.if_icmp .lt 12, 3) := by decide +kernel
theorem dX12_isIn_5 : decode cX12_isIn 5 = .ok (.iload_n 0, 1) := by decide +kernel
theorem dX12_isIn_6 : decode cX12_isIn 6 = .ok (.iload_n 2, 1) := by decide +kernel
theorem dX12_isIn_7 : decode cX12_isIn 7 = .ok (.if_icmp .gt 7, 3) := by decide +kernel
theorem dX12_isIn_10 : decode cX12_isIn 10 = .ok (.iconst 1, 1) := by decide +kernel
theorem dX12_isIn_11 : decode cX12_isIn 11 = .ok (.goto 4, 3) := by decide +kernel
theorem dX12_isIn_14 : decode cX12_isIn 14 = .ok (.iconst 0, 1) := by decide +kernel
theorem dX12_isIn_15 : decode cX12_isIn 15 = .ok (.ireturn, 1) := by decide +kernel
def f_X12_isIn (N : Nat) (p0 : Int32) (p1 : Int32) (p2 : Int32) : Option (Int32) := if p0 < p1 then (some (0 : Int32)) else (if p2 < p0 then (some (0 : Int32)) else (some (1 : Int32)))
set_option maxHeartbeats 4000000 in
set_option maxRecDepth 100000 in
theorem k_X12_isIn (l : Launch) (N : Nat) (D : va_G) (cI cJ cZ cB cT : ClassId) (p0 : Int32) (p1 : Int32) (p2 : Int32) (o_r : Int32) (hf : f_X12_isIn N p0 p1 p2 = some o_r) : ∀ sz, Met l yX12_isIn (mw yX12_isIn cX12_isIn 3 (some .boolean)) ({ frames := 0, cells := 0, slots := 0, locals := 0 } : Room) (mPre D (mT cI cJ cZ cB cT) [] sz [.int p0, .int p1, .int p2]) ((mQi D [] o_r (mB o_r)) (va_A [] sz)) 0 0 (va_A [] sz) := by
  refine mMet (Qc := (mQi D [] o_r (mB o_r))) (by decide) (Nat.le_of_ble_eq_true rfl) (fun p e s m below meth c A ls hx hb hr hml hts hown hlocks hK hA hP hD hl => ?_)
  have hown : s.vm.findClass RX12 = some m.cls := hown
  have hl : lv_has ls 3 [(0, .int p0), (1, .int p1), (2, .int p2)] := hl
  have hS : va_S A s.heap s.heap [] := va_S.rf
  unfold f_X12_isIn at hf
  refine lv_iload_n hx hb dX12_isIn_0 rfl (lv_at hl 0 rfl) ?_
  refine lv_iload_n hx hb dX12_isIn_1 rfl (lv_at hl 1 rfl) ?_
  refine xicmp_lt hx hb 14 dX12_isIn_2 (by decide) hf (fun hf => ?_) (fun hf => ?_)
  · refine lv_iconst (v := (0 : Int32)) hx hb dX12_isIn_14 (by decide) ?_
    cases hf
    exact mret_z hx hb hr hlocks hP hD hS dX12_isIn_15 rfl rfl
  · refine lv_iload_n hx hb dX12_isIn_5 rfl (lv_at hl 0 rfl) ?_
    refine lv_iload_n hx hb dX12_isIn_6 rfl (lv_at hl 2 rfl) ?_
    refine xicmp_gt hx hb 14 dX12_isIn_7 (by decide) hf (fun hf => ?_) (fun hf => ?_)
    · refine lv_iconst (v := (0 : Int32)) hx hb dX12_isIn_14 (by decide) ?_
      cases hf
      exact mret_z hx hb hr hlocks hP hD hS dX12_isIn_15 rfl rfl
    · refine lv_iconst (v := (1 : Int32)) hx hb dX12_isIn_10 (by decide) ?_
      refine lv_goto (tgt := 15) hx hb dX12_isIn_11 (by decide) ?_
      cases hf
      exact mret_z hx hb hr hlocks hP hD hS dX12_isIn_15 rfl rfl
theorem dX12_cut_0 : decode cX12_cut 0 = .ok (.lload_n 0, 1) := by decide +kernel
theorem dX12_cut_1 : decode cX12_cut 1 = .ok (.iload_n 2, 1) := by decide +kernel
theorem dX12_cut_2 : decode cX12_cut 2 = .ok (.i2l, 1) := by decide +kernel
theorem dX12_cut_3 : decode cX12_cut 3 = .ok (.lcmp, 1) := by decide +kernel
theorem dX12_cut_4 : decode cX12_cut 4 = .ok (.ifCond .ge 7, 3) := by decide +kernel
theorem dX12_cut_7 : decode cX12_cut 7 = .ok (.iload_n 2, 1) := by decide +kernel
theorem dX12_cut_8 : decode cX12_cut 8 = .ok (.goto 16, 3) := by decide +kernel
theorem dX12_cut_11 : decode cX12_cut 11 = .ok (.lload_n 0, 1) := by decide +kernel
theorem dX12_cut_12 : decode cX12_cut 12 = .ok (.iload_n 3, 1) := by decide +kernel
theorem dX12_cut_13 : decode cX12_cut 13 = .ok (.i2l, 1) := by decide +kernel
theorem dX12_cut_14 : decode cX12_cut 14 = .ok (.lcmp, 1) := by decide +kernel
theorem dX12_cut_15 : decode cX12_cut 15 = .ok (.ifCond .le 7, 3) := by decide +kernel
theorem dX12_cut_18 : decode cX12_cut 18 = .ok (.iload_n 3, 1) := by decide +kernel
theorem dX12_cut_19 : decode cX12_cut 19 = .ok (.goto 5, 3) := by decide +kernel
theorem dX12_cut_22 : decode cX12_cut 22 = .ok (.lload_n 0, 1) := by decide +kernel
theorem dX12_cut_23 : decode cX12_cut 23 = .ok (.l2i, 1) := by decide +kernel
theorem dX12_cut_24 : decode cX12_cut 24 = .ok (.ireturn, 1) := by decide +kernel
def f_X12_cut (N : Nat) (p0 : Int64) (p2 : Int32) (p3 : Int32) : Option (Int32) := if 0 ≤ (lg_cmp p0 p2.toInt64) then (if (lg_cmp p0 p3.toInt64) ≤ 0 then (some p0.toInt32) else (some p3)) else (some p2)
set_option maxHeartbeats 4000000 in
set_option maxRecDepth 100000 in
theorem k_X12_cut (l : Launch) (N : Nat) (D : va_G) (cI cJ cZ cB cT : ClassId) (p0 : Int64) (p2 : Int32) (p3 : Int32) (o_r : Int32) (hf : f_X12_cut N p0 p2 p3 = some o_r) : ∀ sz, Met l yX12_cut (mw yX12_cut cX12_cut 4 (some .int)) ({ frames := 0, cells := 0, slots := 0, locals := 0 } : Room) (mPre D (mT cI cJ cZ cB cT) [] sz [.long p0, .int p2, .int p3]) ((mQi D [] o_r True) (va_A [] sz)) 0 0 (va_A [] sz) := by
  refine mMet (Qc := (mQi D [] o_r True)) (by decide) (Nat.le_of_ble_eq_true rfl) (fun p e s m below meth c A ls hx hb hr hml hts hown hlocks hK hA hP hD hl => ?_)
  have hown : s.vm.findClass RX12 = some m.cls := hown
  have hl : lv_has ls 4 [(0, .long p0), (2, .int p2), (3, .int p3)] := hl
  have hS : va_S A s.heap s.heap [] := va_S.rf
  unfold f_X12_cut at hf
  refine lv_lload_n hx hb dX12_cut_0 rfl (lv_at hl 0 rfl) ?_
  refine lv_iload_n hx hb dX12_cut_1 rfl (lv_at hl 1 rfl) ?_
  refine lv_i2l hx hb dX12_cut_2 rfl ?_
  refine W.lcmp hx hb dX12_cut_3 ?_
  refine xif_ge hx hb 11 dX12_cut_4 (by decide) hf (fun hf => ?_) (fun hf => ?_)
  · refine lv_lload_n hx hb dX12_cut_11 rfl (lv_at hl 0 rfl) ?_
    refine lv_iload_n hx hb dX12_cut_12 rfl (lv_at hl 2 rfl) ?_
    refine lv_i2l hx hb dX12_cut_13 rfl ?_
    refine W.lcmp hx hb dX12_cut_14 ?_
    refine xif_le hx hb 22 dX12_cut_15 (by decide) hf (fun hf => ?_) (fun hf => ?_)
    · refine lv_lload_n hx hb dX12_cut_22 rfl (lv_at hl 0 rfl) ?_
      refine lv_l2i hx hb dX12_cut_23 rfl ?_
      cases hf
      exact mret_i hx hb hr hlocks hP hD hS dX12_cut_24 rfl trivial
    · refine lv_iload_n hx hb dX12_cut_18 rfl (lv_at hl 2 rfl) ?_
      refine lv_goto (tgt := 24) hx hb dX12_cut_19 (by decide) ?_
      cases hf
      exact mret_i hx hb hr hlocks hP hD hS dX12_cut_24 rfl trivial
  · refine lv_iload_n hx hb dX12_cut_7 rfl (lv_at hl 1 rfl) ?_
    refine lv_goto (tgt := 24) hx hb dX12_cut_8 (by decide) ?_
    cases hf
    exact mret_i hx hb hr hlocks hP hD hS dX12_cut_24 rfl trivial
theorem dX12_isWith_0 : decode cX12_isWith 0 = .ok (.iload_n 0, 1) := by decide +kernel
theorem dX12_isWith_1 : decode cX12_isWith 1 = .ok (.iload_n 1, 1) := by decide +kernel
theorem dX12_isWith_2 : decode cX12_isWith 2 = .ok (.ishr, 1) := by decide +kernel
theorem dX12_isWith_3 : decode cX12_isWith 3 = .ok (.iconst 1, 1) := by decide +kernel
theorem dX12_isWith_4 : decode cX12_isWith 4 = .ok (.iand, 1) := by decide +kernel
theorem dX12_isWith_5 : decode cX12_isWith 5 = .ok (.iconst 1, 1) := by decide +kernel
theorem dX12_isWith_6 : decode cX12_isWith 6 = .ok (.if_icmp .ne 7, 3) := by decide +kernel
theorem dX12_isWith_9 : decode cX12_isWith 9 = .ok (.iconst 1, 1) := by decide +kernel
theorem dX12_isWith_10 : decode cX12_isWith 10 = .ok (.goto 4, 3) := by decide +kernel
theorem dX12_isWith_13 : decode cX12_isWith 13 = .ok (.iconst 0, 1) := by decide +kernel
theorem dX12_isWith_14 : decode cX12_isWith 14 = .ok (.ireturn, 1) := by decide +kernel
def f_X12_isWith (N : Nat) (p0 : Int32) (p1 : Int32) : Option (Int32) := if ((p0 >>> (p1 &&& 31)) &&& (1 : Int32)) = (1 : Int32) then (some (1 : Int32)) else (some (0 : Int32))
set_option maxHeartbeats 4000000 in
set_option maxRecDepth 100000 in
theorem k_X12_isWith (l : Launch) (N : Nat) (D : va_G) (cI cJ cZ cB cT : ClassId) (p0 : Int32) (p1 : Int32) (o_r : Int32) (hf : f_X12_isWith N p0 p1 = some o_r) : ∀ sz, Met l yX12_isWith (mw yX12_isWith cX12_isWith 2 (some .boolean)) ({ frames := 0, cells := 0, slots := 0, locals := 0 } : Room) (mPre D (mT cI cJ cZ cB cT) [] sz [.int p0, .int p1]) ((mQi D [] o_r (mB o_r)) (va_A [] sz)) 0 0 (va_A [] sz) := by
  refine mMet (Qc := (mQi D [] o_r (mB o_r))) (by decide) (Nat.le_of_ble_eq_true rfl) (fun p e s m below meth c A ls hx hb hr hml hts hown hlocks hK hA hP hD hl => ?_)
  have hown : s.vm.findClass RX12 = some m.cls := hown
  have hl : lv_has ls 2 [(0, .int p0), (1, .int p1)] := hl
  have hS : va_S A s.heap s.heap [] := va_S.rf
  unfold f_X12_isWith at hf
  refine lv_iload_n hx hb dX12_isWith_0 rfl (lv_at hl 0 rfl) ?_
  refine lv_iload_n hx hb dX12_isWith_1 rfl (lv_at hl 1 rfl) ?_
  refine lv_ishr hx hb dX12_isWith_2 ?_
  refine lv_iconst (v := (1 : Int32)) hx hb dX12_isWith_3 (by decide) ?_
  refine lv_iand hx hb dX12_isWith_4 ?_
  refine lv_iconst (v := (1 : Int32)) hx hb dX12_isWith_5 (by decide) ?_
  refine xicmp_ne hx hb 13 dX12_isWith_6 (by decide) hf (fun hf => ?_) (fun hf => ?_)
  · refine lv_iconst (v := (1 : Int32)) hx hb dX12_isWith_9 (by decide) ?_
    refine lv_goto (tgt := 14) hx hb dX12_isWith_10 (by decide) ?_
    cases hf
    exact mret_z hx hb hr hlocks hP hD hS dX12_isWith_14 rfl rfl
  · refine lv_iconst (v := (0 : Int32)) hx hb dX12_isWith_13 (by decide) ?_
    cases hf
    exact mret_z hx hb hr hlocks hP hD hS dX12_isWith_14 rfl rfl
theorem dX12_bits_0 : decode cX12_bits 0 = .ok (.iconst 0, 1) := by decide +kernel
theorem dX12_bits_1 : decode cX12_bits 1 = .ok (.istore_n 2, 1) := by decide +kernel
theorem dX12_bits_2 : decode cX12_bits 2 = .ok (.lload_n 0, 1) := by decide +kernel
theorem dX12_bits_3 : decode cX12_bits 3 = .ok (.lstore_n 3, 1) := by decide +kernel
theorem dX12_bits_4 : decode cX12_bits 4 = .ok (.lload_n 3, 1) := by decide +kernel
theorem dX12_bits_5 : decode cX12_bits 5 = .ok (.lconst 0, 1) := by decide +kernel
theorem dX12_bits_6 : decode cX12_bits 6 = .ok (.lcmp, 1) := by decide +kernel
theorem dX12_bits_7 : decode cX12_bits 7 = .ok (.ifCond .eq 15, 3) := by decide +kernel
theorem dX12_bits_10 : decode cX12_bits 10 = .ok (.iinc 2 1, 3) := by decide +kernel
theorem dX12_bits_13 : decode cX12_bits 13 = .ok (.lload_n 3, 1) := by decide +kernel
theorem dX12_bits_14 : decode cX12_bits 14 = .ok (.lload_n 3, 1) := by decide +kernel
theorem dX12_bits_15 : decode cX12_bits 15 = .ok (.lconst 1, 1) := by decide +kernel
theorem dX12_bits_16 : decode cX12_bits 16 = .ok (.lsub, 1) := by decide +kernel
theorem dX12_bits_17 : decode cX12_bits 17 = .ok (.land, 1) := by decide +kernel
theorem dX12_bits_18 : decode cX12_bits 18 = .ok (.lstore_n 3, 1) := by decide +kernel
theorem dX12_bits_19 : decode cX12_bits 19 = .ok (.goto (-15), 3) := by decide +kernel
theorem dX12_bits_22 : decode cX12_bits 22 = .ok (.iload_n 2, 1) := by decide +kernel
theorem dX12_bits_23 : decode cX12_bits 23 = .ok (.ireturn, 1) := by decide +kernel
def f_X12_bits_4 (N : Nat) : Nat → Int32 → Int64 → Option (Int32)
  | 0, _, _ => none
  | n + 1, x2, x3 => if (lg_cmp x3 (0 : Int64)) = 0 then (some x2) else ((f_X12_bits_4 N n) (x2 + (1 : Int32)) (x3 &&& (x3 - (1 : Int64))))
def f_X12_bits (N : Nat) (p0 : Int64) : Option (Int32) := f_X12_bits_4 N N (0 : Int32) p0
set_option maxHeartbeats 4000000 in
set_option maxRecDepth 100000 in
theorem k_X12_bits (l : Launch) (N : Nat) (D : va_G) (cI cJ cZ cB cT : ClassId) (p0 : Int64) (o_r : Int32) (hf : f_X12_bits N p0 = some o_r) : ∀ sz, Met l yX12_bits (mw yX12_bits cX12_bits 5 (some .int)) ({ frames := 0, cells := 0, slots := 0, locals := 0 } : Room) (mPre D (mT cI cJ cZ cB cT) [] sz [.long p0]) ((mQi D [] o_r True) (va_A [] sz)) 0 0 (va_A [] sz) := by
  refine mMet (Qc := (mQi D [] o_r True)) (by decide) (Nat.le_of_ble_eq_true rfl) (fun p e s m below meth c A ls hx hb hr hml hts hown hlocks hK hA hP hD hl => ?_)
  have hown : s.vm.findClass RX12 = some m.cls := hown
  have hl : lv_has ls 5 [(0, .long p0)] := hl
  have hS : va_S A s.heap s.heap [] := va_S.rf
  have b4 : ∀ n4 : Nat, ∀ (x2 : Int32) (x3 : Int64) (H : Heap) (locs : List Loc) (ls : Array Slot), f_X12_bits_4 N n4 x2 x3 = some o_r → va_P D vwCl [] H → va_D A [] → va_S A s.heap H locs → lv_has ls 5 [(2, .int x2), (3, .long x3)] → W p l e ({ frames := 0, cells := 0, slots := 0, locals := 0 } : Room) s m ([.long p0] : List Value).toArray below meth c H locs 0 0 (MQ below ((mQi D [] o_r True) A) ([.long p0] : List Value).toArray s 0 0 A) (F0 m 4 ls []) := by
    intro n4
    induction n4 with
    | zero =>
      intro x2 x3 H locs ls hf hP hD hS hl
      simp [f_X12_bits_4] at hf
    | succ n4 ih4 =>
      intro x2 x3 H locs ls hf hP hD hS hl
      rw [f_X12_bits_4.eq_2] at hf
      refine lv_lload_n hx hb dX12_bits_4 rfl (lv_at hl 1 rfl) ?_
      refine lv_lconst (v := (0 : Int64)) hx hb dX12_bits_5 (by decide) ?_
      refine W.lcmp hx hb dX12_bits_6 ?_
      refine xif_eq hx hb 22 dX12_bits_7 (by decide) hf (fun hf => ?_) (fun hf => ?_)
      · refine lv_iload_n hx hb dX12_bits_22 rfl (lv_at hl 0 rfl) ?_
        cases hf
        exact mret_i hx hb hr hlocks hP hD hS dX12_bits_23 rfl trivial
      · refine lv_iinc (v := (x2 + (1 : Int32))) (lv' := [(2, .int (x2 + (1 : Int32))), (3, .long x3)]) hx hb dX12_bits_10 hl (k := 0) rfl rfl (by decide) rfl (fun ls hl => ?_)
        refine lv_lload_n hx hb dX12_bits_13 rfl (lv_at hl 1 rfl) ?_
        refine lv_lload_n hx hb dX12_bits_14 rfl (lv_at hl 1 rfl) ?_
        refine lv_lconst (v := (1 : Int64)) hx hb dX12_bits_15 (by decide) ?_
        refine lv_lsub hx hb dX12_bits_16 ?_
        refine lv_land hx hb dX12_bits_17 ?_
        refine lv_lstore_n (lv' := [(3, .long (x3 &&& (x3 - (1 : Int64)))), (2, .int (x2 + (1 : Int32)))]) hx hb dX12_bits_18 rfl hl (by decide) rfl (fun ls hl => ?_)
        refine lv_goto (tgt := 4) hx hb dX12_bits_19 (by decide) ?_
        exact ih4 (x2 + (1 : Int32)) (x3 &&& (x3 - (1 : Int64))) _ _ _ hf hP hD hS (lv_sub hl [1, 0] rfl)
  unfold f_X12_bits at hf
  refine lv_iconst (v := (0 : Int32)) hx hb dX12_bits_0 (by decide) ?_
  refine lv_istore_n (lv' := [(2, .int (0 : Int32)), (0, .long p0)]) hx hb dX12_bits_1 rfl hl (by decide) rfl (fun ls hl => ?_)
  refine lv_lload_n hx hb dX12_bits_2 rfl (lv_at hl 1 rfl) ?_
  refine lv_lstore_n (lv' := [(3, .long p0), (2, .int (0 : Int32)), (0, .long p0)]) hx hb dX12_bits_3 rfl hl (by decide) rfl (fun ls hl => ?_)
  exact b4 N (0 : Int32) p0 _ _ _ hf hP hD hS (lv_sub hl [1, 0] rfl)
theorem dX12_isLand_0 : decode cX12_isLand 0 = .ok (.iload_n 1, 1) := by decide +kernel
theorem dX12_isLand_1 : decode cX12_isLand 1 = .ok (.iconst 0, 1) := by decide +kernel
theorem dX12_isLand_2 : decode cX12_isLand 2 = .ok (.aload_n 0, 1) := by decide +kernel
theorem dX12_isLand_3 : decode cX12_isLand 3 = .ok (.getfield 7, 3) := by decide +kernel
theorem dX12_isLand_6 : decode cX12_isLand 6 = .ok (.iconst 0, 1) := by decide +kernel
theorem dX12_isLand_7 : decode cX12_isLand 7 = .ok (.iaload, 1) := by decide +kernel
theorem dX12_isLand_8 : decode cX12_isLand 8 = .ok (.iconst 1, 1) := by decide +kernel
theorem dX12_isLand_9 : decode cX12_isLand 9 = .ok (.isub, 1) := by decide +kernel
theorem dX12_isLand_10 : decode cX12_isLand 10 = .ok (.invokestatic 63, 3) := by decide +kernel
theorem dX12_isLand_13 : decode cX12_isLand 13 = .ok (.ireturn, 1) := by decide +kernel
def f_X12_isLand (N : Nat) (v_a : Nat → Int32) (p1 : Int32) : Option (Int32) := gA v_a 8762 (0 : Int32) fun v7 => ob1 (f_X12_isIn N p1 (0 : Int32) (v7 - (1 : Int32))) fun r10 => some r10
set_option maxHeartbeats 4000000 in
set_option maxRecDepth 100000 in
theorem k_X12_isLand (l : Launch) (N : Nat) (D : va_G) (cI cJ cZ cB cT : ClassId) (h : Nat) (q : Nat → Nat) (v_a : Nat → Int32) (v_image : Nat → Int32) (v_texts : Nat → Int32) (v_tape : Nat → Int32) (v_taped : Int32) (v_fault : Int32) (v_faultPlace : Int32) (v_at : Int32) (v_place : Int32) (v_token : Int32) (v_number : Int32) (v_word : Int64) (v_text0 : Int32) (v_written : Int32) (v_sort0 : Int32) (v_pile : Nat → Int32) (v_piled : Int32) (v_opens : Int32) (v_isWhole : Int32) (v_once : Int32) (v_named : Nat → Int32) (v_values : Nat → Int64) (v_truth : Nat → Int32) (v_isWritten : Int32) (v_died : Int32) (v_aside : Nat → Int32) (v_likely : Nat → Int32) (v_safe : Nat → Int32) (v_headOf : Nat → Int32) (p1 : Int32) (o_r : Int32) (hf : f_X12_isLand N v_a p1 = some o_r) : ∀ sz, Met l yX12_isLand (mw yX12_isLand cX12_isLand 2 (some .boolean)) ({ frames := 1, cells := 0, slots := 0, locals := 22 } : Room) (mPre D (mT cI cJ cZ cB cT) (WM h q cI cJ cZ v_a v_image v_texts v_tape v_taped v_fault v_faultPlace v_at v_place v_token v_number v_word v_text0 v_written v_sort0 v_pile v_piled v_opens v_isWhole v_once v_named v_values v_truth v_isWritten v_died v_aside v_likely v_safe v_headOf) sz [.ref h, .int p1]) ((mQi D (WM h q cI cJ cZ v_a v_image v_texts v_tape v_taped v_fault v_faultPlace v_at v_place v_token v_number v_word v_text0 v_written v_sort0 v_pile v_piled v_opens v_isWhole v_once v_named v_values v_truth v_isWritten v_died v_aside v_likely v_safe v_headOf) o_r (mB o_r)) (va_A (WM h q cI cJ cZ v_a v_image v_texts v_tape v_taped v_fault v_faultPlace v_at v_place v_token v_number v_word v_text0 v_written v_sort0 v_pile v_piled v_opens v_isWhole v_once v_named v_values v_truth v_isWritten v_died v_aside v_likely v_safe v_headOf) sz)) 0 0 (va_A (WM h q cI cJ cZ v_a v_image v_texts v_tape v_taped v_fault v_faultPlace v_at v_place v_token v_number v_word v_text0 v_written v_sort0 v_pile v_piled v_opens v_isWhole v_once v_named v_values v_truth v_isWritten v_died v_aside v_likely v_safe v_headOf) sz) := by
  refine mMet (Qc := (mQi D (WM h q cI cJ cZ v_a v_image v_texts v_tape v_taped v_fault v_faultPlace v_at v_place v_token v_number v_word v_text0 v_written v_sort0 v_pile v_piled v_opens v_isWhole v_once v_named v_values v_truth v_isWritten v_died v_aside v_likely v_safe v_headOf) o_r (mB o_r))) (by decide) (Nat.le_of_ble_eq_true rfl) (fun p e s m below meth c A ls hx hb hr hml hts hown hlocks hK hA hP hD hl => ?_)
  have hown : s.vm.findClass RX12 = some m.cls := hown
  have hl : lv_has ls 2 [(0, .ref h), (1, .int p1)] := hl
  have hS : va_S A s.heap s.heap [] := va_S.rf
  unfold f_X12_isLand at hf
  refine lv_iload_n hx hb dX12_isLand_0 rfl (lv_at hl 1 rfl) ?_
  refine lv_iconst (v := (0 : Int32)) hx hb dX12_isLand_1 (by decide) ?_
  refine lv_aload_n hx hb dX12_isLand_2 rfl (lv_at hl 0 rfl) ?_
  refine gfX12_7 hx hb hts hown hK hP 0 rfl rfl dX12_isLand_3 ?_
  refine lv_iconst (v := (0 : Int32)) hx hb dX12_isLand_6 (by decide) ?_
  refine xiald hx hb hK hP 1 0 rfl rfl dX12_isLand_7 hf (fun v7 hf => ?_)
  refine lv_iconst (v := (1 : Int32)) hx hb dX12_isLand_8 (by decide) ?_
  refine lv_isub hx hb dX12_isLand_9 ?_
  obtain ⟨r10, hg10, hf⟩ := ob1_some hf
  refine mcS0_i (As := [.int p1, .int (0 : Int32), .int (v7 - (1 : Int32))]) (rest := []) hx hb hml hown hts hK hP hD hS hA (k_X12_isIn l N D cI cJ cZ cB cT p1 (0 : Int32) (v7 - (1 : Int32)) r10 hg10) (kwX12_63 hts rfl rfl ⟨Nat.le_of_ble_eq_true rfl, Nat.le_of_ble_eq_true rfl⟩) rfl hl.1 rfl (Nat.le_of_ble_eq_true rfl) dX12_isLand_10 ⟨Nat.zero_le _, Nat.zero_le _⟩ (fun hB10 H locs hP hD hS => ?_)
  cases hf
  exact mret_z hx hb hr hlocks hP hD hS dX12_isLand_13 rfl hB10
theorem dX12_isPerson_0 : decode cX12_isPerson 0 = .ok (.iload_n 1, 1) := by decide +kernel
theorem dX12_isPerson_1 : decode cX12_isPerson 1 = .ok (.iconst 0, 1) := by decide +kernel
theorem dX12_isPerson_2 : decode cX12_isPerson 2 = .ok (.aload_n 0, 1) := by decide +kernel
theorem dX12_isPerson_3 : decode cX12_isPerson 3 = .ok (.getfield 7, 3) := by decide +kernel
theorem dX12_isPerson_6 : decode cX12_isPerson 6 = .ok (.iconst 1, 1) := by decide +kernel
theorem dX12_isPerson_7 : decode cX12_isPerson 7 = .ok (.iaload, 1) := by decide +kernel
theorem dX12_isPerson_8 : decode cX12_isPerson 8 = .ok (.iconst 1, 1) := by decide +kernel
theorem dX12_isPerson_9 : decode cX12_isPerson 9 = .ok (.isub, 1) := by decide +kernel
theorem dX12_isPerson_10 : decode cX12_isPerson 10 = .ok (.invokestatic 63, 3) := by decide +kernel
theorem dX12_isPerson_13 : decode cX12_isPerson 13 = .ok (.ireturn, 1) := by decide +kernel
def f_X12_isPerson (N : Nat) (v_a : Nat → Int32) (p1 : Int32) : Option (Int32) := gA v_a 8762 (1 : Int32) fun v7 => ob1 (f_X12_isIn N p1 (0 : Int32) (v7 - (1 : Int32))) fun r10 => some r10
set_option maxHeartbeats 4000000 in
set_option maxRecDepth 100000 in
theorem k_X12_isPerson (l : Launch) (N : Nat) (D : va_G) (cI cJ cZ cB cT : ClassId) (h : Nat) (q : Nat → Nat) (v_a : Nat → Int32) (v_image : Nat → Int32) (v_texts : Nat → Int32) (v_tape : Nat → Int32) (v_taped : Int32) (v_fault : Int32) (v_faultPlace : Int32) (v_at : Int32) (v_place : Int32) (v_token : Int32) (v_number : Int32) (v_word : Int64) (v_text0 : Int32) (v_written : Int32) (v_sort0 : Int32) (v_pile : Nat → Int32) (v_piled : Int32) (v_opens : Int32) (v_isWhole : Int32) (v_once : Int32) (v_named : Nat → Int32) (v_values : Nat → Int64) (v_truth : Nat → Int32) (v_isWritten : Int32) (v_died : Int32) (v_aside : Nat → Int32) (v_likely : Nat → Int32) (v_safe : Nat → Int32) (v_headOf : Nat → Int32) (p1 : Int32) (o_r : Int32) (hf : f_X12_isPerson N v_a p1 = some o_r) : ∀ sz, Met l yX12_isPerson (mw yX12_isPerson cX12_isPerson 2 (some .boolean)) ({ frames := 1, cells := 0, slots := 0, locals := 22 } : Room) (mPre D (mT cI cJ cZ cB cT) (WM h q cI cJ cZ v_a v_image v_texts v_tape v_taped v_fault v_faultPlace v_at v_place v_token v_number v_word v_text0 v_written v_sort0 v_pile v_piled v_opens v_isWhole v_once v_named v_values v_truth v_isWritten v_died v_aside v_likely v_safe v_headOf) sz [.ref h, .int p1]) ((mQi D (WM h q cI cJ cZ v_a v_image v_texts v_tape v_taped v_fault v_faultPlace v_at v_place v_token v_number v_word v_text0 v_written v_sort0 v_pile v_piled v_opens v_isWhole v_once v_named v_values v_truth v_isWritten v_died v_aside v_likely v_safe v_headOf) o_r (mB o_r)) (va_A (WM h q cI cJ cZ v_a v_image v_texts v_tape v_taped v_fault v_faultPlace v_at v_place v_token v_number v_word v_text0 v_written v_sort0 v_pile v_piled v_opens v_isWhole v_once v_named v_values v_truth v_isWritten v_died v_aside v_likely v_safe v_headOf) sz)) 0 0 (va_A (WM h q cI cJ cZ v_a v_image v_texts v_tape v_taped v_fault v_faultPlace v_at v_place v_token v_number v_word v_text0 v_written v_sort0 v_pile v_piled v_opens v_isWhole v_once v_named v_values v_truth v_isWritten v_died v_aside v_likely v_safe v_headOf) sz) := by
  refine mMet (Qc := (mQi D (WM h q cI cJ cZ v_a v_image v_texts v_tape v_taped v_fault v_faultPlace v_at v_place v_token v_number v_word v_text0 v_written v_sort0 v_pile v_piled v_opens v_isWhole v_once v_named v_values v_truth v_isWritten v_died v_aside v_likely v_safe v_headOf) o_r (mB o_r))) (by decide) (Nat.le_of_ble_eq_true rfl) (fun p e s m below meth c A ls hx hb hr hml hts hown hlocks hK hA hP hD hl => ?_)
  have hown : s.vm.findClass RX12 = some m.cls := hown
  have hl : lv_has ls 2 [(0, .ref h), (1, .int p1)] := hl
  have hS : va_S A s.heap s.heap [] := va_S.rf
  unfold f_X12_isPerson at hf
  refine lv_iload_n hx hb dX12_isPerson_0 rfl (lv_at hl 1 rfl) ?_
  refine lv_iconst (v := (0 : Int32)) hx hb dX12_isPerson_1 (by decide) ?_
  refine lv_aload_n hx hb dX12_isPerson_2 rfl (lv_at hl 0 rfl) ?_
  refine gfX12_7 hx hb hts hown hK hP 0 rfl rfl dX12_isPerson_3 ?_
  refine lv_iconst (v := (1 : Int32)) hx hb dX12_isPerson_6 (by decide) ?_
  refine xiald hx hb hK hP 1 0 rfl rfl dX12_isPerson_7 hf (fun v7 hf => ?_)
  refine lv_iconst (v := (1 : Int32)) hx hb dX12_isPerson_8 (by decide) ?_
  refine lv_isub hx hb dX12_isPerson_9 ?_
  obtain ⟨r10, hg10, hf⟩ := ob1_some hf
  refine mcS0_i (As := [.int p1, .int (0 : Int32), .int (v7 - (1 : Int32))]) (rest := []) hx hb hml hown hts hK hP hD hS hA (k_X12_isIn l N D cI cJ cZ cB cT p1 (0 : Int32) (v7 - (1 : Int32)) r10 hg10) (kwX12_63 hts rfl rfl ⟨Nat.le_of_ble_eq_true rfl, Nat.le_of_ble_eq_true rfl⟩) rfl hl.1 rfl (Nat.le_of_ble_eq_true rfl) dX12_isPerson_10 ⟨Nat.zero_le _, Nat.zero_le _⟩ (fun hB10 H locs hP hD hS => ?_)
  cases hf
  exact mret_z hx hb hr hlocks hP hD hS dX12_isPerson_13 rfl hB10
theorem dX12_get_0 : decode cX12_get 0 = .ok (.aload_n 0, 1) := by decide +kernel
theorem dX12_get_1 : decode cX12_get 1 = .ok (.getfield 7, 3) := by decide +kernel
theorem dX12_get_4 : decode cX12_get 4 = .ok (.bipush 14, 2) := by decide +kernel
theorem dX12_get_6 : decode cX12_get 6 = .ok (.bipush 11, 2) := by decide +kernel
theorem dX12_get_8 : decode cX12_get 8 = .ok (.iload_n 1, 1) := by decide +kernel
theorem dX12_get_9 : decode cX12_get 9 = .ok (.imul, 1) := by decide +kernel
theorem dX12_get_10 : decode cX12_get 10 = .ok (.iadd, 1) := by decide +kernel
theorem dX12_get_11 : decode cX12_get 11 = .ok (.iload_n 2, 1) := by decide +kernel
theorem dX12_get_12 : decode cX12_get 12 = .ok (.iadd, 1) := by decide +kernel
theorem dX12_get_13 : decode cX12_get 13 = .ok (.iaload, 1) := by decide +kernel
theorem dX12_get_14 : decode cX12_get 14 = .ok (.ireturn, 1) := by decide +kernel
def f_X12_get (N : Nat) (v_a : Nat → Int32) (p1 : Int32) (p2 : Int32) : Option (Int32) := gA v_a 8762 (((14 : Int32) + ((11 : Int32) * p1)) + p2) fun v13 => some v13
set_option maxHeartbeats 4000000 in
set_option maxRecDepth 100000 in
theorem k_X12_get (l : Launch) (N : Nat) (D : va_G) (cI cJ cZ cB cT : ClassId) (h : Nat) (q : Nat → Nat) (v_a : Nat → Int32) (v_image : Nat → Int32) (v_texts : Nat → Int32) (v_tape : Nat → Int32) (v_taped : Int32) (v_fault : Int32) (v_faultPlace : Int32) (v_at : Int32) (v_place : Int32) (v_token : Int32) (v_number : Int32) (v_word : Int64) (v_text0 : Int32) (v_written : Int32) (v_sort0 : Int32) (v_pile : Nat → Int32) (v_piled : Int32) (v_opens : Int32) (v_isWhole : Int32) (v_once : Int32) (v_named : Nat → Int32) (v_values : Nat → Int64) (v_truth : Nat → Int32) (v_isWritten : Int32) (v_died : Int32) (v_aside : Nat → Int32) (v_likely : Nat → Int32) (v_safe : Nat → Int32) (v_headOf : Nat → Int32) (p1 : Int32) (p2 : Int32) (o_r : Int32) (hf : f_X12_get N v_a p1 p2 = some o_r) : ∀ sz, Met l yX12_get (mw yX12_get cX12_get 3 (some .int)) ({ frames := 0, cells := 0, slots := 0, locals := 0 } : Room) (mPre D (mT cI cJ cZ cB cT) (WM h q cI cJ cZ v_a v_image v_texts v_tape v_taped v_fault v_faultPlace v_at v_place v_token v_number v_word v_text0 v_written v_sort0 v_pile v_piled v_opens v_isWhole v_once v_named v_values v_truth v_isWritten v_died v_aside v_likely v_safe v_headOf) sz [.ref h, .int p1, .int p2]) ((mQi D (WM h q cI cJ cZ v_a v_image v_texts v_tape v_taped v_fault v_faultPlace v_at v_place v_token v_number v_word v_text0 v_written v_sort0 v_pile v_piled v_opens v_isWhole v_once v_named v_values v_truth v_isWritten v_died v_aside v_likely v_safe v_headOf) o_r True) (va_A (WM h q cI cJ cZ v_a v_image v_texts v_tape v_taped v_fault v_faultPlace v_at v_place v_token v_number v_word v_text0 v_written v_sort0 v_pile v_piled v_opens v_isWhole v_once v_named v_values v_truth v_isWritten v_died v_aside v_likely v_safe v_headOf) sz)) 0 0 (va_A (WM h q cI cJ cZ v_a v_image v_texts v_tape v_taped v_fault v_faultPlace v_at v_place v_token v_number v_word v_text0 v_written v_sort0 v_pile v_piled v_opens v_isWhole v_once v_named v_values v_truth v_isWritten v_died v_aside v_likely v_safe v_headOf) sz) := by
  refine mMet (Qc := (mQi D (WM h q cI cJ cZ v_a v_image v_texts v_tape v_taped v_fault v_faultPlace v_at v_place v_token v_number v_word v_text0 v_written v_sort0 v_pile v_piled v_opens v_isWhole v_once v_named v_values v_truth v_isWritten v_died v_aside v_likely v_safe v_headOf) o_r True)) (by decide) (Nat.le_of_ble_eq_true rfl) (fun p e s m below meth c A ls hx hb hr hml hts hown hlocks hK hA hP hD hl => ?_)
  have hown : s.vm.findClass RX12 = some m.cls := hown
  have hl : lv_has ls 3 [(0, .ref h), (1, .int p1), (2, .int p2)] := hl
  have hS : va_S A s.heap s.heap [] := va_S.rf
  unfold f_X12_get at hf
  refine lv_aload_n hx hb dX12_get_0 rfl (lv_at hl 0 rfl) ?_
  refine gfX12_7 hx hb hts hown hK hP 0 rfl rfl dX12_get_1 ?_
  refine lv_bipush (v := (14 : Int32)) hx hb dX12_get_4 (by decide) ?_
  refine lv_bipush (v := (11 : Int32)) hx hb dX12_get_6 (by decide) ?_
  refine lv_iload_n hx hb dX12_get_8 rfl (lv_at hl 1 rfl) ?_
  refine lv_imul hx hb dX12_get_9 ?_
  refine lv_iadd hx hb dX12_get_10 ?_
  refine lv_iload_n hx hb dX12_get_11 rfl (lv_at hl 2 rfl) ?_
  refine lv_iadd hx hb dX12_get_12 ?_
  refine xiald hx hb hK hP 1 0 rfl rfl dX12_get_13 hf (fun v13 hf => ?_)
  cases hf
  exact mret_i hx hb hr hlocks hP hD hS dX12_get_14 rfl trivial
theorem dX12_put_0 : decode cX12_put 0 = .ok (.aload_n 0, 1) := by decide +kernel
theorem dX12_put_1 : decode cX12_put 1 = .ok (.getfield 7, 3) := by decide +kernel
theorem dX12_put_4 : decode cX12_put 4 = .ok (.bipush 14, 2) := by decide +kernel
theorem dX12_put_6 : decode cX12_put 6 = .ok (.bipush 11, 2) := by decide +kernel
theorem dX12_put_8 : decode cX12_put 8 = .ok (.iload_n 1, 1) := by decide +kernel
theorem dX12_put_9 : decode cX12_put 9 = .ok (.imul, 1) := by decide +kernel
theorem dX12_put_10 : decode cX12_put 10 = .ok (.iadd, 1) := by decide +kernel
theorem dX12_put_11 : decode cX12_put 11 = .ok (.iload_n 2, 1) := by decide +kernel
theorem dX12_put_12 : decode cX12_put 12 = .ok (.iadd, 1) := by decide +kernel
theorem dX12_put_13 : decode cX12_put 13 = .ok (.iload_n 3, 1) := by decide +kernel
theorem dX12_put_14 : decode cX12_put 14 = .ok (.iastore, 1) := by decide +kernel
theorem dX12_put_15 : decode cX12_put 15 = .ok (.return_, 1) := by decide +kernel
def f_X12_put (N : Nat) (v_a : Nat → Int32) (p1 : Int32) (p2 : Int32) (p3 : Int32) : Option ((Nat → Int32)) := sA v_a 8762 (((14 : Int32) + ((11 : Int32) * p1)) + p2) p3 fun v_a_14 => some v_a_14
set_option maxHeartbeats 4000000 in
set_option maxRecDepth 100000 in
theorem k_X12_put (l : Launch) (N : Nat) (D : va_G) (cI cJ cZ cB cT : ClassId) (h : Nat) (q : Nat → Nat) (v_a : Nat → Int32) (v_image : Nat → Int32) (v_texts : Nat → Int32) (v_tape : Nat → Int32) (v_taped : Int32) (v_fault : Int32) (v_faultPlace : Int32) (v_at : Int32) (v_place : Int32) (v_token : Int32) (v_number : Int32) (v_word : Int64) (v_text0 : Int32) (v_written : Int32) (v_sort0 : Int32) (v_pile : Nat → Int32) (v_piled : Int32) (v_opens : Int32) (v_isWhole : Int32) (v_once : Int32) (v_named : Nat → Int32) (v_values : Nat → Int64) (v_truth : Nat → Int32) (v_isWritten : Int32) (v_died : Int32) (v_aside : Nat → Int32) (v_likely : Nat → Int32) (v_safe : Nat → Int32) (v_headOf : Nat → Int32) (p1 : Int32) (p2 : Int32) (p3 : Int32) (o_v_a : Nat → Int32) (hf : f_X12_put N v_a p1 p2 p3 = some o_v_a) : ∀ sz, Met l yX12_put (mw yX12_put cX12_put 4 none) ({ frames := 0, cells := 0, slots := 0, locals := 0 } : Room) (mPre D (mT cI cJ cZ cB cT) (WM h q cI cJ cZ v_a v_image v_texts v_tape v_taped v_fault v_faultPlace v_at v_place v_token v_number v_word v_text0 v_written v_sort0 v_pile v_piled v_opens v_isWhole v_once v_named v_values v_truth v_isWritten v_died v_aside v_likely v_safe v_headOf) sz [.ref h, .int p1, .int p2, .int p3]) ((mQv D (WM h q cI cJ cZ o_v_a v_image v_texts v_tape v_taped v_fault v_faultPlace v_at v_place v_token v_number v_word v_text0 v_written v_sort0 v_pile v_piled v_opens v_isWhole v_once v_named v_values v_truth v_isWritten v_died v_aside v_likely v_safe v_headOf)) (va_A (WM h q cI cJ cZ v_a v_image v_texts v_tape v_taped v_fault v_faultPlace v_at v_place v_token v_number v_word v_text0 v_written v_sort0 v_pile v_piled v_opens v_isWhole v_once v_named v_values v_truth v_isWritten v_died v_aside v_likely v_safe v_headOf) sz)) 0 0 (va_A (WM h q cI cJ cZ v_a v_image v_texts v_tape v_taped v_fault v_faultPlace v_at v_place v_token v_number v_word v_text0 v_written v_sort0 v_pile v_piled v_opens v_isWhole v_once v_named v_values v_truth v_isWritten v_died v_aside v_likely v_safe v_headOf) sz) := by
  refine mMet (Qc := (mQv D (WM h q cI cJ cZ o_v_a v_image v_texts v_tape v_taped v_fault v_faultPlace v_at v_place v_token v_number v_word v_text0 v_written v_sort0 v_pile v_piled v_opens v_isWhole v_once v_named v_values v_truth v_isWritten v_died v_aside v_likely v_safe v_headOf))) (by decide) (Nat.le_of_ble_eq_true rfl) (fun p e s m below meth c A ls hx hb hr hml hts hown hlocks hK hA hP hD hl => ?_)
  have hown : s.vm.findClass RX12 = some m.cls := hown
  have hl : lv_has ls 4 [(0, .ref h), (1, .int p1), (2, .int p2), (3, .int p3)] := hl
  have hS : va_S A s.heap s.heap [] := va_S.rf
  unfold f_X12_put at hf
  refine lv_aload_n hx hb dX12_put_0 rfl (lv_at hl 0 rfl) ?_
  refine gfX12_7 hx hb hts hown hK hP 0 rfl rfl dX12_put_1 ?_
  refine lv_bipush (v := (14 : Int32)) hx hb dX12_put_4 (by decide) ?_
  refine lv_bipush (v := (11 : Int32)) hx hb dX12_put_6 (by decide) ?_
  refine lv_iload_n hx hb dX12_put_8 rfl (lv_at hl 1 rfl) ?_
  refine lv_imul hx hb dX12_put_9 ?_
  refine lv_iadd hx hb dX12_put_10 ?_
  refine lv_iload_n hx hb dX12_put_11 rfl (lv_at hl 2 rfl) ?_
  refine lv_iadd hx hb dX12_put_12 ?_
  refine lv_iload_n hx hb dX12_put_13 rfl (lv_at hl 3 rfl) ?_
  refine xiast hx hb hK hP hD hS 1 0 rfl rfl dX12_put_14 hf (fun v_a_14 hf H locs hP hD hS => ?_)
  have hP : va_P D vwCl (WM h q cI cJ cZ v_a_14 v_image v_texts v_tape v_taped v_fault v_faultPlace v_at v_place v_token v_number v_word v_text0 v_written v_sort0 v_pile v_piled v_opens v_isWhole v_once v_named v_values v_truth v_isWritten v_died v_aside v_likely v_safe v_headOf) H := hP
  have hD : va_D A (WM h q cI cJ cZ v_a_14 v_image v_texts v_tape v_taped v_fault v_faultPlace v_at v_place v_token v_number v_word v_text0 v_written v_sort0 v_pile v_piled v_opens v_isWhole v_once v_named v_values v_truth v_isWritten v_died v_aside v_likely v_safe v_headOf) := hD
  cases hf
  exact mret_v hx hb hr hlocks hP hD hS dX12_put_15
theorem dX12_isOutlaw_0 : decode cX12_isOutlaw 0 = .ok (.aload_n 0, 1) := by decide +kernel
theorem dX12_isOutlaw_1 : decode cX12_isOutlaw 1 = .ok (.iload_n 1, 1) := by decide +kernel
theorem dX12_isOutlaw_2 : decode cX12_isOutlaw 2 = .ok (.invokevirtual 67, 3) := by decide +kernel
theorem dX12_isOutlaw_5 : decode cX12_isOutlaw 5 = .ok (.ifCond .eq 18, 3) := by decide +kernel
theorem dX12_isOutlaw_8 : decode cX12_isOutlaw 8 = .ok (.aload_n 0, 1) := by decide +kernel
theorem dX12_isOutlaw_9 : decode cX12_isOutlaw 9 = .ok (.iload_n 1, 1) := by decide +kernel
theorem dX12_isOutlaw_10 : decode cX12_isOutlaw 10 = .ok (.bipush 6, 2) := by decide +kernel
theorem dX12_isOutlaw_12 : decode cX12_isOutlaw 12 = .ok (.invokevirtual 71, 3) := by decide +kernel
theorem dX12_isOutlaw_15 : decode cX12_isOutlaw 15 = .ok (.iconst 1, 1) := by decide +kernel
theorem dX12_isOutlaw_16 : decode cX12_isOutlaw 16 = .ok (.if_icmp .ne 7, 3) := by decide +kernel
theorem dX12_isOutlaw_19 : decode cX12_isOutlaw 19 = .ok (.iconst 1, 1) := by decide +kernel
theorem dX12_isOutlaw_20 : decode cX12_isOutlaw 20 = .ok (.goto 4, 3) := by decide +kernel
theorem dX12_isOutlaw_23 : decode cX12_isOutlaw 23 = .ok (.iconst 0, 1) := by decide +kernel
theorem dX12_isOutlaw_24 : decode cX12_isOutlaw 24 = .ok (.ireturn, 1) := by decide +kernel
def f_X12_isOutlaw (N : Nat) (v_a : Nat → Int32) (p1 : Int32) : Option (Int32) := ob1 (f_X12_isPerson N v_a p1) fun r2 => if r2 = 0 then (some (0 : Int32)) else (ob1 (f_X12_get N v_a p1 (6 : Int32)) fun r12 => if r12 = (1 : Int32) then (some (1 : Int32)) else (some (0 : Int32)))
set_option maxHeartbeats 4000000 in
set_option maxRecDepth 100000 in
theorem k_X12_isOutlaw (l : Launch) (N : Nat) (D : va_G) (cI cJ cZ cB cT : ClassId) (h : Nat) (q : Nat → Nat) (v_a : Nat → Int32) (v_image : Nat → Int32) (v_texts : Nat → Int32) (v_tape : Nat → Int32) (v_taped : Int32) (v_fault : Int32) (v_faultPlace : Int32) (v_at : Int32) (v_place : Int32) (v_token : Int32) (v_number : Int32) (v_word : Int64) (v_text0 : Int32) (v_written : Int32) (v_sort0 : Int32) (v_pile : Nat → Int32) (v_piled : Int32) (v_opens : Int32) (v_isWhole : Int32) (v_once : Int32) (v_named : Nat → Int32) (v_values : Nat → Int64) (v_truth : Nat → Int32) (v_isWritten : Int32) (v_died : Int32) (v_aside : Nat → Int32) (v_likely : Nat → Int32) (v_safe : Nat → Int32) (v_headOf : Nat → Int32) (p1 : Int32) (o_r : Int32) (hf : f_X12_isOutlaw N v_a p1 = some o_r) : ∀ sz, Met l yX12_isOutlaw (mw yX12_isOutlaw cX12_isOutlaw 2 (some .boolean)) ({ frames := 2, cells := 0, slots := 0, locals := 43 } : Room) (mPre D (mT cI cJ cZ cB cT) (WM h q cI cJ cZ v_a v_image v_texts v_tape v_taped v_fault v_faultPlace v_at v_place v_token v_number v_word v_text0 v_written v_sort0 v_pile v_piled v_opens v_isWhole v_once v_named v_values v_truth v_isWritten v_died v_aside v_likely v_safe v_headOf) sz [.ref h, .int p1]) ((mQi D (WM h q cI cJ cZ v_a v_image v_texts v_tape v_taped v_fault v_faultPlace v_at v_place v_token v_number v_word v_text0 v_written v_sort0 v_pile v_piled v_opens v_isWhole v_once v_named v_values v_truth v_isWritten v_died v_aside v_likely v_safe v_headOf) o_r (mB o_r)) (va_A (WM h q cI cJ cZ v_a v_image v_texts v_tape v_taped v_fault v_faultPlace v_at v_place v_token v_number v_word v_text0 v_written v_sort0 v_pile v_piled v_opens v_isWhole v_once v_named v_values v_truth v_isWritten v_died v_aside v_likely v_safe v_headOf) sz)) 0 0 (va_A (WM h q cI cJ cZ v_a v_image v_texts v_tape v_taped v_fault v_faultPlace v_at v_place v_token v_number v_word v_text0 v_written v_sort0 v_pile v_piled v_opens v_isWhole v_once v_named v_values v_truth v_isWritten v_died v_aside v_likely v_safe v_headOf) sz) := by
  refine mMet (Qc := (mQi D (WM h q cI cJ cZ v_a v_image v_texts v_tape v_taped v_fault v_faultPlace v_at v_place v_token v_number v_word v_text0 v_written v_sort0 v_pile v_piled v_opens v_isWhole v_once v_named v_values v_truth v_isWritten v_died v_aside v_likely v_safe v_headOf) o_r (mB o_r))) (by decide) (Nat.le_of_ble_eq_true rfl) (fun p e s m below meth c A ls hx hb hr hml hts hown hlocks hK hA hP hD hl => ?_)
  have hown : s.vm.findClass RX12 = some m.cls := hown
  have hl : lv_has ls 2 [(0, .ref h), (1, .int p1)] := hl
  have hS : va_S A s.heap s.heap [] := va_S.rf
  unfold f_X12_isOutlaw at hf
  refine lv_aload_n hx hb dX12_isOutlaw_0 rfl (lv_at hl 0 rfl) ?_
  refine lv_iload_n hx hb dX12_isOutlaw_1 rfl (lv_at hl 1 rfl) ?_
  obtain ⟨r2, hg2, hf⟩ := ob1_some hf
  refine mcV1_i (As := [.int p1]) (rest := []) hx hb hml hown hts hK hP hD hS hA (k_X12_isPerson l N D cI cJ cZ cB cT h q v_a v_image v_texts v_tape v_taped v_fault v_faultPlace v_at v_place v_token v_number v_word v_text0 v_written v_sort0 v_pile v_piled v_opens v_isWhole v_once v_named v_values v_truth v_isWritten v_died v_aside v_likely v_safe v_headOf p1 r2 hg2) (kwX12_67 hts rfl rfl ⟨Nat.le_of_ble_eq_true rfl, Nat.le_of_ble_eq_true rfl⟩) 0 rfl rfl rfl rfl hl.1 rfl (Nat.le_of_ble_eq_true rfl) dX12_isOutlaw_2 ⟨Nat.zero_le _, Nat.zero_le _⟩ (fun hB2 H locs hP hD hS => ?_)
  have hP : va_P D vwCl (WM h q cI cJ cZ v_a v_image v_texts v_tape v_taped v_fault v_faultPlace v_at v_place v_token v_number v_word v_text0 v_written v_sort0 v_pile v_piled v_opens v_isWhole v_once v_named v_values v_truth v_isWritten v_died v_aside v_likely v_safe v_headOf) H := hP
  have hD : va_D A (WM h q cI cJ cZ v_a v_image v_texts v_tape v_taped v_fault v_faultPlace v_at v_place v_token v_number v_word v_text0 v_written v_sort0 v_pile v_piled v_opens v_isWhole v_once v_named v_values v_truth v_isWritten v_died v_aside v_likely v_safe v_headOf) := hD
  refine xif_eq hx hb 23 dX12_isOutlaw_5 (by decide) hf (fun hf => ?_) (fun hf => ?_)
  · refine lv_iconst (v := (0 : Int32)) hx hb dX12_isOutlaw_23 (by decide) ?_
    cases hf
    exact mret_z hx hb hr hlocks hP hD hS dX12_isOutlaw_24 rfl rfl
  · refine lv_aload_n hx hb dX12_isOutlaw_8 rfl (lv_at hl 0 rfl) ?_
    refine lv_iload_n hx hb dX12_isOutlaw_9 rfl (lv_at hl 1 rfl) ?_
    refine lv_bipush (v := (6 : Int32)) hx hb dX12_isOutlaw_10 (by decide) ?_
    obtain ⟨r12, hg12, hf⟩ := ob1_some hf
    refine mcV1_i (As := [.int p1, .int (6 : Int32)]) (rest := []) hx hb hml hown hts hK hP hD hS hA (k_X12_get l N D cI cJ cZ cB cT h q v_a v_image v_texts v_tape v_taped v_fault v_faultPlace v_at v_place v_token v_number v_word v_text0 v_written v_sort0 v_pile v_piled v_opens v_isWhole v_once v_named v_values v_truth v_isWritten v_died v_aside v_likely v_safe v_headOf p1 (6 : Int32) r12 hg12) (kwX12_71 hts rfl rfl ⟨Nat.le_of_ble_eq_true rfl, Nat.le_of_ble_eq_true rfl⟩) 0 rfl rfl rfl rfl hl.1 rfl (Nat.le_of_ble_eq_true rfl) dX12_isOutlaw_12 ⟨Nat.zero_le _, Nat.zero_le _⟩ (fun hB12 H locs hP hD hS => ?_)
    have hP : va_P D vwCl (WM h q cI cJ cZ v_a v_image v_texts v_tape v_taped v_fault v_faultPlace v_at v_place v_token v_number v_word v_text0 v_written v_sort0 v_pile v_piled v_opens v_isWhole v_once v_named v_values v_truth v_isWritten v_died v_aside v_likely v_safe v_headOf) H := hP
    have hD : va_D A (WM h q cI cJ cZ v_a v_image v_texts v_tape v_taped v_fault v_faultPlace v_at v_place v_token v_number v_word v_text0 v_written v_sort0 v_pile v_piled v_opens v_isWhole v_once v_named v_values v_truth v_isWritten v_died v_aside v_likely v_safe v_headOf) := hD
    refine lv_iconst (v := (1 : Int32)) hx hb dX12_isOutlaw_15 (by decide) ?_
    refine xicmp_ne hx hb 23 dX12_isOutlaw_16 (by decide) hf (fun hf => ?_) (fun hf => ?_)
    · refine lv_iconst (v := (1 : Int32)) hx hb dX12_isOutlaw_19 (by decide) ?_
      refine lv_goto (tgt := 24) hx hb dX12_isOutlaw_20 (by decide) ?_
      cases hf
      exact mret_z hx hb hr hlocks hP hD hS dX12_isOutlaw_24 rfl rfl
    · refine lv_iconst (v := (0 : Int32)) hx hb dX12_isOutlaw_23 (by decide) ?_
      cases hf
      exact mret_z hx hb hr hlocks hP hD hS dX12_isOutlaw_24 rfl rfl
theorem dX12_isAlive_0 : decode cX12_isAlive 0 = .ok (.aload_n 0, 1) := by decide +kernel
theorem dX12_isAlive_1 : decode cX12_isAlive 1 = .ok (.iload_n 1, 1) := by decide +kernel
theorem dX12_isAlive_2 : decode cX12_isAlive 2 = .ok (.invokevirtual 67, 3) := by decide +kernel
theorem dX12_isAlive_5 : decode cX12_isAlive 5 = .ok (.ifCond .eq 18, 3) := by decide +kernel
theorem dX12_isAlive_8 : decode cX12_isAlive 8 = .ok (.aload_n 0, 1) := by decide +kernel
theorem dX12_isAlive_9 : decode cX12_isAlive 9 = .ok (.iload_n 1, 1) := by decide +kernel
theorem dX12_isAlive_10 : decode cX12_isAlive 10 = .ok (.bipush 6, 2) := by decide +kernel
theorem dX12_isAlive_12 : decode cX12_isAlive 12 = .ok (.invokevirtual 71, 3) := by decide +kernel
theorem dX12_isAlive_15 : decode cX12_isAlive 15 = .ok (.iconst 3, 1) := by decide +kernel
theorem dX12_isAlive_16 : decode cX12_isAlive 16 = .ok (.if_icmp .eq 7, 3) := by decide +kernel
theorem dX12_isAlive_19 : decode cX12_isAlive 19 = .ok (.iconst 1, 1) := by decide +kernel
theorem dX12_isAlive_20 : decode cX12_isAlive 20 = .ok (.goto 4, 3) := by decide +kernel
theorem dX12_isAlive_23 : decode cX12_isAlive 23 = .ok (.iconst 0, 1) := by decide +kernel
theorem dX12_isAlive_24 : decode cX12_isAlive 24 = .ok (.ireturn, 1) := by decide +kernel
def f_X12_isAlive (N : Nat) (v_a : Nat → Int32) (p1 : Int32) : Option (Int32) := ob1 (f_X12_isPerson N v_a p1) fun r2 => if r2 = 0 then (some (0 : Int32)) else (ob1 (f_X12_get N v_a p1 (6 : Int32)) fun r12 => if r12 = (3 : Int32) then (some (0 : Int32)) else (some (1 : Int32)))
set_option maxHeartbeats 4000000 in
set_option maxRecDepth 100000 in
theorem k_X12_isAlive (l : Launch) (N : Nat) (D : va_G) (cI cJ cZ cB cT : ClassId) (h : Nat) (q : Nat → Nat) (v_a : Nat → Int32) (v_image : Nat → Int32) (v_texts : Nat → Int32) (v_tape : Nat → Int32) (v_taped : Int32) (v_fault : Int32) (v_faultPlace : Int32) (v_at : Int32) (v_place : Int32) (v_token : Int32) (v_number : Int32) (v_word : Int64) (v_text0 : Int32) (v_written : Int32) (v_sort0 : Int32) (v_pile : Nat → Int32) (v_piled : Int32) (v_opens : Int32) (v_isWhole : Int32) (v_once : Int32) (v_named : Nat → Int32) (v_values : Nat → Int64) (v_truth : Nat → Int32) (v_isWritten : Int32) (v_died : Int32) (v_aside : Nat → Int32) (v_likely : Nat → Int32) (v_safe : Nat → Int32) (v_headOf : Nat → Int32) (p1 : Int32) (o_r : Int32) (hf : f_X12_isAlive N v_a p1 = some o_r) : ∀ sz, Met l yX12_isAlive (mw yX12_isAlive cX12_isAlive 2 (some .boolean)) ({ frames := 2, cells := 0, slots := 0, locals := 43 } : Room) (mPre D (mT cI cJ cZ cB cT) (WM h q cI cJ cZ v_a v_image v_texts v_tape v_taped v_fault v_faultPlace v_at v_place v_token v_number v_word v_text0 v_written v_sort0 v_pile v_piled v_opens v_isWhole v_once v_named v_values v_truth v_isWritten v_died v_aside v_likely v_safe v_headOf) sz [.ref h, .int p1]) ((mQi D (WM h q cI cJ cZ v_a v_image v_texts v_tape v_taped v_fault v_faultPlace v_at v_place v_token v_number v_word v_text0 v_written v_sort0 v_pile v_piled v_opens v_isWhole v_once v_named v_values v_truth v_isWritten v_died v_aside v_likely v_safe v_headOf) o_r (mB o_r)) (va_A (WM h q cI cJ cZ v_a v_image v_texts v_tape v_taped v_fault v_faultPlace v_at v_place v_token v_number v_word v_text0 v_written v_sort0 v_pile v_piled v_opens v_isWhole v_once v_named v_values v_truth v_isWritten v_died v_aside v_likely v_safe v_headOf) sz)) 0 0 (va_A (WM h q cI cJ cZ v_a v_image v_texts v_tape v_taped v_fault v_faultPlace v_at v_place v_token v_number v_word v_text0 v_written v_sort0 v_pile v_piled v_opens v_isWhole v_once v_named v_values v_truth v_isWritten v_died v_aside v_likely v_safe v_headOf) sz) := by
  refine mMet (Qc := (mQi D (WM h q cI cJ cZ v_a v_image v_texts v_tape v_taped v_fault v_faultPlace v_at v_place v_token v_number v_word v_text0 v_written v_sort0 v_pile v_piled v_opens v_isWhole v_once v_named v_values v_truth v_isWritten v_died v_aside v_likely v_safe v_headOf) o_r (mB o_r))) (by decide) (Nat.le_of_ble_eq_true rfl) (fun p e s m below meth c A ls hx hb hr hml hts hown hlocks hK hA hP hD hl => ?_)
  have hown : s.vm.findClass RX12 = some m.cls := hown
  have hl : lv_has ls 2 [(0, .ref h), (1, .int p1)] := hl
  have hS : va_S A s.heap s.heap [] := va_S.rf
  unfold f_X12_isAlive at hf
  refine lv_aload_n hx hb dX12_isAlive_0 rfl (lv_at hl 0 rfl) ?_
  refine lv_iload_n hx hb dX12_isAlive_1 rfl (lv_at hl 1 rfl) ?_
  obtain ⟨r2, hg2, hf⟩ := ob1_some hf
  refine mcV1_i (As := [.int p1]) (rest := []) hx hb hml hown hts hK hP hD hS hA (k_X12_isPerson l N D cI cJ cZ cB cT h q v_a v_image v_texts v_tape v_taped v_fault v_faultPlace v_at v_place v_token v_number v_word v_text0 v_written v_sort0 v_pile v_piled v_opens v_isWhole v_once v_named v_values v_truth v_isWritten v_died v_aside v_likely v_safe v_headOf p1 r2 hg2) (kwX12_67 hts rfl rfl ⟨Nat.le_of_ble_eq_true rfl, Nat.le_of_ble_eq_true rfl⟩) 0 rfl rfl rfl rfl hl.1 rfl (Nat.le_of_ble_eq_true rfl) dX12_isAlive_2 ⟨Nat.zero_le _, Nat.zero_le _⟩ (fun hB2 H locs hP hD hS => ?_)
  have hP : va_P D vwCl (WM h q cI cJ cZ v_a v_image v_texts v_tape v_taped v_fault v_faultPlace v_at v_place v_token v_number v_word v_text0 v_written v_sort0 v_pile v_piled v_opens v_isWhole v_once v_named v_values v_truth v_isWritten v_died v_aside v_likely v_safe v_headOf) H := hP
  have hD : va_D A (WM h q cI cJ cZ v_a v_image v_texts v_tape v_taped v_fault v_faultPlace v_at v_place v_token v_number v_word v_text0 v_written v_sort0 v_pile v_piled v_opens v_isWhole v_once v_named v_values v_truth v_isWritten v_died v_aside v_likely v_safe v_headOf) := hD
  refine xif_eq hx hb 23 dX12_isAlive_5 (by decide) hf (fun hf => ?_) (fun hf => ?_)
  · refine lv_iconst (v := (0 : Int32)) hx hb dX12_isAlive_23 (by decide) ?_
    cases hf
    exact mret_z hx hb hr hlocks hP hD hS dX12_isAlive_24 rfl rfl
  · refine lv_aload_n hx hb dX12_isAlive_8 rfl (lv_at hl 0 rfl) ?_
    refine lv_iload_n hx hb dX12_isAlive_9 rfl (lv_at hl 1 rfl) ?_
    refine lv_bipush (v := (6 : Int32)) hx hb dX12_isAlive_10 (by decide) ?_
    obtain ⟨r12, hg12, hf⟩ := ob1_some hf
    refine mcV1_i (As := [.int p1, .int (6 : Int32)]) (rest := []) hx hb hml hown hts hK hP hD hS hA (k_X12_get l N D cI cJ cZ cB cT h q v_a v_image v_texts v_tape v_taped v_fault v_faultPlace v_at v_place v_token v_number v_word v_text0 v_written v_sort0 v_pile v_piled v_opens v_isWhole v_once v_named v_values v_truth v_isWritten v_died v_aside v_likely v_safe v_headOf p1 (6 : Int32) r12 hg12) (kwX12_71 hts rfl rfl ⟨Nat.le_of_ble_eq_true rfl, Nat.le_of_ble_eq_true rfl⟩) 0 rfl rfl rfl rfl hl.1 rfl (Nat.le_of_ble_eq_true rfl) dX12_isAlive_12 ⟨Nat.zero_le _, Nat.zero_le _⟩ (fun hB12 H locs hP hD hS => ?_)
    have hP : va_P D vwCl (WM h q cI cJ cZ v_a v_image v_texts v_tape v_taped v_fault v_faultPlace v_at v_place v_token v_number v_word v_text0 v_written v_sort0 v_pile v_piled v_opens v_isWhole v_once v_named v_values v_truth v_isWritten v_died v_aside v_likely v_safe v_headOf) H := hP
    have hD : va_D A (WM h q cI cJ cZ v_a v_image v_texts v_tape v_taped v_fault v_faultPlace v_at v_place v_token v_number v_word v_text0 v_written v_sort0 v_pile v_piled v_opens v_isWhole v_once v_named v_values v_truth v_isWritten v_died v_aside v_likely v_safe v_headOf) := hD
    refine lv_iconst (v := (3 : Int32)) hx hb dX12_isAlive_15 (by decide) ?_
    refine xicmp_eq hx hb 23 dX12_isAlive_16 (by decide) hf (fun hf => ?_) (fun hf => ?_)
    · refine lv_iconst (v := (0 : Int32)) hx hb dX12_isAlive_23 (by decide) ?_
      cases hf
      exact mret_z hx hb hr hlocks hP hD hS dX12_isAlive_24 rfl rfl
    · refine lv_iconst (v := (1 : Int32)) hx hb dX12_isAlive_19 (by decide) ?_
      refine lv_goto (tgt := 24) hx hb dX12_isAlive_20 (by decide) ?_
      cases hf
      exact mret_z hx hb hr hlocks hP hD hS dX12_isAlive_24 rfl rfl
theorem dX12_land_0 : decode cX12_land 0 = .ok (.iload_n 1, 1) := by decide +kernel
theorem dX12_land_1 : decode cX12_land 1 = .ok (.iconst 0, 1) := by decide +kernel
theorem dX12_land_2 : decode cX12_land 2 = .ok (.bipush 9, 2) := by decide +kernel
theorem dX12_land_4 : decode cX12_land 4 = .ok (.invokestatic 63, 3) := by decide +kernel
theorem dX12_land_7 : decode cX12_land 7 = .ok (.ifCond .eq 14, 3) := by decide +kernel
theorem dX12_land_10 : decode cX12_land 10 = .ok (.aload_n 0, 1) := by decide +kernel
theorem dX12_land_11 : decode cX12_land 11 = .ok (.getfield 7, 3) := by decide +kernel
theorem dX12_land_14 : decode cX12_land 14 = .ok (.iconst 0, 1) := by decide +kernel
theorem dX12_land_15 : decode cX12_land 15 = .ok (.iaload, 1) := by decide +kernel
theorem dX12_land_16 : decode cX12_land 16 = .ok (.bipush 8, 2) := by decide +kernel
theorem dX12_land_18 : decode cX12_land 18 = .ok (.if_icmp .ne 5, 3) := by decide +kernel
theorem dX12_land_21 : decode cX12_land 21 = .ok (.iconst (-1), 1) := by decide +kernel
theorem dX12_land_22 : decode cX12_land 22 = .ok (.ireturn, 1) := by decide +kernel
theorem dX12_land_23 : decode cX12_land 23 = .ok (.aload_n 0, 1) := by decide +kernel
theorem dX12_land_24 : decode cX12_land 24 = .ok (.getfield 7, 3) := by decide +kernel
theorem dX12_land_27 : decode cX12_land 27 = .ok (.bipush 80, 2) := by decide +kernel
theorem dX12_land_29 : decode cX12_land 29 = .ok (.aload_n 0, 1) := by decide +kernel
theorem dX12_land_30 : decode cX12_land 30 = .ok (.getfield 7, 3) := by decide +kernel
theorem dX12_land_33 : decode cX12_land 33 = .ok (.iconst 0, 1) := by decide +kernel
theorem dX12_land_34 : decode cX12_land 34 = .ok (.iaload, 1) := by decide +kernel
theorem dX12_land_35 : decode cX12_land 35 = .ok (.iadd, 1) := by decide +kernel
theorem dX12_land_36 : decode cX12_land 36 = .ok (.iload_n 1, 1) := by decide +kernel
theorem dX12_land_37 : decode cX12_land 37 = .ok (.iastore, 1) := by decide +kernel
theorem dX12_land_38 : decode cX12_land 38 = .ok (.aload_n 0, 1) := by decide +kernel
theorem dX12_land_39 : decode cX12_land 39 = .ok (.getfield 7, 3) := by decide +kernel
theorem dX12_land_42 : decode cX12_land 42 = .ok (.bipush 88, 2) := by decide +kernel
theorem dX12_land_44 : decode cX12_land 44 = .ok (.aload_n 0, 1) := by decide +kernel
theorem dX12_land_45 : decode cX12_land 45 = .ok (.getfield 7, 3) := by decide +kernel
theorem dX12_land_48 : decode cX12_land 48 = .ok (.iconst 0, 1) := by decide +kernel
theorem dX12_land_49 : decode cX12_land 49 = .ok (.iaload, 1) := by decide +kernel
theorem dX12_land_50 : decode cX12_land 50 = .ok (.iadd, 1) := by decide +kernel
theorem dX12_land_51 : decode cX12_land 51 = .ok (.iconst 0, 1) := by decide +kernel
theorem dX12_land_52 : decode cX12_land 52 = .ok (.iastore, 1) := by decide +kernel
theorem dX12_land_53 : decode cX12_land 53 = .ok (.aload_n 0, 1) := by decide +kernel
theorem dX12_land_54 : decode cX12_land 54 = .ok (.getfield 7, 3) := by decide +kernel
theorem dX12_land_57 : decode cX12_land 57 = .ok (.iconst 0, 1) := by decide +kernel
theorem dX12_land_58 : decode cX12_land 58 = .ok (.dup2, 1) := by decide +kernel
theorem dX12_land_59 : decode cX12_land 59 = .ok (.iaload, 1) := by decide +kernel
theorem dX12_land_60 : decode cX12_land 60 = .ok (.iconst 1, 1) := by decide +kernel
theorem dX12_land_61 : decode cX12_land 61 = .ok (.iadd, 1) := by decide +kernel
theorem dX12_land_62 : decode cX12_land 62 = .ok (.iastore, 1) := by decide +kernel
theorem dX12_land_63 : decode cX12_land 63 = .ok (.aload_n 0, 1) := by decide +kernel
theorem dX12_land_64 : decode cX12_land 64 = .ok (.getfield 7, 3) := by decide +kernel
theorem dX12_land_67 : decode cX12_land 67 = .ok (.iconst 0, 1) := by decide +kernel
theorem dX12_land_68 : decode cX12_land 68 = .ok (.iaload, 1) := by decide +kernel
theorem dX12_land_69 : decode cX12_land 69 = .ok (.iconst 1, 1) := by decide +kernel
theorem dX12_land_70 : decode cX12_land 70 = .ok (.isub, 1) := by decide +kernel
theorem dX12_land_71 : decode cX12_land 71 = .ok (.ireturn, 1) := by decide +kernel
def f_X12_land (N : Nat) (v_a : Nat → Int32) (p1 : Int32) : Option (Int32 × (Nat → Int32)) := ob1 (f_X12_isIn N p1 (0 : Int32) (9 : Int32)) fun r4 => if r4 = 0 then (some ((-1 : Int32), v_a)) else (gA v_a 8762 (0 : Int32) fun v15 => if v15 = (8 : Int32) then (some ((-1 : Int32), v_a)) else (gA v_a 8762 (0 : Int32) fun v34 => sA v_a 8762 ((80 : Int32) + v34) p1 fun v_a_37 => gA v_a_37 8762 (0 : Int32) fun v49 => sA v_a_37 8762 ((88 : Int32) + v49) (0 : Int32) fun v_a_52 => gA v_a_52 8762 (0 : Int32) fun v59 => sA v_a_52 8762 (0 : Int32) (v59 + (1 : Int32)) fun v_a_62 => gA v_a_62 8762 (0 : Int32) fun v68 => some ((v68 - (1 : Int32)), v_a_62)))
set_option maxHeartbeats 4000000 in
set_option maxRecDepth 100000 in
theorem k_X12_land (l : Launch) (N : Nat) (D : va_G) (cI cJ cZ cB cT : ClassId) (h : Nat) (q : Nat → Nat) (v_a : Nat → Int32) (v_image : Nat → Int32) (v_texts : Nat → Int32) (v_tape : Nat → Int32) (v_taped : Int32) (v_fault : Int32) (v_faultPlace : Int32) (v_at : Int32) (v_place : Int32) (v_token : Int32) (v_number : Int32) (v_word : Int64) (v_text0 : Int32) (v_written : Int32) (v_sort0 : Int32) (v_pile : Nat → Int32) (v_piled : Int32) (v_opens : Int32) (v_isWhole : Int32) (v_once : Int32) (v_named : Nat → Int32) (v_values : Nat → Int64) (v_truth : Nat → Int32) (v_isWritten : Int32) (v_died : Int32) (v_aside : Nat → Int32) (v_likely : Nat → Int32) (v_safe : Nat → Int32) (v_headOf : Nat → Int32) (p1 : Int32) (o_r : Int32) (o_v_a : Nat → Int32) (hf : f_X12_land N v_a p1 = some (o_r, o_v_a)) : ∀ sz, Met l yX12_land (mw yX12_land cX12_land 2 (some .int)) ({ frames := 1, cells := 0, slots := 0, locals := 22 } : Room) (mPre D (mT cI cJ cZ cB cT) (WM h q cI cJ cZ v_a v_image v_texts v_tape v_taped v_fault v_faultPlace v_at v_place v_token v_number v_word v_text0 v_written v_sort0 v_pile v_piled v_opens v_isWhole v_once v_named v_values v_truth v_isWritten v_died v_aside v_likely v_safe v_headOf) sz [.ref h, .int p1]) ((mQi D (WM h q cI cJ cZ o_v_a v_image v_texts v_tape v_taped v_fault v_faultPlace v_at v_place v_token v_number v_word v_text0 v_written v_sort0 v_pile v_piled v_opens v_isWhole v_once v_named v_values v_truth v_isWritten v_died v_aside v_likely v_safe v_headOf) o_r True) (va_A (WM h q cI cJ cZ v_a v_image v_texts v_tape v_taped v_fault v_faultPlace v_at v_place v_token v_number v_word v_text0 v_written v_sort0 v_pile v_piled v_opens v_isWhole v_once v_named v_values v_truth v_isWritten v_died v_aside v_likely v_safe v_headOf) sz)) 0 0 (va_A (WM h q cI cJ cZ v_a v_image v_texts v_tape v_taped v_fault v_faultPlace v_at v_place v_token v_number v_word v_text0 v_written v_sort0 v_pile v_piled v_opens v_isWhole v_once v_named v_values v_truth v_isWritten v_died v_aside v_likely v_safe v_headOf) sz) := by
  refine mMet (Qc := (mQi D (WM h q cI cJ cZ o_v_a v_image v_texts v_tape v_taped v_fault v_faultPlace v_at v_place v_token v_number v_word v_text0 v_written v_sort0 v_pile v_piled v_opens v_isWhole v_once v_named v_values v_truth v_isWritten v_died v_aside v_likely v_safe v_headOf) o_r True)) (by decide) (Nat.le_of_ble_eq_true rfl) (fun p e s m below meth c A ls hx hb hr hml hts hown hlocks hK hA hP hD hl => ?_)
  have hown : s.vm.findClass RX12 = some m.cls := hown
  have hl : lv_has ls 2 [(0, .ref h), (1, .int p1)] := hl
  have hS : va_S A s.heap s.heap [] := va_S.rf
  unfold f_X12_land at hf
  refine lv_iload_n hx hb dX12_land_0 rfl (lv_at hl 1 rfl) ?_
  refine lv_iconst (v := (0 : Int32)) hx hb dX12_land_1 (by decide) ?_
  refine lv_bipush (v := (9 : Int32)) hx hb dX12_land_2 (by decide) ?_
  obtain ⟨r4, hg4, hf⟩ := ob1_some hf
  refine mcS0_i (As := [.int p1, .int (0 : Int32), .int (9 : Int32)]) (rest := []) hx hb hml hown hts hK hP hD hS hA (k_X12_isIn l N D cI cJ cZ cB cT p1 (0 : Int32) (9 : Int32) r4 hg4) (kwX12_63 hts rfl rfl ⟨Nat.le_of_ble_eq_true rfl, Nat.le_of_ble_eq_true rfl⟩) rfl hl.1 rfl (Nat.le_of_ble_eq_true rfl) dX12_land_4 ⟨Nat.zero_le _, Nat.zero_le _⟩ (fun hB4 H locs hP hD hS => ?_)
  refine xif_eq hx hb 21 dX12_land_7 (by decide) hf (fun hf => ?_) (fun hf => ?_)
  · refine lv_iconst (v := (-1 : Int32)) hx hb dX12_land_21 (by decide) ?_
    cases hf
    exact mret_i hx hb hr hlocks hP hD hS dX12_land_22 rfl trivial
  · refine lv_aload_n hx hb dX12_land_10 rfl (lv_at hl 0 rfl) ?_
    refine gfX12_7 hx hb hts hown hK hP 0 rfl rfl dX12_land_11 ?_
    refine lv_iconst (v := (0 : Int32)) hx hb dX12_land_14 (by decide) ?_
    refine xiald hx hb hK hP 1 0 rfl rfl dX12_land_15 hf (fun v15 hf => ?_)
    refine lv_bipush (v := (8 : Int32)) hx hb dX12_land_16 (by decide) ?_
    refine xicmp_ne hx hb 23 dX12_land_18 (by decide) hf (fun hf => ?_) (fun hf => ?_)
    · refine lv_iconst (v := (-1 : Int32)) hx hb dX12_land_21 (by decide) ?_
      cases hf
      exact mret_i hx hb hr hlocks hP hD hS dX12_land_22 rfl trivial
    · refine lv_aload_n hx hb dX12_land_23 rfl (lv_at hl 0 rfl) ?_
      refine gfX12_7 hx hb hts hown hK hP 0 rfl rfl dX12_land_24 ?_
      refine lv_bipush (v := (80 : Int32)) hx hb dX12_land_27 (by decide) ?_
      refine lv_aload_n hx hb dX12_land_29 rfl (lv_at hl 0 rfl) ?_
      refine gfX12_7 hx hb hts hown hK hP 0 rfl rfl dX12_land_30 ?_
      refine lv_iconst (v := (0 : Int32)) hx hb dX12_land_33 (by decide) ?_
      refine xiald hx hb hK hP 1 0 rfl rfl dX12_land_34 hf (fun v34 hf => ?_)
      refine lv_iadd hx hb dX12_land_35 ?_
      refine lv_iload_n hx hb dX12_land_36 rfl (lv_at hl 1 rfl) ?_
      refine xiast hx hb hK hP hD hS 1 0 rfl rfl dX12_land_37 hf (fun v_a_37 hf H locs hP hD hS => ?_)
      have hP : va_P D vwCl (WM h q cI cJ cZ v_a_37 v_image v_texts v_tape v_taped v_fault v_faultPlace v_at v_place v_token v_number v_word v_text0 v_written v_sort0 v_pile v_piled v_opens v_isWhole v_once v_named v_values v_truth v_isWritten v_died v_aside v_likely v_safe v_headOf) H := hP
      have hD : va_D A (WM h q cI cJ cZ v_a_37 v_image v_texts v_tape v_taped v_fault v_faultPlace v_at v_place v_token v_number v_word v_text0 v_written v_sort0 v_pile v_piled v_opens v_isWhole v_once v_named v_values v_truth v_isWritten v_died v_aside v_likely v_safe v_headOf) := hD
      refine lv_aload_n hx hb dX12_land_38 rfl (lv_at hl 0 rfl) ?_
      refine gfX12_7 hx hb hts hown hK hP 0 rfl rfl dX12_land_39 ?_
      refine lv_bipush (v := (88 : Int32)) hx hb dX12_land_42 (by decide) ?_
      refine lv_aload_n hx hb dX12_land_44 rfl (lv_at hl 0 rfl) ?_
      refine gfX12_7 hx hb hts hown hK hP 0 rfl rfl dX12_land_45 ?_
      refine lv_iconst (v := (0 : Int32)) hx hb dX12_land_48 (by decide) ?_
      refine xiald hx hb hK hP 1 0 rfl rfl dX12_land_49 hf (fun v49 hf => ?_)
      refine lv_iadd hx hb dX12_land_50 ?_
      refine lv_iconst (v := (0 : Int32)) hx hb dX12_land_51 (by decide) ?_
      refine xiast hx hb hK hP hD hS 1 0 rfl rfl dX12_land_52 hf (fun v_a_52 hf H locs hP hD hS => ?_)
      have hP : va_P D vwCl (WM h q cI cJ cZ v_a_52 v_image v_texts v_tape v_taped v_fault v_faultPlace v_at v_place v_token v_number v_word v_text0 v_written v_sort0 v_pile v_piled v_opens v_isWhole v_once v_named v_values v_truth v_isWritten v_died v_aside v_likely v_safe v_headOf) H := hP
      have hD : va_D A (WM h q cI cJ cZ v_a_52 v_image v_texts v_tape v_taped v_fault v_faultPlace v_at v_place v_token v_number v_word v_text0 v_written v_sort0 v_pile v_piled v_opens v_isWhole v_once v_named v_values v_truth v_isWritten v_died v_aside v_likely v_safe v_headOf) := hD
      refine lv_aload_n hx hb dX12_land_53 rfl (lv_at hl 0 rfl) ?_
      refine gfX12_7 hx hb hts hown hK hP 0 rfl rfl dX12_land_54 ?_
      refine lv_iconst (v := (0 : Int32)) hx hb dX12_land_57 (by decide) ?_
      refine lv_dup2_11 hx hb dX12_land_58 rfl rfl ?_
      refine xiald hx hb hK hP 1 0 rfl rfl dX12_land_59 hf (fun v59 hf => ?_)
      refine lv_iconst (v := (1 : Int32)) hx hb dX12_land_60 (by decide) ?_
      refine lv_iadd hx hb dX12_land_61 ?_
      refine xiast hx hb hK hP hD hS 1 0 rfl rfl dX12_land_62 hf (fun v_a_62 hf H locs hP hD hS => ?_)
      have hP : va_P D vwCl (WM h q cI cJ cZ v_a_62 v_image v_texts v_tape v_taped v_fault v_faultPlace v_at v_place v_token v_number v_word v_text0 v_written v_sort0 v_pile v_piled v_opens v_isWhole v_once v_named v_values v_truth v_isWritten v_died v_aside v_likely v_safe v_headOf) H := hP
      have hD : va_D A (WM h q cI cJ cZ v_a_62 v_image v_texts v_tape v_taped v_fault v_faultPlace v_at v_place v_token v_number v_word v_text0 v_written v_sort0 v_pile v_piled v_opens v_isWhole v_once v_named v_values v_truth v_isWritten v_died v_aside v_likely v_safe v_headOf) := hD
      refine lv_aload_n hx hb dX12_land_63 rfl (lv_at hl 0 rfl) ?_
      refine gfX12_7 hx hb hts hown hK hP 0 rfl rfl dX12_land_64 ?_
      refine lv_iconst (v := (0 : Int32)) hx hb dX12_land_67 (by decide) ?_
      refine xiald hx hb hK hP 1 0 rfl rfl dX12_land_68 hf (fun v68 hf => ?_)
      refine lv_iconst (v := (1 : Int32)) hx hb dX12_land_69 (by decide) ?_
      refine lv_isub hx hb dX12_land_70 ?_
      cases hf
      exact mret_i hx hb hr hlocks hP hD hS dX12_land_71 rfl trivial
end
