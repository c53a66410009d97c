section
-- ===== PART A: goes FIRST, ahead of the names: the tables' words, and 'selects' of the private methods out of them =====
/-- a private method of a class that the tables say can be made, by its rows of tables_1 -/
def lw_okq (q : MethodName × Nat) : Prop := (q.1.cls ≠ "java/lang/invoke/MethodHandle" ∧ q.1.cls ≠ "java/lang/invoke/VarHandle") ∧ Cond.instantiable q.1.cls q.2 ∈ tables_1 ∧ Cond.privateMethod q.1 ∈ tables_1 ∧ Cond.instanceMethod q.1 ∈ tables_1
theorem lw_p0 : lw_okq (⟨"BorderForge", "isRider", "(I)Z"⟩, 10) := ⟨⟨by decide +kernel, by decide +kernel⟩, List.mem_of_getElem? (i := 12) (by decide +kernel), List.mem_of_getElem? (i := 219) (by decide +kernel), List.mem_of_getElem? (i := 220) (by decide +kernel)⟩
theorem lw_p1 : lw_okq (⟨"BorderForge", "stageTakes", "(IZ)I"⟩, 10) := ⟨⟨by decide +kernel, by decide +kernel⟩, List.mem_of_getElem? (i := 12) (by decide +kernel), List.mem_of_getElem? (i := 223) (by decide +kernel), List.mem_of_getElem? (i := 224) (by decide +kernel)⟩
theorem lw_p2 : lw_okq (⟨"BorderForge$Tape", "readStages", "()Z"⟩, 4) := ⟨⟨by decide +kernel, by decide +kernel⟩, List.mem_of_getElem? (i := 115) (by decide +kernel), List.mem_of_getElem? (i := 262) (by decide +kernel), List.mem_of_getElem? (i := 263) (by decide +kernel)⟩
theorem lw_p3 : lw_okq (⟨"BorderForge$Tape", "readStage", "()Z"⟩, 4) := ⟨⟨by decide +kernel, by decide +kernel⟩, List.mem_of_getElem? (i := 115) (by decide +kernel), List.mem_of_getElem? (i := 266) (by decide +kernel), List.mem_of_getElem? (i := 267) (by decide +kernel)⟩
theorem lw_p4 : lw_okq (⟨"BorderForge$Tape", "readDigit", "(II)I"⟩, 4) := ⟨⟨by decide +kernel, by decide +kernel⟩, List.mem_of_getElem? (i := 115) (by decide +kernel), List.mem_of_getElem? (i := 270) (by decide +kernel), List.mem_of_getElem? (i := 271) (by decide +kernel)⟩
theorem lw_p5 : lw_okq (⟨"BorderForge$Tape", "letterHere", "()I"⟩, 4) := ⟨⟨by decide +kernel, by decide +kernel⟩, List.mem_of_getElem? (i := 115) (by decide +kernel), List.mem_of_getElem? (i := 274) (by decide +kernel), List.mem_of_getElem? (i := 275) (by decide +kernel)⟩
theorem lw_p6 : lw_okq (⟨"BorderForge$Tape", "takes", "(I)Z"⟩, 4) := ⟨⟨by decide +kernel, by decide +kernel⟩, List.mem_of_getElem? (i := 115) (by decide +kernel), List.mem_of_getElem? (i := 280) (by decide +kernel), List.mem_of_getElem? (i := 281) (by decide +kernel)⟩
theorem lw_p7 : lw_okq (⟨"BorderForge$Tape", "readRiders", "()Z"⟩, 4) := ⟨⟨by decide +kernel, by decide +kernel⟩, List.mem_of_getElem? (i := 115) (by decide +kernel), List.mem_of_getElem? (i := 284) (by decide +kernel), List.mem_of_getElem? (i := 285) (by decide +kernel)⟩
theorem lw_p8 : lw_okq (⟨"BorderForge$Tape", "readRider", "()Z"⟩, 4) := ⟨⟨by decide +kernel, by decide +kernel⟩, List.mem_of_getElem? (i := 115) (by decide +kernel), List.mem_of_getElem? (i := 288) (by decide +kernel), List.mem_of_getElem? (i := 289) (by decide +kernel)⟩
theorem lw_p9 : lw_okq (⟨"BorderForge$Tape", "readNumber", "(I)I"⟩, 4) := ⟨⟨by decide +kernel, by decide +kernel⟩, List.mem_of_getElem? (i := 115) (by decide +kernel), List.mem_of_getElem? (i := 295) (by decide +kernel), List.mem_of_getElem? (i := 296) (by decide +kernel)⟩
theorem lw_p10 : lw_okq (⟨"BorderForge$Tape", "readBuying", "(I)Z"⟩, 4) := ⟨⟨by decide +kernel, by decide +kernel⟩, List.mem_of_getElem? (i := 115) (by decide +kernel), List.mem_of_getElem? (i := 300) (by decide +kernel), List.mem_of_getElem? (i := 301) (by decide +kernel)⟩
theorem lw_p11 : lw_okq (⟨"BorderForge", "areTwo", "(II)Z"⟩, 10) := ⟨⟨by decide +kernel, by decide +kernel⟩, List.mem_of_getElem? (i := 12) (by decide +kernel), List.mem_of_getElem? (i := 358) (by decide +kernel), List.mem_of_getElem? (i := 359) (by decide +kernel)⟩
theorem lw_p12 : lw_okq (⟨"BorderForge$Foretelling", "noteWhere", "(I)V"⟩, 2) := ⟨⟨by decide +kernel, by decide +kernel⟩, List.mem_of_getElem? (i := 99) (by decide +kernel), List.mem_of_getElem? (i := 406) (by decide +kernel), List.mem_of_getElem? (i := 407) (by decide +kernel)⟩
theorem lw_p13 : lw_okq (⟨"BorderForge", "soonestSet", "(I)I"⟩, 10) := ⟨⟨by decide +kernel, by decide +kernel⟩, List.mem_of_getElem? (i := 12) (by decide +kernel), List.mem_of_getElem? (i := 446) (by decide +kernel), List.mem_of_getElem? (i := 447) (by decide +kernel)⟩
theorem lw_p14 : lw_okq (⟨"BorderForge", "minuteBuying", "(II)I"⟩, 10) := ⟨⟨by decide +kernel, by decide +kernel⟩, List.mem_of_getElem? (i := 12) (by decide +kernel), List.mem_of_getElem? (i := 450) (by decide +kernel), List.mem_of_getElem? (i := 451) (by decide +kernel)⟩
theorem lw_p15 : lw_okq (⟨"BorderForge", "fillDuel", "(II)V"⟩, 10) := ⟨⟨by decide +kernel, by decide +kernel⟩, List.mem_of_getElem? (i := 12) (by decide +kernel), List.mem_of_getElem? (i := 476) (by decide +kernel), List.mem_of_getElem? (i := 477) (by decide +kernel)⟩
def lw_privs_1 : List (MethodName × Nat) := [(⟨"BorderForge", "isRider", "(I)Z"⟩, 10), (⟨"BorderForge", "stageTakes", "(IZ)I"⟩, 10), (⟨"BorderForge$Tape", "readStages", "()Z"⟩, 4), (⟨"BorderForge$Tape", "readStage", "()Z"⟩, 4), (⟨"BorderForge$Tape", "readDigit", "(II)I"⟩, 4), (⟨"BorderForge$Tape", "letterHere", "()I"⟩, 4), (⟨"BorderForge$Tape", "takes", "(I)Z"⟩, 4), (⟨"BorderForge$Tape", "readRiders", "()Z"⟩, 4), (⟨"BorderForge$Tape", "readRider", "()Z"⟩, 4), (⟨"BorderForge$Tape", "readNumber", "(I)I"⟩, 4), (⟨"BorderForge$Tape", "readBuying", "(I)Z"⟩, 4), (⟨"BorderForge", "areTwo", "(II)Z"⟩, 10), (⟨"BorderForge$Foretelling", "noteWhere", "(I)V"⟩, 2), (⟨"BorderForge", "soonestSet", "(I)I"⟩, 10), (⟨"BorderForge", "minuteBuying", "(II)I"⟩, 10), (⟨"BorderForge", "fillDuel", "(II)V"⟩, 10)]
theorem lw_r1 : ∀ q ∈ lw_privs_1, lw_okq q := List.forall_mem_cons.mpr ⟨lw_p0, List.forall_mem_cons.mpr ⟨lw_p1, List.forall_mem_cons.mpr ⟨lw_p2, List.forall_mem_cons.mpr ⟨lw_p3, List.forall_mem_cons.mpr ⟨lw_p4, List.forall_mem_cons.mpr ⟨lw_p5, List.forall_mem_cons.mpr ⟨lw_p6, List.forall_mem_cons.mpr ⟨lw_p7, List.forall_mem_cons.mpr ⟨lw_p8, List.forall_mem_cons.mpr ⟨lw_p9, List.forall_mem_cons.mpr ⟨lw_p10, List.forall_mem_cons.mpr ⟨lw_p11, List.forall_mem_cons.mpr ⟨lw_p12, List.forall_mem_cons.mpr ⟨lw_p13, List.forall_mem_cons.mpr ⟨lw_p14, List.forall_mem_cons.mpr ⟨lw_p15, fun _ h => absurd h List.not_mem_nil⟩⟩⟩⟩⟩⟩⟩⟩⟩⟩⟩⟩⟩⟩⟩⟩
theorem lw_p16 : lw_okq (⟨"BorderForge", "isRest", "(II)Z"⟩, 10) := ⟨⟨by decide +kernel, by decide +kernel⟩, List.mem_of_getElem? (i := 12) (by decide +kernel), List.mem_of_getElem? (i := 480) (by decide +kernel), List.mem_of_getElem? (i := 481) (by decide +kernel)⟩
theorem lw_p17 : lw_okq (⟨"BorderForge", "isFirstWith", "(II)Z"⟩, 10) := ⟨⟨by decide +kernel, by decide +kernel⟩, List.mem_of_getElem? (i := 12) (by decide +kernel), List.mem_of_getElem? (i := 492) (by decide +kernel), List.mem_of_getElem? (i := 493) (by decide +kernel)⟩
theorem lw_p18 : lw_okq (⟨"BorderForge", "rowFault", "(IIIII)I"⟩, 10) := ⟨⟨by decide +kernel, by decide +kernel⟩, List.mem_of_getElem? (i := 12) (by decide +kernel), List.mem_of_getElem? (i := 517) (by decide +kernel), List.mem_of_getElem? (i := 518) (by decide +kernel)⟩
theorem lw_p19 : lw_okq (⟨"BorderForge", "isTold", "(ILBorderForge$Page;II)Z"⟩, 10) := ⟨⟨by decide +kernel, by decide +kernel⟩, List.mem_of_getElem? (i := 12) (by decide +kernel), List.mem_of_getElem? (i := 539) (by decide +kernel), List.mem_of_getElem? (i := 540) (by decide +kernel)⟩
theorem lw_p20 : lw_okq (⟨"BorderForgeModel", "isRider", "(I)Z"⟩, 13) := ⟨⟨by decide +kernel, by decide +kernel⟩, List.mem_of_getElem? (i := 578) (by decide +kernel), List.mem_of_getElem? (i := 647) (by decide +kernel), List.mem_of_getElem? (i := 648) (by decide +kernel)⟩
theorem lw_p21 : lw_okq (⟨"BorderForgeModel", "takesNow", "(IZ)I"⟩, 13) := ⟨⟨by decide +kernel, by decide +kernel⟩, List.mem_of_getElem? (i := 578) (by decide +kernel), List.mem_of_getElem? (i := 651) (by decide +kernel), List.mem_of_getElem? (i := 652) (by decide +kernel)⟩
theorem lw_p22 : lw_okq (⟨"BorderForgeModel", "isThere", "(II)Z"⟩, 13) := ⟨⟨by decide +kernel, by decide +kernel⟩, List.mem_of_getElem? (i := 578) (by decide +kernel), List.mem_of_getElem? (i := 655) (by decide +kernel), List.mem_of_getElem? (i := 656) (by decide +kernel)⟩
theorem lw_p23 : lw_okq (⟨"BorderForgeModel", "takesRoad", "()Z"⟩, 13) := ⟨⟨by decide +kernel, by decide +kernel⟩, List.mem_of_getElem? (i := 578) (by decide +kernel), List.mem_of_getElem? (i := 680) (by decide +kernel), List.mem_of_getElem? (i := 681) (by decide +kernel)⟩
theorem lw_p24 : lw_okq (⟨"BorderForgeModel", "takesStage", "()Z"⟩, 13) := ⟨⟨by decide +kernel, by decide +kernel⟩, List.mem_of_getElem? (i := 578) (by decide +kernel), List.mem_of_getElem? (i := 684) (by decide +kernel), List.mem_of_getElem? (i := 685) (by decide +kernel)⟩
theorem lw_p25 : lw_okq (⟨"BorderForgeModel", "digit", "(II)I"⟩, 13) := ⟨⟨by decide +kernel, by decide +kernel⟩, List.mem_of_getElem? (i := 578) (by decide +kernel), List.mem_of_getElem? (i := 688) (by decide +kernel), List.mem_of_getElem? (i := 689) (by decide +kernel)⟩
theorem lw_p26 : lw_okq (⟨"BorderForgeModel", "here", "()I"⟩, 13) := ⟨⟨by decide +kernel, by decide +kernel⟩, List.mem_of_getElem? (i := 578) (by decide +kernel), List.mem_of_getElem? (i := 692) (by decide +kernel), List.mem_of_getElem? (i := 693) (by decide +kernel)⟩
theorem lw_p27 : lw_okq (⟨"BorderForgeModel", "letterAt", "(I)I"⟩, 13) := ⟨⟨by decide +kernel, by decide +kernel⟩, List.mem_of_getElem? (i := 578) (by decide +kernel), List.mem_of_getElem? (i := 696) (by decide +kernel), List.mem_of_getElem? (i := 697) (by decide +kernel)⟩
theorem lw_p28 : lw_okq (⟨"BorderForgeModel", "fails", "(I)Z"⟩, 13) := ⟨⟨by decide +kernel, by decide +kernel⟩, List.mem_of_getElem? (i := 578) (by decide +kernel), List.mem_of_getElem? (i := 700) (by decide +kernel), List.mem_of_getElem? (i := 701) (by decide +kernel)⟩
theorem lw_p29 : lw_okq (⟨"BorderForgeModel", "takesRider", "()Z"⟩, 13) := ⟨⟨by decide +kernel, by decide +kernel⟩, List.mem_of_getElem? (i := 578) (by decide +kernel), List.mem_of_getElem? (i := 704) (by decide +kernel), List.mem_of_getElem? (i := 705) (by decide +kernel)⟩
theorem lw_p30 : lw_okq (⟨"BorderForgeModel", "number", "(I)I"⟩, 13) := ⟨⟨by decide +kernel, by decide +kernel⟩, List.mem_of_getElem? (i := 578) (by decide +kernel), List.mem_of_getElem? (i := 711) (by decide +kernel), List.mem_of_getElem? (i := 712) (by decide +kernel)⟩
theorem lw_p31 : lw_okq (⟨"BorderForgeModel", "takesBuys", "(I)Z"⟩, 13) := ⟨⟨by decide +kernel, by decide +kernel⟩, List.mem_of_getElem? (i := 578) (by decide +kernel), List.mem_of_getElem? (i := 717) (by decide +kernel), List.mem_of_getElem? (i := 718) (by decide +kernel)⟩
def lw_privs_2 : List (MethodName × Nat) := [(⟨"BorderForge", "isRest", "(II)Z"⟩, 10), (⟨"BorderForge", "isFirstWith", "(II)Z"⟩, 10), (⟨"BorderForge", "rowFault", "(IIIII)I"⟩, 10), (⟨"BorderForge", "isTold", "(ILBorderForge$Page;II)Z"⟩, 10), (⟨"BorderForgeModel", "isRider", "(I)Z"⟩, 13), (⟨"BorderForgeModel", "takesNow", "(IZ)I"⟩, 13), (⟨"BorderForgeModel", "isThere", "(II)Z"⟩, 13), (⟨"BorderForgeModel", "takesRoad", "()Z"⟩, 13), (⟨"BorderForgeModel", "takesStage", "()Z"⟩, 13), (⟨"BorderForgeModel", "digit", "(II)I"⟩, 13), (⟨"BorderForgeModel", "here", "()I"⟩, 13), (⟨"BorderForgeModel", "letterAt", "(I)I"⟩, 13), (⟨"BorderForgeModel", "fails", "(I)Z"⟩, 13), (⟨"BorderForgeModel", "takesRider", "()Z"⟩, 13), (⟨"BorderForgeModel", "number", "(I)I"⟩, 13), (⟨"BorderForgeModel", "takesBuys", "(I)Z"⟩, 13)]
theorem lw_r2 : ∀ q ∈ lw_privs_2, lw_okq q := List.forall_mem_cons.mpr ⟨lw_p16, List.forall_mem_cons.mpr ⟨lw_p17, List.forall_mem_cons.mpr ⟨lw_p18, List.forall_mem_cons.mpr ⟨lw_p19, List.forall_mem_cons.mpr ⟨lw_p20, List.forall_mem_cons.mpr ⟨lw_p21, List.forall_mem_cons.mpr ⟨lw_p22, List.forall_mem_cons.mpr ⟨lw_p23, List.forall_mem_cons.mpr ⟨lw_p24, List.forall_mem_cons.mpr ⟨lw_p25, List.forall_mem_cons.mpr ⟨lw_p26, List.forall_mem_cons.mpr ⟨lw_p27, List.forall_mem_cons.mpr ⟨lw_p28, List.forall_mem_cons.mpr ⟨lw_p29, List.forall_mem_cons.mpr ⟨lw_p30, List.forall_mem_cons.mpr ⟨lw_p31, fun _ h => absurd h List.not_mem_nil⟩⟩⟩⟩⟩⟩⟩⟩⟩⟩⟩⟩⟩⟩⟩⟩
theorem lw_p32 : lw_okq (⟨"BorderForgeModel", "copyAll", "(III)V"⟩, 13) := ⟨⟨by decide +kernel, by decide +kernel⟩, List.mem_of_getElem? (i := 578) (by decide +kernel), List.mem_of_getElem? (i := 721) (by decide +kernel), List.mem_of_getElem? (i := 722) (by decide +kernel)⟩
theorem lw_p33 : lw_okq (⟨"BorderForgeModel", "thereIn", "(I)I"⟩, 13) := ⟨⟨by decide +kernel, by decide +kernel⟩, List.mem_of_getElem? (i := 578) (by decide +kernel), List.mem_of_getElem? (i := 729) (by decide +kernel), List.mem_of_getElem? (i := 730) (by decide +kernel)⟩
theorem lw_p34 : lw_okq (⟨"BorderForgeModel", "nextIn", "(I)I"⟩, 13) := ⟨⟨by decide +kernel, by decide +kernel⟩, List.mem_of_getElem? (i := 578) (by decide +kernel), List.mem_of_getElem? (i := 733) (by decide +kernel), List.mem_of_getElem? (i := 734) (by decide +kernel)⟩
theorem lw_p35 : lw_okq (⟨"BorderForgeModel", "coinsOfAll", "()I"⟩, 13) := ⟨⟨by decide +kernel, by decide +kernel⟩, List.mem_of_getElem? (i := 578) (by decide +kernel), List.mem_of_getElem? (i := 737) (by decide +kernel), List.mem_of_getElem? (i := 738) (by decide +kernel)⟩
theorem lw_p36 : lw_okq (⟨"BorderForgeModel", "horsesOfAll", "()I"⟩, 13) := ⟨⟨by decide +kernel, by decide +kernel⟩, List.mem_of_getElem? (i := 578) (by decide +kernel), List.mem_of_getElem? (i := 741) (by decide +kernel), List.mem_of_getElem? (i := 742) (by decide +kernel)⟩
theorem lw_p37 : lw_okq (⟨"BorderForgeModel", "minds", "()V"⟩, 13) := ⟨⟨by decide +kernel, by decide +kernel⟩, List.mem_of_getElem? (i := 578) (by decide +kernel), List.mem_of_getElem? (i := 749) (by decide +kernel), List.mem_of_getElem? (i := 750) (by decide +kernel)⟩
theorem lw_p38 : lw_okq (⟨"BorderForgeModel", "rides", "(II)V"⟩, 13) := ⟨⟨by decide +kernel, by decide +kernel⟩, List.mem_of_getElem? (i := 578) (by decide +kernel), List.mem_of_getElem? (i := 753) (by decide +kernel), List.mem_of_getElem? (i := 754) (by decide +kernel)⟩
theorem lw_p39 : lw_okq (⟨"BorderForgeModel", "areTwo", "(II)Z"⟩, 13) := ⟨⟨by decide +kernel, by decide +kernel⟩, List.mem_of_getElem? (i := 578) (by decide +kernel), List.mem_of_getElem? (i := 768) (by decide +kernel), List.mem_of_getElem? (i := 769) (by decide +kernel)⟩
theorem lw_p40 : lw_okq (⟨"BorderForgeModel", "foretells", "()V"⟩, 13) := ⟨⟨by decide +kernel, by decide +kernel⟩, List.mem_of_getElem? (i := 578) (by decide +kernel), List.mem_of_getElem? (i := 791) (by decide +kernel), List.mem_of_getElem? (i := 792) (by decide +kernel)⟩
theorem lw_p41 : lw_okq (⟨"BorderForgeModel", "tries", "()V"⟩, 13) := ⟨⟨by decide +kernel, by decide +kernel⟩, List.mem_of_getElem? (i := 578) (by decide +kernel), List.mem_of_getElem? (i := 795) (by decide +kernel), List.mem_of_getElem? (i := 796) (by decide +kernel)⟩
theorem lw_p42 : lw_okq (⟨"BorderForgeModel", "ridesOn", "(II)V"⟩, 13) := ⟨⟨by decide +kernel, by decide +kernel⟩, List.mem_of_getElem? (i := 578) (by decide +kernel), List.mem_of_getElem? (i := 799) (by decide +kernel), List.mem_of_getElem? (i := 800) (by decide +kernel)⟩
theorem lw_p43 : lw_okq (⟨"BorderForgeModel", "firstTried", "()I"⟩, 13) := ⟨⟨by decide +kernel, by decide +kernel⟩, List.mem_of_getElem? (i := 578) (by decide +kernel), List.mem_of_getElem? (i := 811) (by decide +kernel), List.mem_of_getElem? (i := 812) (by decide +kernel)⟩
theorem lw_p44 : lw_okq (⟨"BorderForgeModel", "layDuel", "(II)V"⟩, 13) := ⟨⟨by decide +kernel, by decide +kernel⟩, List.mem_of_getElem? (i := 578) (by decide +kernel), List.mem_of_getElem? (i := 844) (by decide +kernel), List.mem_of_getElem? (i := 845) (by decide +kernel)⟩
theorem lw_p45 : lw_okq (⟨"BorderForgeModel", "rests", "(II)Z"⟩, 13) := ⟨⟨by decide +kernel, by decide +kernel⟩, List.mem_of_getElem? (i := 578) (by decide +kernel), List.mem_of_getElem? (i := 848) (by decide +kernel), List.mem_of_getElem? (i := 849) (by decide +kernel)⟩
theorem lw_p46 : lw_okq (⟨"BorderForgeModel", "against", "(IIII)I"⟩, 13) := ⟨⟨by decide +kernel, by decide +kernel⟩, List.mem_of_getElem? (i := 578) (by decide +kernel), List.mem_of_getElem? (i := 877) (by decide +kernel), List.mem_of_getElem? (i := 878) (by decide +kernel)⟩
def lw_privs_3 : List (MethodName × Nat) := [(⟨"BorderForgeModel", "copyAll", "(III)V"⟩, 13), (⟨"BorderForgeModel", "thereIn", "(I)I"⟩, 13), (⟨"BorderForgeModel", "nextIn", "(I)I"⟩, 13), (⟨"BorderForgeModel", "coinsOfAll", "()I"⟩, 13), (⟨"BorderForgeModel", "horsesOfAll", "()I"⟩, 13), (⟨"BorderForgeModel", "minds", "()V"⟩, 13), (⟨"BorderForgeModel", "rides", "(II)V"⟩, 13), (⟨"BorderForgeModel", "areTwo", "(II)Z"⟩, 13), (⟨"BorderForgeModel", "foretells", "()V"⟩, 13), (⟨"BorderForgeModel", "tries", "()V"⟩, 13), (⟨"BorderForgeModel", "ridesOn", "(II)V"⟩, 13), (⟨"BorderForgeModel", "firstTried", "()I"⟩, 13), (⟨"BorderForgeModel", "layDuel", "(II)V"⟩, 13), (⟨"BorderForgeModel", "rests", "(II)Z"⟩, 13), (⟨"BorderForgeModel", "against", "(IIII)I"⟩, 13)]
theorem lw_r3 : ∀ q ∈ lw_privs_3, lw_okq q := List.forall_mem_cons.mpr ⟨lw_p32, List.forall_mem_cons.mpr ⟨lw_p33, List.forall_mem_cons.mpr ⟨lw_p34, List.forall_mem_cons.mpr ⟨lw_p35, List.forall_mem_cons.mpr ⟨lw_p36, List.forall_mem_cons.mpr ⟨lw_p37, List.forall_mem_cons.mpr ⟨lw_p38, List.forall_mem_cons.mpr ⟨lw_p39, List.forall_mem_cons.mpr ⟨lw_p40, List.forall_mem_cons.mpr ⟨lw_p41, List.forall_mem_cons.mpr ⟨lw_p42, List.forall_mem_cons.mpr ⟨lw_p43, List.forall_mem_cons.mpr ⟨lw_p44, List.forall_mem_cons.mpr ⟨lw_p45, List.forall_mem_cons.mpr ⟨lw_p46, fun _ h => absurd h List.not_mem_nil⟩⟩⟩⟩⟩⟩⟩⟩⟩⟩⟩⟩⟩⟩⟩
def lw_privs : List (MethodName × Nat) := lw_privs_1 ++ (lw_privs_2 ++ (lw_privs_3))
def lw_tbl : List Cond := k2_sels lw_privs ++ tables_1
theorem lw_privs_ok : ∀ q ∈ lw_privs, lw_okq q := by
  show ∀ q ∈ lw_privs_1 ++ (lw_privs_2 ++ (lw_privs_3)), lw_okq q
  exact List.forall_mem_append.mpr ⟨lw_r1, List.forall_mem_append.mpr ⟨lw_r2, lw_r3⟩⟩
end
section
def RX0 : String := "BorderForge$Foretelling"
def TX0 : u_T := fun k => match k with
  | 0 => ("BorderForge$Foretelling", "trial", "LBorderForge$Race;", true)
  | _ => ("BorderForge$Foretelling", "came", "[I", true)
def tyX0 : Nat → FieldType := fun k => match k with
  | 0 => .object "BorderForge$Race"
  | _ => .array .int
abbrev wsX00 : List Cond := u_ws RX0 TX0 2
theorem nmX0 : ∀ a, a < 2 → ∀ b, b < 2 → a ≠ b → (TX0 a).2.1 ≠ (TX0 b).2.1 := by decide +kernel
theorem tyX0_ok : ∀ k, k < 2 → parseFieldDescriptor (TX0 k).2.2.1 = some (tyX0 k) := by decide +kernel
abbrev cX0_init : ByteArray := prog_2_method_1_code
def yX0_init : MethodName := ⟨RX0, "<init>", "()V"⟩
abbrev cX0_begin : ByteArray := prog_2_method_2_code
def yX0_begin : MethodName := ⟨RX0, "begin", "(LBorderForge$Race;)V"⟩
abbrev cX0_rideToForge : ByteArray := prog_2_method_3_code
def yX0_rideToForge : MethodName := ⟨RX0, "rideToForge", "(II)I"⟩
abbrev cX0_whoIsFirst : ByteArray := prog_2_method_4_code
def yX0_whoIsFirst : MethodName := ⟨RX0, "whoIsFirst", "()I"⟩
abbrev cX0_cameTo : ByteArray := prog_2_method_5_code
def yX0_cameTo : MethodName := ⟨RX0, "cameTo", "(II)I"⟩
abbrev cX0_noteWhere : ByteArray := prog_2_method_6_code
def yX0_noteWhere : MethodName := ⟨RX0, "noteWhere", "(I)V"⟩
def RX1 : String := "BorderForge$Page"
def TX1 : u_T := fun k => match k with
  | 0 => ("BorderForge$Page", "lane", "I", false)
  | 1 => ("BorderForge$Page", "length", "I", false)
  | _ => ("BorderForge$Page", "items", "[J", true)
def tyX1 : Nat → FieldType := fun k => match k with
  | 0 => .int
  | 1 => .int
  | _ => .array .long
abbrev wsX10 : List Cond := u_ws RX1 TX1 3
theorem nmX1 : ∀ a, a < 3 → ∀ b, b < 3 → a ≠ b → (TX1 a).2.1 ≠ (TX1 b).2.1 := by decide +kernel
theorem tyX1_ok : ∀ k, k < 3 → parseFieldDescriptor (TX1 k).2.2.1 = some (tyX1 k) := by decide +kernel
abbrev cX1_init : ByteArray := prog_3_method_1_code
def yX1_init : MethodName := ⟨RX1, "<init>", "()V"⟩
abbrev cX1_isMissing : ByteArray := prog_3_method_2_code
def yX1_isMissing : MethodName := ⟨RX1, "isMissing", "()Z"⟩
abbrev cX1_lay : ByteArray := prog_3_method_3_code
def yX1_lay : MethodName := ⟨RX1, "lay", "(II)V"⟩
abbrev cX1_clear : ByteArray := prog_3_method_4_code
def yX1_clear : MethodName := ⟨RX1, "clear", "()I"⟩
abbrev cX1_holds : ByteArray := prog_3_method_5_code
def yX1_holds : MethodName := ⟨RX1, "holds", "(II)Z"⟩
abbrev cX1_faultOf : ByteArray := prog_3_method_6_code
def yX1_faultOf : MethodName := ⟨RX1, "faultOf", "(III)I"⟩
abbrev cX1_put : ByteArray := prog_3_method_7_code
def yX1_put : MethodName := ⟨RX1, "put", "(IJ)V"⟩
def RX2 : String := "BorderForge$Past"
def TX2 : u_T := fun k => match k with
  | 0 => ("BorderForge$Past", "known", "I", false)
  | 1 => ("BorderForge$Past", "next", "I", false)
  | _ => ("BorderForge$Past", "marks", "[I", true)
def tyX2 : Nat → FieldType := fun k => match k with
  | 0 => .int
  | 1 => .int
  | _ => .array .int
abbrev wsX20 : List Cond := u_ws RX2 TX2 3
theorem nmX2 : ∀ a, a < 3 → ∀ b, b < 3 → a ≠ b → (TX2 a).2.1 ≠ (TX2 b).2.1 := by decide +kernel
theorem tyX2_ok : ∀ k, k < 3 → parseFieldDescriptor (TX2 k).2.2.1 = some (tyX2 k) := by decide +kernel
abbrev cX2_init : ByteArray := prog_4_method_1_code
def yX2_init : MethodName := ⟨RX2, "<init>", "()V"⟩
abbrev cX2_forget : ByteArray := prog_4_method_2_code
def yX2_forget : MethodName := ⟨RX2, "forget", "()V"⟩
abbrev cX2_mark : ByteArray := prog_4_method_3_code
def yX2_mark : MethodName := ⟨RX2, "mark", "(LBorderForge$Race;)V"⟩
abbrev cX2_goBack : ByteArray := prog_4_method_4_code
def yX2_goBack : MethodName := ⟨RX2, "goBack", "(LBorderForge$Race;)V"⟩
abbrev cX2_takeAll : ByteArray := prog_4_method_5_code
def yX2_takeAll : MethodName := ⟨RX2, "takeAll", "(LBorderForge$Past;)V"⟩
def RX3 : String := "BorderForge$Race"
def TX3 : u_T := fun k => match k with
  | 0 => ("BorderForge$Race", "stages", "I", false)
  | 1 => ("BorderForge$Race", "riders", "I", false)
  | 2 => ("BorderForge$Race", "price", "I", false)
  | 3 => ("BorderForge$Race", "draw", "I", false)
  | 4 => ("BorderForge$Race", "miles", "[I", true)
  | 5 => ("BorderForge$Race", "toll", "[I", true)
  | 6 => ("BorderForge$Race", "horses", "[I", true)
  | 7 => ("BorderForge$Race", "kind", "[I", true)
  | 8 => ("BorderForge$Race", "behind", "[I", true)
  | 9 => ("BorderForge$Race", "minute", "[I", true)
  | 10 => ("BorderForge$Race", "coins", "[I", true)
  | _ => ("BorderForge$Race", "buying", "[I", true)
def tyX3 : Nat → FieldType := fun k => match k with
  | 0 => .int
  | 1 => .int
  | 2 => .int
  | 3 => .int
  | 4 => .array .int
  | 5 => .array .int
  | 6 => .array .int
  | 7 => .array .int
  | 8 => .array .int
  | 9 => .array .int
  | 10 => .array .int
  | _ => .array .int
abbrev wsX30 : List Cond := u_ws RX3 TX3 12
theorem nmX3 : ∀ a, a < 12 → ∀ b, b < 12 → a ≠ b → (TX3 a).2.1 ≠ (TX3 b).2.1 := by decide +kernel
theorem tyX3_ok : ∀ k, k < 12 → parseFieldDescriptor (TX3 k).2.2.1 = some (tyX3 k) := by decide +kernel
abbrev cX3_init : ByteArray := prog_5_method_1_code
def yX3_init : MethodName := ⟨RX3, "<init>", "()V"⟩
abbrev cX3_takeAll : ByteArray := prog_5_method_2_code
def yX3_takeAll : MethodName := ⟨RX3, "takeAll", "(LBorderForge$Race;)V"⟩
abbrev cX3_takeRoad : ByteArray := prog_5_method_3_code
def yX3_takeRoad : MethodName := ⟨RX3, "takeRoad", "(LBorderForge$Race;)V"⟩
abbrev cX3_writeMoving : ByteArray := prog_5_method_4_code
def yX3_writeMoving : MethodName := ⟨RX3, "writeMoving", "([II)V"⟩
abbrev cX3_readMoving : ByteArray := prog_5_method_5_code
def yX3_readMoving : MethodName := ⟨RX3, "readMoving", "([II)V"⟩
abbrev cX3_addStage : ByteArray := prog_5_method_6_code
def yX3_addStage : MethodName := ⟨RX3, "addStage", "(III)I"⟩
abbrev cX3_addRider : ByteArray := prog_5_method_7_code
def yX3_addRider : MethodName := ⟨RX3, "addRider", "(III)I"⟩
abbrev cX3_isThere : ByteArray := prog_5_method_8_code
def yX3_isThere : MethodName := ⟨RX3, "isThere", "(I)Z"⟩
abbrev cX3_whoIsThere : ByteArray := prog_5_method_9_code
def yX3_whoIsThere : MethodName := ⟨RX3, "whoIsThere", "()I"⟩
abbrev cX3_whoRides : ByteArray := prog_5_method_10_code
def yX3_whoRides : MethodName := ⟨RX3, "whoRides", "()I"⟩
abbrev cX3_rideStage : ByteArray := prog_5_method_11_code
def yX3_rideStage : MethodName := ⟨RX3, "rideStage", "(II)V"⟩
abbrev cX3_drawWheel : ByteArray := prog_5_method_12_code
def yX3_drawWheel : MethodName := ⟨RX3, "drawWheel", "()Z"⟩
def RX4 : String := "BorderForge$Tape"
def TX4 : u_T := fun k => match k with
  | 0 => ("BorderForge$Tape", "draft", "LBorderForge$Race;", true)
  | 1 => ("BorderForge$Tape", "letters", "[I", true)
  | 2 => ("BorderForge$Tape", "length", "I", false)
  | _ => ("BorderForge$Tape", "place", "I", false)
def tyX4 : Nat → FieldType := fun k => match k with
  | 0 => .object "BorderForge$Race"
  | 1 => .array .int
  | 2 => .int
  | _ => .int
abbrev wsX40 : List Cond := u_ws RX4 TX4 4
theorem nmX4 : ∀ a, a < 4 → ∀ b, b < 4 → a ≠ b → (TX4 a).2.1 ≠ (TX4 b).2.1 := by decide +kernel
theorem tyX4_ok : ∀ k, k < 4 → parseFieldDescriptor (TX4 k).2.2.1 = some (tyX4 k) := by decide +kernel
abbrev cX4_init : ByteArray := prog_6_method_1_code
def yX4_init : MethodName := ⟨RX4, "<init>", "()V"⟩
abbrev cX4_isFull : ByteArray := prog_6_method_2_code
def yX4_isFull : MethodName := ⟨RX4, "isFull", "()Z"⟩
abbrev cX4_append : ByteArray := prog_6_method_3_code
def yX4_append : MethodName := ⟨RX4, "append", "(I)I"⟩
abbrev cX4_readRoad : ByteArray := prog_6_method_4_code
def yX4_readRoad : MethodName := ⟨RX4, "readRoad", "()I"⟩
abbrev cX4_readStages : ByteArray := prog_6_method_5_code
def yX4_readStages : MethodName := ⟨RX4, "readStages", "()Z"⟩
abbrev cX4_readStage : ByteArray := prog_6_method_6_code
def yX4_readStage : MethodName := ⟨RX4, "readStage", "()Z"⟩
abbrev cX4_readRiders : ByteArray := prog_6_method_7_code
def yX4_readRiders : MethodName := ⟨RX4, "readRiders", "()Z"⟩
abbrev cX4_readRider : ByteArray := prog_6_method_8_code
def yX4_readRider : MethodName := ⟨RX4, "readRider", "()Z"⟩
abbrev cX4_readBuying : ByteArray := prog_6_method_9_code
def yX4_readBuying : MethodName := ⟨RX4, "readBuying", "(I)Z"⟩
abbrev cX4_readDigit : ByteArray := prog_6_method_10_code
def yX4_readDigit : MethodName := ⟨RX4, "readDigit", "(II)I"⟩
abbrev cX4_readNumber : ByteArray := prog_6_method_11_code
def yX4_readNumber : MethodName := ⟨RX4, "readNumber", "(I)I"⟩
abbrev cX4_takes : ByteArray := prog_6_method_12_code
def yX4_takes : MethodName := ⟨RX4, "takes", "(I)Z"⟩
abbrev cX4_letterHere : ByteArray := prog_6_method_13_code
def yX4_letterHere : MethodName := ⟨RX4, "letterHere", "()I"⟩
abbrev cX4_kindOf : ByteArray := prog_6_method_14_code
def yX4_kindOf : MethodName := ⟨RX4, "kindOf", "(I)I"⟩
def RX5 : String := "BorderForge"
def TX5 : u_T := fun k => match k with
  | 0 => ("BorderForge", "now", "LBorderForge$Race;", true)
  | 1 => ("BorderForge", "past", "LBorderForge$Past;", true)
  | 2 => ("BorderForge", "imageRace", "LBorderForge$Race;", true)
  | 3 => ("BorderForge", "imagePast", "LBorderForge$Past;", true)
  | 4 => ("BorderForge", "imaged", "Z", false)
  | 5 => ("BorderForge", "foretold", "LBorderForge$Foretelling;", true)
  | 6 => ("BorderForge", "tape", "LBorderForge$Tape;", true)
  | 7 => ("BorderForge", "pages", "[LBorderForge$Page;", true)
  | 8 => ("BorderForge", "duelMine", "[I", true)
  | _ => ("BorderForge", "duelTheirs", "[I", true)
def tyX5 : Nat → FieldType := fun k => match k with
  | 0 => .object "BorderForge$Race"
  | 1 => .object "BorderForge$Past"
  | 2 => .object "BorderForge$Race"
  | 3 => .object "BorderForge$Past"
  | 4 => .boolean
  | 5 => .object "BorderForge$Foretelling"
  | 6 => .object "BorderForge$Tape"
  | 7 => .array (.object "BorderForge$Page")
  | 8 => .array .int
  | _ => .array .int
abbrev wsX50 : List Cond := u_ws RX5 TX5 10
theorem nmX5 : ∀ a, a < 10 → ∀ b, b < 10 → a ≠ b → (TX5 a).2.1 ≠ (TX5 b).2.1 := by decide +kernel
theorem tyX5_ok : ∀ k, k < 10 → parseFieldDescriptor (TX5 k).2.2.1 = some (tyX5 k) := by decide +kernel
abbrev cX5_init : ByteArray := prog_1_method_1_code
def yX5_init : MethodName := ⟨RX5, "<init>", "()V"⟩
abbrev cX5_stage : ByteArray := prog_1_method_2_code
def yX5_stage : MethodName := ⟨RX5, "stage", "(III)I"⟩
abbrev cX5_rider : ByteArray := prog_1_method_3_code
def yX5_rider : MethodName := ⟨RX5, "rider", "(III)I"⟩
abbrev cX5_of : ByteArray := prog_1_method_4_code
def yX5_of : MethodName := ⟨RX5, "of", "(II)I"⟩
abbrev cX5_at : ByteArray := prog_1_method_5_code
def yX5_at : MethodName := ⟨RX5, "at", "(II)I"⟩
abbrev cX5_buys : ByteArray := prog_1_method_6_code
def yX5_buys : MethodName := ⟨RX5, "buys", "(II)I"⟩
abbrev cX5_price : ByteArray := prog_1_method_7_code
def yX5_price : MethodName := ⟨RX5, "price", "(I)I"⟩
abbrev cX5_type : ByteArray := prog_1_method_8_code
def yX5_type : MethodName := ⟨RX5, "type", "(I)I"⟩
abbrev cX5_road : ByteArray := prog_1_method_9_code
def yX5_road : MethodName := ⟨RX5, "road", "()I"⟩
abbrev cX5_count : ByteArray := prog_1_method_10_code
def yX5_count : MethodName := ⟨RX5, "count", "(I)I"⟩
abbrev cX5_ride : ByteArray := prog_1_method_11_code
def yX5_ride : MethodName := ⟨RX5, "ride", "(I)I"⟩
abbrev cX5_wheel : ByteArray := prog_1_method_12_code
def yX5_wheel : MethodName := ⟨RX5, "wheel", "(I)I"⟩
abbrev cX5_give : ByteArray := prog_1_method_13_code
def yX5_give : MethodName := ⟨RX5, "give", "(III)I"⟩
abbrev cX5_drift : ByteArray := prog_1_method_14_code
def yX5_drift : MethodName := ⟨RX5, "drift", "(I)I"⟩
abbrev cX5_undo : ByteArray := prog_1_method_15_code
def yX5_undo : MethodName := ⟨RX5, "undo", "()I"⟩
abbrev cX5_seed : ByteArray := prog_1_method_16_code
def yX5_seed : MethodName := ⟨RX5, "seed", "(I)I"⟩
abbrev cX5_ahead : ByteArray := prog_1_method_17_code
def yX5_ahead : MethodName := ⟨RX5, "ahead", "(II)I"⟩
abbrev cX5_comes : ByteArray := prog_1_method_18_code
def yX5_comes : MethodName := ⟨RX5, "comes", "(II)I"⟩
abbrev cX5_first : ByteArray := prog_1_method_19_code
def yX5_first : MethodName := ⟨RX5, "first", "()I"⟩
abbrev cX5_caught : ByteArray := prog_1_method_20_code
def yX5_caught : MethodName := ⟨RX5, "caught", "(II)I"⟩
abbrev cX5_best : ByteArray := prog_1_method_21_code
def yX5_best : MethodName := ⟨RX5, "best", "(II)I"⟩
abbrev cX5_earlier : ByteArray := prog_1_method_22_code
def yX5_earlier : MethodName := ⟨RX5, "earlier", "(II)I"⟩
abbrev cX5_purse : ByteArray := prog_1_method_23_code
def yX5_purse : MethodName := ⟨RX5, "purse", "(II)I"⟩
abbrev cX5_loosened : ByteArray := prog_1_method_24_code
def yX5_loosened : MethodName := ⟨RX5, "loosened", "(II)I"⟩
abbrev cX5_duel : ByteArray := prog_1_method_25_code
def yX5_duel : MethodName := ⟨RX5, "duel", "(III)I"⟩
abbrev cX5_luck : ByteArray := prog_1_method_26_code
def yX5_luck : MethodName := ⟨RX5, "luck", "(III)I"⟩
abbrev cX5_image : ByteArray := prog_1_method_27_code
def yX5_image : MethodName := ⟨RX5, "image", "()I"⟩
abbrev cX5_restore : ByteArray := prog_1_method_28_code
def yX5_restore : MethodName := ⟨RX5, "restore", "()I"⟩
abbrev cX5_passed : ByteArray := prog_1_method_29_code
def yX5_passed : MethodName := ⟨RX5, "passed", "(IIIII)I"⟩
abbrev cX5_film : ByteArray := prog_1_method_30_code
def yX5_film : MethodName := ⟨RX5, "film", "(IIIII)I"⟩
abbrev cX5_sheet : ByteArray := prog_1_method_31_code
def yX5_sheet : MethodName := ⟨RX5, "sheet", "(III)I"⟩
abbrev cX5_drop : ByteArray := prog_1_method_32_code
def yX5_drop : MethodName := ⟨RX5, "drop", "(I)I"⟩
abbrev cX5_item : ByteArray := prog_1_method_33_code
def yX5_item : MethodName := ⟨RX5, "item", "(IIIJ)I"⟩
abbrev cX5_copy : ByteArray := prog_1_method_34_code
def yX5_copy : MethodName := ⟨RX5, "copy", "(IIIII)I"⟩
abbrev cX5_within : ByteArray := prog_1_method_35_code
def yX5_within : MethodName := ⟨RX5, "within", "(III)Z"⟩
abbrev cX5_isZeroOrOne : ByteArray := prog_1_method_36_code
def yX5_isZeroOrOne : MethodName := ⟨RX5, "isZeroOrOne", "(I)Z"⟩
abbrev cX5_isSheet : ByteArray := prog_1_method_37_code
def yX5_isSheet : MethodName := ⟨RX5, "isSheet", "(I)Z"⟩
abbrev cX5_isLane : ByteArray := prog_1_method_38_code
def yX5_isLane : MethodName := ⟨RX5, "isLane", "(I)Z"⟩
abbrev cX5_isRider : ByteArray := prog_1_method_39_code
def yX5_isRider : MethodName := ⟨RX5, "isRider", "(I)Z"⟩
abbrev cX5_areTwo : ByteArray := prog_1_method_40_code
def yX5_areTwo : MethodName := ⟨RX5, "areTwo", "(II)Z"⟩
abbrev cX5_has : ByteArray := prog_1_method_41_code
def yX5_has : MethodName := ⟨RX5, "has", "(II)Z"⟩
abbrev cX5_sumOf : ByteArray := prog_1_method_42_code
def yX5_sumOf : MethodName := ⟨RX5, "sumOf", "([II)I"⟩
abbrev cX5_stageTakes : ByteArray := prog_1_method_43_code
def yX5_stageTakes : MethodName := ⟨RX5, "stageTakes", "(IZ)I"⟩
abbrev cX5_minutesFor : ByteArray := prog_1_method_44_code
def yX5_minutesFor : MethodName := ⟨RX5, "minutesFor", "(IIZ)I"⟩
abbrev cX5_minuteBuying : ByteArray := prog_1_method_45_code
def yX5_minuteBuying : MethodName := ⟨RX5, "minuteBuying", "(II)I"⟩
abbrev cX5_soonestSet : ByteArray := prog_1_method_46_code
def yX5_soonestSet : MethodName := ⟨RX5, "soonestSet", "(I)I"⟩
abbrev cX5_fillDuel : ByteArray := prog_1_method_47_code
def yX5_fillDuel : MethodName := ⟨RX5, "fillDuel", "(II)V"⟩
abbrev cX5_isRest : ByteArray := prog_1_method_48_code
def yX5_isRest : MethodName := ⟨RX5, "isRest", "(II)Z"⟩
abbrev cX5_isFirstWith : ByteArray := prog_1_method_49_code
def yX5_isFirstWith : MethodName := ⟨RX5, "isFirstWith", "(II)Z"⟩
abbrev cX5_waysOf : ByteArray := prog_1_method_50_code
def yX5_waysOf : MethodName := ⟨RX5, "waysOf", "(III)I"⟩
abbrev cX5_sharedDivisor : ByteArray := prog_1_method_51_code
def yX5_sharedDivisor : MethodName := ⟨RX5, "sharedDivisor", "(II)I"⟩
abbrev cX5_rowFault : ByteArray := prog_1_method_52_code
def yX5_rowFault : MethodName := ⟨RX5, "rowFault", "(IIIII)I"⟩
abbrev cX5_isTold : ByteArray := prog_1_method_53_code
def yX5_isTold : MethodName := ⟨RX5, "isTold", "(ILBorderForge$Page;II)Z"⟩
def RX6 : String := "BorderForgeModel"
def TX6 : u_T := fun k => match k with
  | 0 => ("BorderForgeModel", "w", "[I", true)
  | 1 => ("BorderForgeModel", "isKept", "Z", false)
  | 2 => ("BorderForgeModel", "tape", "[I", true)
  | 3 => ("BorderForgeModel", "taped", "I", false)
  | 4 => ("BorderForgeModel", "items", "[J", true)
  | 5 => ("BorderForgeModel", "sheetLane", "[I", true)
  | 6 => ("BorderForgeModel", "sheetSize", "[I", true)
  | 7 => ("BorderForgeModel", "place", "I", false)
  | 8 => ("BorderForgeModel", "faultAt", "I", false)
  | 9 => ("BorderForgeModel", "came", "[I", true)
  | 10 => ("BorderForgeModel", "duelOne", "[I", true)
  | 11 => ("BorderForgeModel", "duelOther", "[I", true)
  | _ => ("BorderForgeModel", "held", "[J", true)
def tyX6 : Nat → FieldType := fun k => match k with
  | 0 => .array .int
  | 1 => .boolean
  | 2 => .array .int
  | 3 => .int
  | 4 => .array .long
  | 5 => .array .int
  | 6 => .array .int
  | 7 => .int
  | 8 => .int
  | 9 => .array .int
  | 10 => .array .int
  | 11 => .array .int
  | _ => .array .long
abbrev wsX60 : List Cond := u_ws RX6 TX6 13
theorem nmX6 : ∀ a, a < 13 → ∀ b, b < 13 → a ≠ b → (TX6 a).2.1 ≠ (TX6 b).2.1 := by decide +kernel
theorem tyX6_ok : ∀ k, k < 13 → parseFieldDescriptor (TX6 k).2.2.1 = some (tyX6 k) := by decide +kernel
abbrev cX6_init : ByteArray := prog_8_method_1_code
def yX6_init : MethodName := ⟨RX6, "<init>", "()V"⟩
abbrev cX6_in : ByteArray := prog_8_method_3_code
def yX6_in : MethodName := ⟨RX6, "in", "(JJJ)Z"⟩
abbrev cX6_has : ByteArray := prog_8_method_4_code
def yX6_has : MethodName := ⟨RX6, "has", "(II)Z"⟩
abbrev cX6_ones : ByteArray := prog_8_method_5_code
def yX6_ones : MethodName := ⟨RX6, "ones", "(I)I"⟩
abbrev cX6_copyAll : ByteArray := prog_8_method_6_code
def yX6_copyAll : MethodName := ⟨RX6, "copyAll", "(III)V"⟩
abbrev cX6_isRider : ByteArray := prog_8_method_7_code
def yX6_isRider : MethodName := ⟨RX6, "isRider", "(I)Z"⟩
abbrev cX6_areTwo : ByteArray := prog_8_method_8_code
def yX6_areTwo : MethodName := ⟨RX6, "areTwo", "(II)Z"⟩
abbrev cX6_stage : ByteArray := prog_8_method_9_code
def yX6_stage : MethodName := ⟨RX6, "stage", "(III)I"⟩
abbrev cX6_rider : ByteArray := prog_8_method_10_code
def yX6_rider : MethodName := ⟨RX6, "rider", "(III)I"⟩
abbrev cX6_of : ByteArray := prog_8_method_11_code
def yX6_of : MethodName := ⟨RX6, "of", "(II)I"⟩
abbrev cX6_takes : ByteArray := prog_8_method_12_code
def yX6_takes : MethodName := ⟨RX6, "takes", "(IIZ)I"⟩
abbrev cX6_isThere : ByteArray := prog_8_method_13_code
def yX6_isThere : MethodName := ⟨RX6, "isThere", "(II)Z"⟩
abbrev cX6_takesNow : ByteArray := prog_8_method_14_code
def yX6_takesNow : MethodName := ⟨RX6, "takesNow", "(IZ)I"⟩
abbrev cX6_at : ByteArray := prog_8_method_15_code
def yX6_at : MethodName := ⟨RX6, "at", "(II)I"⟩
abbrev cX6_buys : ByteArray := prog_8_method_16_code
def yX6_buys : MethodName := ⟨RX6, "buys", "(II)I"⟩
abbrev cX6_price : ByteArray := prog_8_method_17_code
def yX6_price : MethodName := ⟨RX6, "price", "(I)I"⟩
abbrev cX6_type : ByteArray := prog_8_method_18_code
def yX6_type : MethodName := ⟨RX6, "type", "(I)I"⟩
abbrev cX6_letterAt : ByteArray := prog_8_method_19_code
def yX6_letterAt : MethodName := ⟨RX6, "letterAt", "(I)I"⟩
abbrev cX6_here : ByteArray := prog_8_method_20_code
def yX6_here : MethodName := ⟨RX6, "here", "()I"⟩
abbrev cX6_fails : ByteArray := prog_8_method_21_code
def yX6_fails : MethodName := ⟨RX6, "fails", "(I)Z"⟩
abbrev cX6_digit : ByteArray := prog_8_method_22_code
def yX6_digit : MethodName := ⟨RX6, "digit", "(II)I"⟩
abbrev cX6_number : ByteArray := prog_8_method_23_code
def yX6_number : MethodName := ⟨RX6, "number", "(I)I"⟩
abbrev cX6_takesStage : ByteArray := prog_8_method_24_code
def yX6_takesStage : MethodName := ⟨RX6, "takesStage", "()Z"⟩
abbrev cX6_kindBy : ByteArray := prog_8_method_25_code
def yX6_kindBy : MethodName := ⟨RX6, "kindBy", "(I)I"⟩
abbrev cX6_takesBuys : ByteArray := prog_8_method_26_code
def yX6_takesBuys : MethodName := ⟨RX6, "takesBuys", "(I)Z"⟩
abbrev cX6_takesRider : ByteArray := prog_8_method_27_code
def yX6_takesRider : MethodName := ⟨RX6, "takesRider", "()Z"⟩
abbrev cX6_takesRoad : ByteArray := prog_8_method_28_code
def yX6_takesRoad : MethodName := ⟨RX6, "takesRoad", "()Z"⟩
abbrev cX6_road : ByteArray := prog_8_method_29_code
def yX6_road : MethodName := ⟨RX6, "road", "()I"⟩
abbrev cX6_nextIn : ByteArray := prog_8_method_30_code
def yX6_nextIn : MethodName := ⟨RX6, "nextIn", "(I)I"⟩
abbrev cX6_rides : ByteArray := prog_8_method_31_code
def yX6_rides : MethodName := ⟨RX6, "rides", "(II)V"⟩
abbrev cX6_thereIn : ByteArray := prog_8_method_32_code
def yX6_thereIn : MethodName := ⟨RX6, "thereIn", "(I)I"⟩
abbrev cX6_coinsOfAll : ByteArray := prog_8_method_33_code
def yX6_coinsOfAll : MethodName := ⟨RX6, "coinsOfAll", "()I"⟩
abbrev cX6_horsesOfAll : ByteArray := prog_8_method_34_code
def yX6_horsesOfAll : MethodName := ⟨RX6, "horsesOfAll", "()I"⟩
abbrev cX6_count : ByteArray := prog_8_method_35_code
def yX6_count : MethodName := ⟨RX6, "count", "(I)I"⟩
abbrev cX6_minds : ByteArray := prog_8_method_36_code
def yX6_minds : MethodName := ⟨RX6, "minds", "()V"⟩
abbrev cX6_ride : ByteArray := prog_8_method_37_code
def yX6_ride : MethodName := ⟨RX6, "ride", "(I)I"⟩
abbrev cX6_wheel : ByteArray := prog_8_method_38_code
def yX6_wheel : MethodName := ⟨RX6, "wheel", "(I)I"⟩
abbrev cX6_give : ByteArray := prog_8_method_39_code
def yX6_give : MethodName := ⟨RX6, "give", "(III)I"⟩
abbrev cX6_drift : ByteArray := prog_8_method_40_code
def yX6_drift : MethodName := ⟨RX6, "drift", "(I)I"⟩
abbrev cX6_undo : ByteArray := prog_8_method_41_code
def yX6_undo : MethodName := ⟨RX6, "undo", "()I"⟩
abbrev cX6_seed : ByteArray := prog_8_method_42_code
def yX6_seed : MethodName := ⟨RX6, "seed", "(I)I"⟩
abbrev cX6_tries : ByteArray := prog_8_method_43_code
def yX6_tries : MethodName := ⟨RX6, "tries", "()V"⟩
abbrev cX6_ridesOn : ByteArray := prog_8_method_44_code
def yX6_ridesOn : MethodName := ⟨RX6, "ridesOn", "(II)V"⟩
abbrev cX6_foretells : ByteArray := prog_8_method_45_code
def yX6_foretells : MethodName := ⟨RX6, "foretells", "()V"⟩
abbrev cX6_ahead : ByteArray := prog_8_method_46_code
def yX6_ahead : MethodName := ⟨RX6, "ahead", "(II)I"⟩
abbrev cX6_comes : ByteArray := prog_8_method_47_code
def yX6_comes : MethodName := ⟨RX6, "comes", "(II)I"⟩
abbrev cX6_firstTried : ByteArray := prog_8_method_48_code
def yX6_firstTried : MethodName := ⟨RX6, "firstTried", "()I"⟩
abbrev cX6_first : ByteArray := prog_8_method_49_code
def yX6_first : MethodName := ⟨RX6, "first", "()I"⟩
abbrev cX6_caught : ByteArray := prog_8_method_50_code
def yX6_caught : MethodName := ⟨RX6, "caught", "(II)I"⟩
abbrev cX6_best : ByteArray := prog_8_method_51_code
def yX6_best : MethodName := ⟨RX6, "best", "(II)I"⟩
abbrev cX6_earlier : ByteArray := prog_8_method_52_code
def yX6_earlier : MethodName := ⟨RX6, "earlier", "(II)I"⟩
abbrev cX6_purse : ByteArray := prog_8_method_53_code
def yX6_purse : MethodName := ⟨RX6, "purse", "(II)I"⟩
abbrev cX6_loosened : ByteArray := prog_8_method_54_code
def yX6_loosened : MethodName := ⟨RX6, "loosened", "(II)I"⟩
abbrev cX6_layDuel : ByteArray := prog_8_method_55_code
def yX6_layDuel : MethodName := ⟨RX6, "layDuel", "(II)V"⟩
abbrev cX6_rests : ByteArray := prog_8_method_56_code
def yX6_rests : MethodName := ⟨RX6, "rests", "(II)Z"⟩
abbrev cX6_duel : ByteArray := prog_8_method_57_code
def yX6_duel : MethodName := ⟨RX6, "duel", "(III)I"⟩
abbrev cX6_luck : ByteArray := prog_8_method_58_code
def yX6_luck : MethodName := ⟨RX6, "luck", "(III)I"⟩
abbrev cX6_image : ByteArray := prog_8_method_59_code
def yX6_image : MethodName := ⟨RX6, "image", "()I"⟩
abbrev cX6_restore : ByteArray := prog_8_method_60_code
def yX6_restore : MethodName := ⟨RX6, "restore", "()I"⟩
abbrev cX6_isSheet : ByteArray := prog_8_method_61_code
def yX6_isSheet : MethodName := ⟨RX6, "isSheet", "(I)Z"⟩
abbrev cX6_isLane : ByteArray := prog_8_method_62_code
def yX6_isLane : MethodName := ⟨RX6, "isLane", "(II)Z"⟩
abbrev cX6_against : ByteArray := prog_8_method_63_code
def yX6_against : MethodName := ⟨RX6, "against", "(IIII)I"⟩
abbrev cX6_cut : ByteArray := prog_8_method_64_code
def yX6_cut : MethodName := ⟨RX6, "cut", "(IJ)J"⟩
abbrev cX6_passed : ByteArray := prog_8_method_65_code
def yX6_passed : MethodName := ⟨RX6, "passed", "(IIIII)I"⟩
abbrev cX6_film : ByteArray := prog_8_method_66_code
def yX6_film : MethodName := ⟨RX6, "film", "(IIIII)I"⟩
abbrev cX6_sheet : ByteArray := prog_8_method_67_code
def yX6_sheet : MethodName := ⟨RX6, "sheet", "(III)I"⟩
abbrev cX6_drop : ByteArray := prog_8_method_68_code
def yX6_drop : MethodName := ⟨RX6, "drop", "(I)I"⟩
abbrev cX6_item : ByteArray := prog_8_method_69_code
def yX6_item : MethodName := ⟨RX6, "item", "(IIIJ)I"⟩
abbrev cX6_copy : ByteArray := prog_8_method_70_code
def yX6_copy : MethodName := ⟨RX6, "copy", "(IIIII)I"⟩
def RJ6 : String := "java/lang/Integer"
def TJ6 : u_T := fun k => match k with
  | _ => ("", "", "", false)
def tyJ6 : Nat → FieldType := fun k => match k with
  | _ => .int
abbrev wsJ60 : List Cond := u_ws RJ6 TJ6 0
theorem nmJ6 : ∀ a, a < 0 → ∀ b, b < 0 → a ≠ b → (TJ6 a).2.1 ≠ (TJ6 b).2.1 := by decide +kernel
theorem tyJ6_ok : ∀ k, k < 0 → parseFieldDescriptor (TJ6 k).2.2.1 = some (tyJ6 k) := by decide +kernel
abbrev cJ6_bitCount_0f7a4 : ByteArray := prog_9_method_49_code
def yJ6_bitCount_0f7a4 : MethodName := ⟨RJ6, "bitCount", "(I)I"⟩
def RJ9 : String := "java/lang/Math"
def TJ9 : u_T := fun k => match k with
  | _ => ("", "", "", false)
def tyJ9 : Nat → FieldType := fun k => match k with
  | _ => .int
abbrev wsJ90 : List Cond := u_ws RJ9 TJ9 0
theorem nmJ9 : ∀ a, a < 0 → ∀ b, b < 0 → a ≠ b → (TJ9 a).2.1 ≠ (TJ9 b).2.1 := by decide +kernel
theorem tyJ9_ok : ∀ k, k < 0 → parseFieldDescriptor (TJ9 k).2.2.1 = some (tyJ9 k) := by decide +kernel
abbrev cJ9_max_7cf53 : ByteArray := prog_10_method_65_code
def yJ9_max_7cf53 : MethodName := ⟨RJ9, "max", "(II)I"⟩
abbrev cJ9_min_7cf53 : ByteArray := prog_10_method_69_code
def yJ9_min_7cf53 : MethodName := ⟨RJ9, "min", "(II)I"⟩
def RJ10 : String := "java/lang/System"
def TJ10 : u_T := fun k => match k with
  | _ => ("", "", "", false)
def tyJ10 : Nat → FieldType := fun k => match k with
  | _ => .int
abbrev wsJ100 : List Cond := u_ws RJ10 TJ10 0
theorem nmJ10 : ∀ a, a < 0 → ∀ b, b < 0 → a ≠ b → (TJ10 a).2.1 ≠ (TJ10 b).2.1 := by decide +kernel
theorem tyJ10_ok : ∀ k, k < 0 → parseFieldDescriptor (TJ10 k).2.2.1 = some (tyJ10 k) := by decide +kernel
def RL : String := "BorderForgeLaw"
abbrev cL_law : ByteArray := code
def yL_law : MethodName := ⟨RL, "law", "([I)Z"⟩
abbrev vwCl : List vw_C := [(RX0, TX0, 2), (RX1, TX1, 3), (RX2, TX2, 3), (RX3, TX3, 12), (RX4, TX4, 4), (RX5, TX5, 10), (RX6, TX6, 13)]
end
section
theorem dX0_init_0 : decode cX0_init 0 = .ok (.aload_n 0, 1) := by decide +kernel
theorem dX0_init_1 : decode cX0_init 1 = .ok (.invokespecial 3, 3) := by decide +kernel
theorem dX0_init_4 : decode cX0_init 4 = .ok (.aload_n 0, 1) := by decide +kernel
theorem dX0_init_5 : decode cX0_init 5 = .ok (.new 9, 3) := by decide +kernel
theorem dX0_init_8 : decode cX0_init 8 = .ok (.dup, 1) := by decide +kernel
theorem dX0_init_9 : decode cX0_init 9 = .ok (.invokespecial 11, 3) := by decide +kernel
theorem dX0_init_12 : decode cX0_init 12 = .ok (.putfield 12, 3) := by decide +kernel
theorem dX0_init_15 : decode cX0_init 15 = .ok (.aload_n 0, 1) := by decide +kernel
theorem dX0_init_16 : decode cX0_init 16 = .ok (.bipush 36, 2) := by decide +kernel
theorem dX0_init_18 : decode cX0_init 18 = .ok (.newarray .int, 2) := by decide +kernel
theorem dX0_init_20 : decode cX0_init 20 = .ok (.putfield 18, 3) := by decide +kernel
theorem dX0_init_23 : decode cX0_init 23 = .ok (.return_, 1) := by decide +kernel
theorem dX0_begin_0 : decode cX0_begin 0 = .ok (.aload_n 0, 1) := by decide +kernel
theorem dX0_begin_1 : decode cX0_begin 1 = .ok (.getfield 12, 3) := by decide +kernel
theorem dX0_begin_4 : decode cX0_begin 4 = .ok (.aload_n 1, 1) := by decide +kernel
theorem dX0_begin_5 : decode cX0_begin 5 = .ok (.invokevirtual 22, 3) := by decide +kernel
theorem dX0_begin_8 : decode cX0_begin 8 = .ok (.iconst 0, 1) := by decide +kernel
theorem dX0_begin_9 : decode cX0_begin 9 = .ok (.istore_n 2, 1) := by decide +kernel
theorem dX0_begin_10 : decode cX0_begin 10 = .ok (.iload_n 2, 1) := by decide +kernel
theorem dX0_begin_11 : decode cX0_begin 11 = .ok (.aload_n 0, 1) := by decide +kernel
theorem dX0_begin_12 : decode cX0_begin 12 = .ok (.getfield 12, 3) := by decide +kernel
theorem dX0_begin_15 : decode cX0_begin 15 = .ok (.getfield 26, 3) := by decide +kernel
theorem dX0_begin_18 : decode cX0_begin 18 = .ok (.if_icmp .ge 14, 3) := by decide +kernel
theorem dX0_begin_21 : decode cX0_begin 21 = .ok (.aload_n 0, 1) := by decide +kernel
theorem dX0_begin_22 : decode cX0_begin 22 = .ok (.iload_n 2, 1) := by decide +kernel
theorem dX0_begin_23 : decode cX0_begin 23 = .ok (.invokevirtual 30, 3) := by decide +kernel
theorem dX0_begin_26 : decode cX0_begin 26 = .ok (.iinc 2 1, 3) := by decide +kernel
theorem dX0_begin_29 : decode cX0_begin 29 = .ok (.goto (-19), 3) := by decide +kernel
theorem dX0_begin_32 : decode cX0_begin 32 = .ok (.return_, 1) := by decide +kernel
theorem dX0_rideToForge_0 : decode cX0_rideToForge 0 = .ok (.iconst 0, 1) := by decide +kernel
theorem dX0_rideToForge_1 : decode cX0_rideToForge 1 = .ok (.istore_n 3, 1) := by decide +kernel
theorem dX0_rideToForge_2 : decode cX0_rideToForge 2 = .ok (.iload_n 3, 1) := by decide +kernel
theorem dX0_rideToForge_3 : decode cX0_rideToForge 3 = .ok (.bipush 32, 2) := by decide +kernel
theorem dX0_rideToForge_5 : decode cX0_rideToForge 5 = .ok (.if_icmp .ge 93, 3) := by decide +kernel
theorem dX0_rideToForge_8 : decode cX0_rideToForge 8 = .ok (.aload_n 0, 1) := by decide +kernel
theorem dX0_rideToForge_9 : decode cX0_rideToForge 9 = .ok (.getfield 12, 3) := by decide +kernel
theorem dX0_rideToForge_12 : decode cX0_rideToForge 12 = .ok (.iload_n 1, 1) := by decide +kernel
theorem dX0_rideToForge_13 : decode cX0_rideToForge 13 = .ok (.invokevirtual 34, 3) := by decide +kernel
theorem dX0_rideToForge_16 : decode cX0_rideToForge 16 = .ok (.ifCond .ne 82, 3) := by decide +kernel
theorem dX0_rideToForge_19 : decode cX0_rideToForge 19 = .ok (.aload_n 0, 1) := by decide +kernel
theorem dX0_rideToForge_20 : decode cX0_rideToForge 20 = .ok (.getfield 12, 3) := by decide +kernel
theorem dX0_rideToForge_23 : decode cX0_rideToForge 23 = .ok (.invokevirtual 38, 3) := by decide +kernel
theorem dX0_rideToForge_26 : decode cX0_rideToForge 26 = .ok (.istore 4, 2) := by decide +kernel
theorem dX0_rideToForge_28 : decode cX0_rideToForge 28 = .ok (.iload 4, 2) := by decide +kernel
theorem dX0_rideToForge_30 : decode cX0_rideToForge 30 = .ok (.ifCond .ge 6, 3) := by decide +kernel
theorem dX0_rideToForge_33 : decode cX0_rideToForge 33 = .ok (.goto 65, 3) := by decide +kernel
theorem dX0_rideToForge_36 : decode cX0_rideToForge 36 = .ok (.iload 4, 2) := by decide +kernel
theorem dX0_rideToForge_38 : decode cX0_rideToForge 38 = .ok (.iload_n 1, 1) := by decide +kernel
theorem dX0_rideToForge_39 : decode cX0_rideToForge 39 = .ok (.if_icmp .ne 24, 3) := by decide +kernel
theorem dX0_rideToForge_42 : decode cX0_rideToForge 42 = .ok (.iload_n 2, 1) := by decide +kernel
theorem dX0_rideToForge_43 : decode cX0_rideToForge 43 = .ok (.aload_n 0, 1) := by decide +kernel
theorem dX0_rideToForge_44 : decode cX0_rideToForge 44 = .ok (.getfield 12, 3) := by decide +kernel
theorem dX0_rideToForge_47 : decode cX0_rideToForge 47 = .ok (.getfield 42, 3) := by decide +kernel
theorem dX0_rideToForge_50 : decode cX0_rideToForge 50 = .ok (.iload 4, 2) := by decide +kernel
theorem dX0_rideToForge_52 : decode cX0_rideToForge 52 = .ok (.iaload, 1) := by decide +kernel
theorem dX0_rideToForge_53 : decode cX0_rideToForge 53 = .ok (.invokestatic 45, 3) := by decide +kernel
theorem dX0_rideToForge_56 : decode cX0_rideToForge 56 = .ok (.ifCond .eq 7, 3) := by decide +kernel
theorem dX0_rideToForge_59 : decode cX0_rideToForge 59 = .ok (.iconst 1, 1) := by decide +kernel
theorem dX0_rideToForge_60 : decode cX0_rideToForge 60 = .ok (.goto 4, 3) := by decide +kernel
theorem dX0_rideToForge_63 : decode cX0_rideToForge 63 = .ok (.iconst 0, 1) := by decide +kernel
theorem dX0_rideToForge_64 : decode cX0_rideToForge 64 = .ok (.istore 5, 2) := by decide +kernel
theorem dX0_rideToForge_66 : decode cX0_rideToForge 66 = .ok (.aload_n 0, 1) := by decide +kernel
theorem dX0_rideToForge_67 : decode cX0_rideToForge 67 = .ok (.getfield 12, 3) := by decide +kernel
theorem dX0_rideToForge_70 : decode cX0_rideToForge 70 = .ok (.iload 4, 2) := by decide +kernel
theorem dX0_rideToForge_72 : decode cX0_rideToForge 72 = .ok (.iload 5, 2) := by decide +kernel
theorem dX0_rideToForge_74 : decode cX0_rideToForge 74 = .ok (.ifCond .eq 8, 3) := by decide +kernel
theorem dX0_rideToForge_77 : decode cX0_rideToForge 77 = .ok (.bipush 30, 2) := by decide +kernel
theorem dX0_rideToForge_79 : decode cX0_rideToForge 79 = .ok (.goto 4, 3) := by decide +kernel
theorem dX0_rideToForge_82 : decode cX0_rideToForge 82 = .ok (.iconst 0, 1) := by decide +kernel
theorem dX0_rideToForge_83 : decode cX0_rideToForge 83 = .ok (.invokevirtual 49, 3) := by decide +kernel
theorem dX0_rideToForge_86 : decode cX0_rideToForge 86 = .ok (.aload_n 0, 1) := by decide +kernel
theorem dX0_rideToForge_87 : decode cX0_rideToForge 87 = .ok (.iload 4, 2) := by decide +kernel
theorem dX0_rideToForge_89 : decode cX0_rideToForge 89 = .ok (.invokevirtual 30, 3) := by decide +kernel
theorem dX0_rideToForge_92 : decode cX0_rideToForge 92 = .ok (.iinc 3 1, 3) := by decide +kernel
theorem dX0_rideToForge_95 : decode cX0_rideToForge 95 = .ok (.goto (-93), 3) := by decide +kernel
theorem dX0_rideToForge_98 : decode cX0_rideToForge 98 = .ok (.aload_n 0, 1) := by decide +kernel
theorem dX0_rideToForge_99 : decode cX0_rideToForge 99 = .ok (.getfield 12, 3) := by decide +kernel
theorem dX0_rideToForge_102 : decode cX0_rideToForge 102 = .ok (.getfield 53, 3) := by decide +kernel
theorem dX0_rideToForge_105 : decode cX0_rideToForge 105 = .ok (.iload_n 1, 1) := by decide +kernel
theorem dX0_rideToForge_106 : decode cX0_rideToForge 106 = .ok (.iaload, 1) := by decide +kernel
theorem dX0_rideToForge_107 : decode cX0_rideToForge 107 = .ok (.ireturn, 1) := by decide +kernel
theorem dX0_whoIsFirst_0 : decode cX0_whoIsFirst 0 = .ok (.bipush (-4), 2) := by decide +kernel
theorem dX0_whoIsFirst_2 : decode cX0_whoIsFirst 2 = .ok (.istore_n 1, 1) := by decide +kernel
theorem dX0_whoIsFirst_3 : decode cX0_whoIsFirst 3 = .ok (.iconst 0, 1) := by decide +kernel
theorem dX0_whoIsFirst_4 : decode cX0_whoIsFirst 4 = .ok (.istore_n 2, 1) := by decide +kernel
theorem dX0_whoIsFirst_5 : decode cX0_whoIsFirst 5 = .ok (.iconst 0, 1) := by decide +kernel
theorem dX0_whoIsFirst_6 : decode cX0_whoIsFirst 6 = .ok (.istore_n 3, 1) := by decide +kernel
theorem dX0_whoIsFirst_7 : decode cX0_whoIsFirst 7 = .ok (.iload_n 3, 1) := by decide +kernel
theorem dX0_whoIsFirst_8 : decode cX0_whoIsFirst 8 = .ok (.aload_n 0, 1) := by decide +kernel
theorem dX0_whoIsFirst_9 : decode cX0_whoIsFirst 9 = .ok (.getfield 12, 3) := by decide +kernel
theorem dX0_whoIsFirst_12 : decode cX0_whoIsFirst 12 = .ok (.getfield 26, 3) := by decide +kernel
theorem dX0_whoIsFirst_15 : decode cX0_whoIsFirst 15 = .ok (.if_icmp .ge 32, 3) := by decide +kernel
theorem dX0_whoIsFirst_18 : decode cX0_whoIsFirst 18 = .ok (.aload_n 0, 1) := by decide +kernel
theorem dX0_whoIsFirst_19 : decode cX0_whoIsFirst 19 = .ok (.iload_n 3, 1) := by decide +kernel
theorem dX0_whoIsFirst_20 : decode cX0_whoIsFirst 20 = .ok (.iconst 0, 1) := by decide +kernel
theorem dX0_whoIsFirst_21 : decode cX0_whoIsFirst 21 = .ok (.invokevirtual 56, 3) := by decide +kernel
theorem dX0_whoIsFirst_24 : decode cX0_whoIsFirst 24 = .ok (.istore 4, 2) := by decide +kernel
theorem dX0_whoIsFirst_26 : decode cX0_whoIsFirst 26 = .ok (.iload_n 1, 1) := by decide +kernel
theorem dX0_whoIsFirst_27 : decode cX0_whoIsFirst 27 = .ok (.ifCond .lt 9, 3) := by decide +kernel
theorem dX0_whoIsFirst_30 : decode cX0_whoIsFirst 30 = .ok (.iload 4, 2) := by decide +kernel
theorem dX0_whoIsFirst_32 : decode cX0_whoIsFirst 32 = .ok (.iload_n 2, 1) := by decide +kernel
theorem dX0_whoIsFirst_33 : decode cX0_whoIsFirst 33 = .ok (.if_icmp .ge 8, 3) := by decide +kernel
theorem dX0_whoIsFirst_36 : decode cX0_whoIsFirst 36 = .ok (.iload_n 3, 1) := by decide +kernel
theorem dX0_whoIsFirst_37 : decode cX0_whoIsFirst 37 = .ok (.istore_n 1, 1) := by decide +kernel
theorem dX0_whoIsFirst_38 : decode cX0_whoIsFirst 38 = .ok (.iload 4, 2) := by decide +kernel
theorem dX0_whoIsFirst_40 : decode cX0_whoIsFirst 40 = .ok (.istore_n 2, 1) := by decide +kernel
theorem dX0_whoIsFirst_41 : decode cX0_whoIsFirst 41 = .ok (.iinc 3 1, 3) := by decide +kernel
theorem dX0_whoIsFirst_44 : decode cX0_whoIsFirst 44 = .ok (.goto (-37), 3) := by decide +kernel
theorem dX0_whoIsFirst_47 : decode cX0_whoIsFirst 47 = .ok (.iload_n 1, 1) := by decide +kernel
theorem dX0_whoIsFirst_48 : decode cX0_whoIsFirst 48 = .ok (.ireturn, 1) := by decide +kernel
theorem dX0_cameTo_0 : decode cX0_cameTo 0 = .ok (.aload_n 0, 1) := by decide +kernel
theorem dX0_cameTo_1 : decode cX0_cameTo 1 = .ok (.getfield 18, 3) := by decide +kernel
theorem dX0_cameTo_4 : decode cX0_cameTo 4 = .ok (.iload_n 1, 1) := by decide +kernel
theorem dX0_cameTo_5 : decode cX0_cameTo 5 = .ok (.bipush 9, 2) := by decide +kernel
theorem dX0_cameTo_7 : decode cX0_cameTo 7 = .ok (.imul, 1) := by decide +kernel
theorem dX0_cameTo_8 : decode cX0_cameTo 8 = .ok (.iload_n 2, 1) := by decide +kernel
theorem dX0_cameTo_9 : decode cX0_cameTo 9 = .ok (.iadd, 1) := by decide +kernel
theorem dX0_cameTo_10 : decode cX0_cameTo 10 = .ok (.iaload, 1) := by decide +kernel
theorem dX0_cameTo_11 : decode cX0_cameTo 11 = .ok (.ireturn, 1) := by decide +kernel
theorem dX0_noteWhere_0 : decode cX0_noteWhere 0 = .ok (.aload_n 0, 1) := by decide +kernel
theorem dX0_noteWhere_1 : decode cX0_noteWhere 1 = .ok (.getfield 18, 3) := by decide +kernel
theorem dX0_noteWhere_4 : decode cX0_noteWhere 4 = .ok (.iload_n 1, 1) := by decide +kernel
theorem dX0_noteWhere_5 : decode cX0_noteWhere 5 = .ok (.bipush 9, 2) := by decide +kernel
theorem dX0_noteWhere_7 : decode cX0_noteWhere 7 = .ok (.imul, 1) := by decide +kernel
theorem dX0_noteWhere_8 : decode cX0_noteWhere 8 = .ok (.aload_n 0, 1) := by decide +kernel
theorem dX0_noteWhere_9 : decode cX0_noteWhere 9 = .ok (.getfield 12, 3) := by decide +kernel
theorem dX0_noteWhere_12 : decode cX0_noteWhere 12 = .ok (.getfield 42, 3) := by decide +kernel
theorem dX0_noteWhere_15 : decode cX0_noteWhere 15 = .ok (.iload_n 1, 1) := by decide +kernel
theorem dX0_noteWhere_16 : decode cX0_noteWhere 16 = .ok (.iaload, 1) := by decide +kernel
theorem dX0_noteWhere_17 : decode cX0_noteWhere 17 = .ok (.iadd, 1) := by decide +kernel
theorem dX0_noteWhere_18 : decode cX0_noteWhere 18 = .ok (.aload_n 0, 1) := by decide +kernel
theorem dX0_noteWhere_19 : decode cX0_noteWhere 19 = .ok (.getfield 12, 3) := by decide +kernel
theorem dX0_noteWhere_22 : decode cX0_noteWhere 22 = .ok (.getfield 53, 3) := by decide +kernel
theorem dX0_noteWhere_25 : decode cX0_noteWhere 25 = .ok (.iload_n 1, 1) := by decide +kernel
theorem dX0_noteWhere_26 : decode cX0_noteWhere 26 = .ok (.iaload, 1) := by decide +kernel
theorem dX0_noteWhere_27 : decode cX0_noteWhere 27 = .ok (.iastore, 1) := by decide +kernel
theorem dX0_noteWhere_28 : decode cX0_noteWhere 28 = .ok (.return_, 1) := by decide +kernel
theorem dX1_init_0 : decode cX1_init 0 = .ok (.aload_n 0, 1) := by decide +kernel
theorem dX1_init_1 : decode cX1_init 1 = .ok (.invokespecial 3, 3) := by decide +kernel
theorem dX1_init_4 : decode cX1_init 4 = .ok (.aload_n 0, 1) := by decide +kernel
theorem dX1_init_5 : decode cX1_init 5 = .ok (.iconst (-1), 1) := by decide +kernel
theorem dX1_init_6 : decode cX1_init 6 = .ok (.putfield 11, 3) := by decide +kernel
theorem dX1_init_9 : decode cX1_init 9 = .ok (.aload_n 0, 1) := by decide +kernel
theorem dX1_init_10 : decode cX1_init 10 = .ok (.iconst 0, 1) := by decide +kernel
theorem dX1_init_11 : decode cX1_init 11 = .ok (.putfield 15, 3) := by decide +kernel
theorem dX1_init_14 : decode cX1_init 14 = .ok (.aload_n 0, 1) := by decide +kernel
theorem dX1_init_15 : decode cX1_init 15 = .ok (.bipush 24, 2) := by decide +kernel
theorem dX1_init_17 : decode cX1_init 17 = .ok (.newarray .long, 2) := by decide +kernel
theorem dX1_init_19 : decode cX1_init 19 = .ok (.putfield 18, 3) := by decide +kernel
theorem dX1_init_22 : decode cX1_init 22 = .ok (.return_, 1) := by decide +kernel
theorem dX1_isMissing_0 : decode cX1_isMissing 0 = .ok (.aload_n 0, 1) := by decide +kernel
theorem dX1_isMissing_1 : decode cX1_isMissing 1 = .ok (.getfield 11, 3) := by decide +kernel
theorem dX1_isMissing_4 : decode cX1_isMissing 4 = .ok (.iconst (-1), 1) := by decide +kernel
theorem dX1_isMissing_5 : decode cX1_isMissing 5 = .ok (.if_icmp .ne 7, 3) := by decide +kernel
theorem dX1_isMissing_8 : decode cX1_isMissing 8 = .ok (.iconst 1, 1) := by decide +kernel
theorem dX1_isMissing_9 : decode cX1_isMissing 9 = .ok (.goto 4, 3) := by decide +kernel
theorem dX1_isMissing_12 : decode cX1_isMissing 12 = .ok (.iconst 0, 1) := by decide +kernel
theorem dX1_isMissing_13 : decode cX1_isMissing 13 = .ok (.ireturn, 1) := by decide +kernel
theorem dX1_lay_0 : decode cX1_lay 0 = .ok (.aload_n 0, 1) := by decide +kernel
theorem dX1_lay_1 : decode cX1_lay 1 = .ok (.iload_n 1, 1) := by decide +kernel
theorem dX1_lay_2 : decode cX1_lay 2 = .ok (.putfield 11, 3) := by decide +kernel
theorem dX1_lay_5 : decode cX1_lay 5 = .ok (.aload_n 0, 1) := by decide +kernel
theorem dX1_lay_6 : decode cX1_lay 6 = .ok (.iload_n 2, 1) := by decide +kernel
theorem dX1_lay_7 : decode cX1_lay 7 = .ok (.putfield 15, 3) := by decide +kernel
theorem dX1_lay_10 : decode cX1_lay 10 = .ok (.iconst 0, 1) := by decide +kernel
theorem dX1_lay_11 : decode cX1_lay 11 = .ok (.istore_n 3, 1) := by decide +kernel
theorem dX1_lay_12 : decode cX1_lay 12 = .ok (.iload_n 3, 1) := by decide +kernel
theorem dX1_lay_13 : decode cX1_lay 13 = .ok (.bipush 24, 2) := by decide +kernel
theorem dX1_lay_15 : decode cX1_lay 15 = .ok (.if_icmp .ge 16, 3) := by decide +kernel
theorem dX1_lay_18 : decode cX1_lay 18 = .ok (.aload_n 0, 1) := by decide +kernel
theorem dX1_lay_19 : decode cX1_lay 19 = .ok (.getfield 18, 3) := by decide +kernel
theorem dX1_lay_22 : decode cX1_lay 22 = .ok (.iload_n 3, 1) := by decide +kernel
theorem dX1_lay_23 : decode cX1_lay 23 = .ok (.lconst 0, 1) := by decide +kernel
theorem dX1_lay_24 : decode cX1_lay 24 = .ok (.lastore, 1) := by decide +kernel
theorem dX1_lay_25 : decode cX1_lay 25 = .ok (.iinc 3 1, 3) := by decide +kernel
theorem dX1_lay_28 : decode cX1_lay 28 = .ok (.goto (-16), 3) := by decide +kernel
theorem dX1_lay_31 : decode cX1_lay 31 = .ok (.return_, 1) := by decide +kernel
theorem dX1_clear_0 : decode cX1_clear 0 = .ok (.aload_n 0, 1) := by decide +kernel
theorem dX1_clear_1 : decode cX1_clear 1 = .ok (.iconst (-1), 1) := by decide +kernel
theorem dX1_clear_2 : decode cX1_clear 2 = .ok (.putfield 11, 3) := by decide +kernel
theorem dX1_clear_5 : decode cX1_clear 5 = .ok (.aload_n 0, 1) := by decide +kernel
theorem dX1_clear_6 : decode cX1_clear 6 = .ok (.getfield 15, 3) := by decide +kernel
theorem dX1_clear_9 : decode cX1_clear 9 = .ok (.ireturn, 1) := by decide +kernel
theorem dX1_holds_0 : decode cX1_holds 0 = .ok (.iload_n 1, 1) := by decide +kernel
theorem dX1_holds_1 : decode cX1_holds 1 = .ok (.ifCond .lt 21, 3) := by decide +kernel
theorem dX1_holds_4 : decode cX1_holds 4 = .ok (.iload_n 2, 1) := by decide +kernel
theorem dX1_holds_5 : decode cX1_holds 5 = .ok (.ifCond .lt 17, 3) := by decide +kernel
theorem dX1_holds_8 : decode cX1_holds 8 = .ok (.iload_n 2, 1) := by decide +kernel
theorem dX1_holds_9 : decode cX1_holds 9 = .ok (.aload_n 0, 1) := by decide +kernel
theorem dX1_holds_10 : decode cX1_holds 10 = .ok (.getfield 15, 3) := by decide +kernel
theorem dX1_holds_13 : decode cX1_holds 13 = .ok (.iload_n 1, 1) := by decide +kernel
theorem dX1_holds_14 : decode cX1_holds 14 = .ok (.isub, 1) := by decide +kernel
theorem dX1_holds_15 : decode cX1_holds 15 = .ok (.if_icmp .gt 7, 3) := by decide +kernel
theorem dX1_holds_18 : decode cX1_holds 18 = .ok (.iconst 1, 1) := by decide +kernel
theorem dX1_holds_19 : decode cX1_holds 19 = .ok (.goto 4, 3) := by decide +kernel
theorem dX1_holds_22 : decode cX1_holds 22 = .ok (.iconst 0, 1) := by decide +kernel
theorem dX1_holds_23 : decode cX1_holds 23 = .ok (.ireturn, 1) := by decide +kernel
theorem dX1_faultOf_0 : decode cX1_faultOf 0 = .ok (.aload_n 0, 1) := by decide +kernel
theorem dX1_faultOf_1 : decode cX1_faultOf 1 = .ok (.invokevirtual 22, 3) := by decide +kernel
theorem dX1_faultOf_4 : decode cX1_faultOf 4 = .ok (.ifCond .eq 6, 3) := by decide +kernel
theorem dX1_faultOf_7 : decode cX1_faultOf 7 = .ok (.bipush (-11), 2) := by decide +kernel
theorem dX1_faultOf_9 : decode cX1_faultOf 9 = .ok (.ireturn, 1) := by decide +kernel
theorem dX1_faultOf_10 : decode cX1_faultOf 10 = .ok (.aload_n 0, 1) := by decide +kernel
theorem dX1_faultOf_11 : decode cX1_faultOf 11 = .ok (.getfield 11, 3) := by decide +kernel
theorem dX1_faultOf_14 : decode cX1_faultOf 14 = .ok (.iload_n 1, 1) := by decide +kernel
theorem dX1_faultOf_15 : decode cX1_faultOf 15 = .ok (.if_icmp .eq 6, 3) := by decide +kernel
theorem dX1_faultOf_18 : decode cX1_faultOf 18 = .ok (.bipush (-12), 2) := by decide +kernel
theorem dX1_faultOf_20 : decode cX1_faultOf 20 = .ok (.ireturn, 1) := by decide +kernel
theorem dX1_faultOf_21 : decode cX1_faultOf 21 = .ok (.aload_n 0, 1) := by decide +kernel
theorem dX1_faultOf_22 : decode cX1_faultOf 22 = .ok (.iload_n 2, 1) := by decide +kernel
theorem dX1_faultOf_23 : decode cX1_faultOf 23 = .ok (.iload_n 3, 1) := by decide +kernel
theorem dX1_faultOf_24 : decode cX1_faultOf 24 = .ok (.invokevirtual 26, 3) := by decide +kernel
theorem dX1_faultOf_27 : decode cX1_faultOf 27 = .ok (.ifCond .eq 7, 3) := by decide +kernel
theorem dX1_faultOf_30 : decode cX1_faultOf 30 = .ok (.iconst 0, 1) := by decide +kernel
theorem dX1_faultOf_31 : decode cX1_faultOf 31 = .ok (.goto 5, 3) := by decide +kernel
theorem dX1_faultOf_34 : decode cX1_faultOf 34 = .ok (.bipush (-13), 2) := by decide +kernel
theorem dX1_faultOf_36 : decode cX1_faultOf 36 = .ok (.ireturn, 1) := by decide +kernel
theorem dX1_put_0 : decode cX1_put 0 = .ok (.aload_n 0, 1) := by decide +kernel
theorem dX1_put_1 : decode cX1_put 1 = .ok (.getfield 11, 3) := by decide +kernel
theorem dX1_put_4 : decode cX1_put 4 = .ok (.tableswitch 66 0 2 #[28, 41, 54], 28) := by decide +kernel
theorem dX1_put_32 : decode cX1_put 32 = .ok (.aload_n 0, 1) := by decide +kernel
theorem dX1_put_33 : decode cX1_put 33 = .ok (.getfield 18, 3) := by decide +kernel
theorem dX1_put_36 : decode cX1_put 36 = .ok (.iload_n 1, 1) := by decide +kernel
theorem dX1_put_37 : decode cX1_put 37 = .ok (.lload_n 2, 1) := by decide +kernel
theorem dX1_put_38 : decode cX1_put 38 = .ok (.l2i, 1) := by decide +kernel
theorem dX1_put_39 : decode cX1_put 39 = .ok (.i2b, 1) := by decide +kernel
theorem dX1_put_40 : decode cX1_put 40 = .ok (.i2l, 1) := by decide +kernel
theorem dX1_put_41 : decode cX1_put 41 = .ok (.lastore, 1) := by decide +kernel
theorem dX1_put_42 : decode cX1_put 42 = .ok (.goto 35, 3) := by decide +kernel
theorem dX1_put_45 : decode cX1_put 45 = .ok (.aload_n 0, 1) := by decide +kernel
theorem dX1_put_46 : decode cX1_put 46 = .ok (.getfield 18, 3) := by decide +kernel
theorem dX1_put_49 : decode cX1_put 49 = .ok (.iload_n 1, 1) := by decide +kernel
theorem dX1_put_50 : decode cX1_put 50 = .ok (.lload_n 2, 1) := by decide +kernel
theorem dX1_put_51 : decode cX1_put 51 = .ok (.l2i, 1) := by decide +kernel
theorem dX1_put_52 : decode cX1_put 52 = .ok (.i2s, 1) := by decide +kernel
theorem dX1_put_53 : decode cX1_put 53 = .ok (.i2l, 1) := by decide +kernel
theorem dX1_put_54 : decode cX1_put 54 = .ok (.lastore, 1) := by decide +kernel
theorem dX1_put_55 : decode cX1_put 55 = .ok (.goto 22, 3) := by decide +kernel
theorem dX1_put_58 : decode cX1_put 58 = .ok (.aload_n 0, 1) := by decide +kernel
theorem dX1_put_59 : decode cX1_put 59 = .ok (.getfield 18, 3) := by decide +kernel
theorem dX1_put_62 : decode cX1_put 62 = .ok (.iload_n 1, 1) := by decide +kernel
theorem dX1_put_63 : decode cX1_put 63 = .ok (.lload_n 2, 1) := by decide +kernel
theorem dX1_put_64 : decode cX1_put 64 = .ok (.l2i, 1) := by decide +kernel
theorem dX1_put_65 : decode cX1_put 65 = .ok (.i2l, 1) := by decide +kernel
theorem dX1_put_66 : decode cX1_put 66 = .ok (.lastore, 1) := by decide +kernel
theorem dX1_put_67 : decode cX1_put 67 = .ok (.goto 10, 3) := by decide +kernel
theorem dX1_put_70 : decode cX1_put 70 = .ok (.aload_n 0, 1) := by decide +kernel
theorem dX1_put_71 : decode cX1_put 71 = .ok (.getfield 18, 3) := by decide +kernel
theorem dX1_put_74 : decode cX1_put 74 = .ok (.iload_n 1, 1) := by decide +kernel
theorem dX1_put_75 : decode cX1_put 75 = .ok (.lload_n 2, 1) := by decide +kernel
theorem dX1_put_76 : decode cX1_put 76 = .ok (.lastore, 1) := by decide +kernel
theorem dX1_put_77 : decode cX1_put 77 = .ok (.return_, 1) := by decide +kernel
theorem dX2_init_0 : decode cX2_init 0 = .ok (.aload_n 0, 1) := by decide +kernel
theorem dX2_init_1 : decode cX2_init 1 = .ok (.invokespecial 1, 3) := by decide +kernel
theorem dX2_init_4 : decode cX2_init 4 = .ok (.aload_n 0, 1) := by decide +kernel
theorem dX2_init_5 : decode cX2_init 5 = .ok (.iconst 0, 1) := by decide +kernel
theorem dX2_init_6 : decode cX2_init 6 = .ok (.putfield 7, 3) := by decide +kernel
theorem dX2_init_9 : decode cX2_init 9 = .ok (.aload_n 0, 1) := by decide +kernel
theorem dX2_init_10 : decode cX2_init 10 = .ok (.iconst 0, 1) := by decide +kernel
theorem dX2_init_11 : decode cX2_init 11 = .ok (.putfield 13, 3) := by decide +kernel
theorem dX2_init_14 : decode cX2_init 14 = .ok (.aload_n 0, 1) := by decide +kernel
theorem dX2_init_15 : decode cX2_init 15 = .ok (.sipush 168, 3) := by decide +kernel
theorem dX2_init_18 : decode cX2_init 18 = .ok (.newarray .int, 2) := by decide +kernel
theorem dX2_init_20 : decode cX2_init 20 = .ok (.putfield 18, 3) := by decide +kernel
theorem dX2_init_23 : decode cX2_init 23 = .ok (.return_, 1) := by decide +kernel
theorem dX2_forget_0 : decode cX2_forget 0 = .ok (.aload_n 0, 1) := by decide +kernel
theorem dX2_forget_1 : decode cX2_forget 1 = .ok (.iconst 0, 1) := by decide +kernel
theorem dX2_forget_2 : decode cX2_forget 2 = .ok (.putfield 7, 3) := by decide +kernel
theorem dX2_forget_5 : decode cX2_forget 5 = .ok (.return_, 1) := by decide +kernel
theorem dX2_mark_0 : decode cX2_mark 0 = .ok (.aload_n 1, 1) := by decide +kernel
theorem dX2_mark_1 : decode cX2_mark 1 = .ok (.aload_n 0, 1) := by decide +kernel
theorem dX2_mark_2 : decode cX2_mark 2 = .ok (.getfield 18, 3) := by decide +kernel
theorem dX2_mark_5 : decode cX2_mark 5 = .ok (.aload_n 0, 1) := by decide +kernel
theorem dX2_mark_6 : decode cX2_mark 6 = .ok (.getfield 13, 3) := by decide +kernel
theorem dX2_mark_9 : decode cX2_mark 9 = .ok (.bipush 21, 2) := by decide +kernel
theorem dX2_mark_11 : decode cX2_mark 11 = .ok (.imul, 1) := by decide +kernel
theorem dX2_mark_12 : decode cX2_mark 12 = .ok (.invokevirtual 22, 3) := by decide +kernel
theorem dX2_mark_15 : decode cX2_mark 15 = .ok (.aload_n 0, 1) := by decide +kernel
theorem dX2_mark_16 : decode cX2_mark 16 = .ok (.aload_n 0, 1) := by decide +kernel
theorem dX2_mark_17 : decode cX2_mark 17 = .ok (.getfield 13, 3) := by decide +kernel
theorem dX2_mark_20 : decode cX2_mark 20 = .ok (.iconst 1, 1) := by decide +kernel
theorem dX2_mark_21 : decode cX2_mark 21 = .ok (.iadd, 1) := by decide +kernel
theorem dX2_mark_22 : decode cX2_mark 22 = .ok (.bipush 8, 2) := by decide +kernel
theorem dX2_mark_24 : decode cX2_mark 24 = .ok (.irem, 1) := by decide +kernel
theorem dX2_mark_25 : decode cX2_mark 25 = .ok (.putfield 13, 3) := by decide +kernel
theorem dX2_mark_28 : decode cX2_mark 28 = .ok (.aload_n 0, 1) := by decide +kernel
theorem dX2_mark_29 : decode cX2_mark 29 = .ok (.bipush 8, 2) := by decide +kernel
theorem dX2_mark_31 : decode cX2_mark 31 = .ok (.aload_n 0, 1) := by decide +kernel
theorem dX2_mark_32 : decode cX2_mark 32 = .ok (.getfield 7, 3) := by decide +kernel
theorem dX2_mark_35 : decode cX2_mark 35 = .ok (.iconst 1, 1) := by decide +kernel
theorem dX2_mark_36 : decode cX2_mark 36 = .ok (.iadd, 1) := by decide +kernel
theorem dX2_mark_37 : decode cX2_mark 37 = .ok (.invokestatic 26, 3) := by decide +kernel
theorem dX2_mark_40 : decode cX2_mark 40 = .ok (.putfield 7, 3) := by decide +kernel
theorem dX2_mark_43 : decode cX2_mark 43 = .ok (.return_, 1) := by decide +kernel
theorem dX2_goBack_0 : decode cX2_goBack 0 = .ok (.aload_n 0, 1) := by decide +kernel
theorem dX2_goBack_1 : decode cX2_goBack 1 = .ok (.aload_n 0, 1) := by decide +kernel
theorem dX2_goBack_2 : decode cX2_goBack 2 = .ok (.getfield 13, 3) := by decide +kernel
theorem dX2_goBack_5 : decode cX2_goBack 5 = .ok (.bipush 8, 2) := by decide +kernel
theorem dX2_goBack_7 : decode cX2_goBack 7 = .ok (.iadd, 1) := by decide +kernel
theorem dX2_goBack_8 : decode cX2_goBack 8 = .ok (.iconst 1, 1) := by decide +kernel
theorem dX2_goBack_9 : decode cX2_goBack 9 = .ok (.isub, 1) := by decide +kernel
theorem dX2_goBack_10 : decode cX2_goBack 10 = .ok (.bipush 8, 2) := by decide +kernel
theorem dX2_goBack_12 : decode cX2_goBack 12 = .ok (.irem, 1) := by decide +kernel
theorem dX2_goBack_13 : decode cX2_goBack 13 = .ok (.putfield 13, 3) := by decide +kernel
theorem dX2_goBack_16 : decode cX2_goBack 16 = .ok (.aload_n 0, 1) := by decide +kernel
theorem dX2_goBack_17 : decode cX2_goBack 17 = .ok (.dup, 1) := by decide +kernel
theorem dX2_goBack_18 : decode cX2_goBack 18 = .ok (.getfield 7, 3) := by decide +kernel
theorem dX2_goBack_21 : decode cX2_goBack 21 = .ok (.iconst 1, 1) := by decide +kernel
theorem dX2_goBack_22 : decode cX2_goBack 22 = .ok (.isub, 1) := by decide +kernel
theorem dX2_goBack_23 : decode cX2_goBack 23 = .ok (.putfield 7, 3) := by decide +kernel
theorem dX2_goBack_26 : decode cX2_goBack 26 = .ok (.aload_n 1, 1) := by decide +kernel
theorem dX2_goBack_27 : decode cX2_goBack 27 = .ok (.aload_n 0, 1) := by decide +kernel
theorem dX2_goBack_28 : decode cX2_goBack 28 = .ok (.getfield 18, 3) := by decide +kernel
theorem dX2_goBack_31 : decode cX2_goBack 31 = .ok (.aload_n 0, 1) := by decide +kernel
theorem dX2_goBack_32 : decode cX2_goBack 32 = .ok (.getfield 13, 3) := by decide +kernel
theorem dX2_goBack_35 : decode cX2_goBack 35 = .ok (.bipush 21, 2) := by decide +kernel
theorem dX2_goBack_37 : decode cX2_goBack 37 = .ok (.imul, 1) := by decide +kernel
theorem dX2_goBack_38 : decode cX2_goBack 38 = .ok (.invokevirtual 32, 3) := by decide +kernel
theorem dX2_goBack_41 : decode cX2_goBack 41 = .ok (.return_, 1) := by decide +kernel
theorem dX2_takeAll_0 : decode cX2_takeAll 0 = .ok (.aload_n 0, 1) := by decide +kernel
theorem dX2_takeAll_1 : decode cX2_takeAll 1 = .ok (.aload_n 1, 1) := by decide +kernel
theorem dX2_takeAll_2 : decode cX2_takeAll 2 = .ok (.getfield 7, 3) := by decide +kernel
theorem dX2_takeAll_5 : decode cX2_takeAll 5 = .ok (.putfield 7, 3) := by decide +kernel
theorem dX2_takeAll_8 : decode cX2_takeAll 8 = .ok (.aload_n 0, 1) := by decide +kernel
theorem dX2_takeAll_9 : decode cX2_takeAll 9 = .ok (.aload_n 1, 1) := by decide +kernel
theorem dX2_takeAll_10 : decode cX2_takeAll 10 = .ok (.getfield 13, 3) := by decide +kernel
theorem dX2_takeAll_13 : decode cX2_takeAll 13 = .ok (.putfield 13, 3) := by decide +kernel
theorem dX2_takeAll_16 : decode cX2_takeAll 16 = .ok (.aload_n 1, 1) := by decide +kernel
theorem dX2_takeAll_17 : decode cX2_takeAll 17 = .ok (.getfield 18, 3) := by decide +kernel
theorem dX2_takeAll_20 : decode cX2_takeAll 20 = .ok (.iconst 0, 1) := by decide +kernel
theorem dX2_takeAll_21 : decode cX2_takeAll 21 = .ok (.aload_n 0, 1) := by decide +kernel
theorem dX2_takeAll_22 : decode cX2_takeAll 22 = .ok (.getfield 18, 3) := by decide +kernel
theorem dX2_takeAll_25 : decode cX2_takeAll 25 = .ok (.iconst 0, 1) := by decide +kernel
theorem dX2_takeAll_26 : decode cX2_takeAll 26 = .ok (.aload_n 0, 1) := by decide +kernel
theorem dX2_takeAll_27 : decode cX2_takeAll 27 = .ok (.getfield 18, 3) := by decide +kernel
theorem dX2_takeAll_30 : decode cX2_takeAll 30 = .ok (.arraylength, 1) := by decide +kernel
theorem dX2_takeAll_31 : decode cX2_takeAll 31 = .ok (.invokestatic 35, 3) := by decide +kernel
theorem dX2_takeAll_34 : decode cX2_takeAll 34 = .ok (.return_, 1) := by decide +kernel
theorem dX3_init_0 : decode cX3_init 0 = .ok (.aload_n 0, 1) := by decide +kernel
theorem dX3_init_1 : decode cX3_init 1 = .ok (.invokespecial 3, 3) := by decide +kernel
theorem dX3_init_4 : decode cX3_init 4 = .ok (.aload_n 0, 1) := by decide +kernel
theorem dX3_init_5 : decode cX3_init 5 = .ok (.iconst 0, 1) := by decide +kernel
theorem dX3_init_6 : decode cX3_init 6 = .ok (.putfield 9, 3) := by decide +kernel
theorem dX3_init_9 : decode cX3_init 9 = .ok (.aload_n 0, 1) := by decide +kernel
theorem dX3_init_10 : decode cX3_init 10 = .ok (.iconst 0, 1) := by decide +kernel
theorem dX3_init_11 : decode cX3_init 11 = .ok (.putfield 15, 3) := by decide +kernel
theorem dX3_init_14 : decode cX3_init 14 = .ok (.aload_n 0, 1) := by decide +kernel
theorem dX3_init_15 : decode cX3_init 15 = .ok (.iconst 3, 1) := by decide +kernel
theorem dX3_init_16 : decode cX3_init 16 = .ok (.putfield 18, 3) := by decide +kernel
theorem dX3_init_19 : decode cX3_init 19 = .ok (.aload_n 0, 1) := by decide +kernel
theorem dX3_init_20 : decode cX3_init 20 = .ok (.iconst 1, 1) := by decide +kernel
theorem dX3_init_21 : decode cX3_init 21 = .ok (.putfield 21, 3) := by decide +kernel
theorem dX3_init_24 : decode cX3_init 24 = .ok (.aload_n 0, 1) := by decide +kernel
theorem dX3_init_25 : decode cX3_init 25 = .ok (.bipush 8, 2) := by decide +kernel
theorem dX3_init_27 : decode cX3_init 27 = .ok (.newarray .int, 2) := by decide +kernel
theorem dX3_init_29 : decode cX3_init 29 = .ok (.putfield 24, 3) := by decide +kernel
theorem dX3_init_32 : decode cX3_init 32 = .ok (.aload_n 0, 1) := by decide +kernel
theorem dX3_init_33 : decode cX3_init 33 = .ok (.bipush 8, 2) := by decide +kernel
theorem dX3_init_35 : decode cX3_init 35 = .ok (.newarray .int, 2) := by decide +kernel
theorem dX3_init_37 : decode cX3_init 37 = .ok (.putfield 28, 3) := by decide +kernel
theorem dX3_init_40 : decode cX3_init 40 = .ok (.aload_n 0, 1) := by decide +kernel
theorem dX3_init_41 : decode cX3_init 41 = .ok (.bipush 8, 2) := by decide +kernel
theorem dX3_init_43 : decode cX3_init 43 = .ok (.newarray .int, 2) := by decide +kernel
theorem dX3_init_45 : decode cX3_init 45 = .ok (.putfield 31, 3) := by decide +kernel
theorem dX3_init_48 : decode cX3_init 48 = .ok (.aload_n 0, 1) := by decide +kernel
theorem dX3_init_49 : decode cX3_init 49 = .ok (.iconst 4, 1) := by decide +kernel
theorem dX3_init_50 : decode cX3_init 50 = .ok (.newarray .int, 2) := by decide +kernel
theorem dX3_init_52 : decode cX3_init 52 = .ok (.putfield 34, 3) := by decide +kernel
theorem dX3_init_55 : decode cX3_init 55 = .ok (.aload_n 0, 1) := by decide +kernel
theorem dX3_init_56 : decode cX3_init 56 = .ok (.iconst 4, 1) := by decide +kernel
theorem dX3_init_57 : decode cX3_init 57 = .ok (.newarray .int, 2) := by decide +kernel
theorem dX3_init_59 : decode cX3_init 59 = .ok (.putfield 37, 3) := by decide +kernel
theorem dX3_init_62 : decode cX3_init 62 = .ok (.aload_n 0, 1) := by decide +kernel
theorem dX3_init_63 : decode cX3_init 63 = .ok (.iconst 4, 1) := by decide +kernel
theorem dX3_init_64 : decode cX3_init 64 = .ok (.newarray .int, 2) := by decide +kernel
theorem dX3_init_66 : decode cX3_init 66 = .ok (.putfield 40, 3) := by decide +kernel
theorem dX3_init_69 : decode cX3_init 69 = .ok (.aload_n 0, 1) := by decide +kernel
theorem dX3_init_70 : decode cX3_init 70 = .ok (.iconst 4, 1) := by decide +kernel
theorem dX3_init_71 : decode cX3_init 71 = .ok (.newarray .int, 2) := by decide +kernel
theorem dX3_init_73 : decode cX3_init 73 = .ok (.putfield 43, 3) := by decide +kernel
theorem dX3_init_76 : decode cX3_init 76 = .ok (.aload_n 0, 1) := by decide +kernel
theorem dX3_init_77 : decode cX3_init 77 = .ok (.iconst 4, 1) := by decide +kernel
theorem dX3_init_78 : decode cX3_init 78 = .ok (.newarray .int, 2) := by decide +kernel
theorem dX3_init_80 : decode cX3_init 80 = .ok (.putfield 46, 3) := by decide +kernel
theorem dX3_init_83 : decode cX3_init 83 = .ok (.return_, 1) := by decide +kernel
theorem dX3_takeAll_0 : decode cX3_takeAll 0 = .ok (.aload_n 0, 1) := by decide +kernel
theorem dX3_takeAll_1 : decode cX3_takeAll 1 = .ok (.aload_n 1, 1) := by decide +kernel
theorem dX3_takeAll_2 : decode cX3_takeAll 2 = .ok (.invokevirtual 49, 3) := by decide +kernel
theorem dX3_takeAll_5 : decode cX3_takeAll 5 = .ok (.aload_n 0, 1) := by decide +kernel
theorem dX3_takeAll_6 : decode cX3_takeAll 6 = .ok (.aload_n 1, 1) := by decide +kernel
theorem dX3_takeAll_7 : decode cX3_takeAll 7 = .ok (.getfield 18, 3) := by decide +kernel
theorem dX3_takeAll_10 : decode cX3_takeAll 10 = .ok (.putfield 18, 3) := by decide +kernel
theorem dX3_takeAll_13 : decode cX3_takeAll 13 = .ok (.aload_n 0, 1) := by decide +kernel
theorem dX3_takeAll_14 : decode cX3_takeAll 14 = .ok (.aload_n 1, 1) := by decide +kernel
theorem dX3_takeAll_15 : decode cX3_takeAll 15 = .ok (.getfield 21, 3) := by decide +kernel
theorem dX3_takeAll_18 : decode cX3_takeAll 18 = .ok (.putfield 21, 3) := by decide +kernel
theorem dX3_takeAll_21 : decode cX3_takeAll 21 = .ok (.return_, 1) := by decide +kernel
theorem dX3_takeRoad_0 : decode cX3_takeRoad 0 = .ok (.aload_n 0, 1) := by decide +kernel
theorem dX3_takeRoad_1 : decode cX3_takeRoad 1 = .ok (.aload_n 1, 1) := by decide +kernel
theorem dX3_takeRoad_2 : decode cX3_takeRoad 2 = .ok (.getfield 9, 3) := by decide +kernel
theorem dX3_takeRoad_5 : decode cX3_takeRoad 5 = .ok (.putfield 9, 3) := by decide +kernel
theorem dX3_takeRoad_8 : decode cX3_takeRoad 8 = .ok (.aload_n 0, 1) := by decide +kernel
theorem dX3_takeRoad_9 : decode cX3_takeRoad 9 = .ok (.aload_n 1, 1) := by decide +kernel
theorem dX3_takeRoad_10 : decode cX3_takeRoad 10 = .ok (.getfield 15, 3) := by decide +kernel
theorem dX3_takeRoad_13 : decode cX3_takeRoad 13 = .ok (.putfield 15, 3) := by decide +kernel
theorem dX3_takeRoad_16 : decode cX3_takeRoad 16 = .ok (.aload_n 1, 1) := by decide +kernel
theorem dX3_takeRoad_17 : decode cX3_takeRoad 17 = .ok (.getfield 24, 3) := by decide +kernel
theorem dX3_takeRoad_20 : decode cX3_takeRoad 20 = .ok (.iconst 0, 1) := by decide +kernel
theorem dX3_takeRoad_21 : decode cX3_takeRoad 21 = .ok (.aload_n 0, 1) := by decide +kernel
theorem dX3_takeRoad_22 : decode cX3_takeRoad 22 = .ok (.getfield 24, 3) := by decide +kernel
theorem dX3_takeRoad_25 : decode cX3_takeRoad 25 = .ok (.iconst 0, 1) := by decide +kernel
theorem dX3_takeRoad_26 : decode cX3_takeRoad 26 = .ok (.bipush 8, 2) := by decide +kernel
theorem dX3_takeRoad_28 : decode cX3_takeRoad 28 = .ok (.invokestatic 53, 3) := by decide +kernel
theorem dX3_takeRoad_31 : decode cX3_takeRoad 31 = .ok (.aload_n 1, 1) := by decide +kernel
theorem dX3_takeRoad_32 : decode cX3_takeRoad 32 = .ok (.getfield 28, 3) := by decide +kernel
theorem dX3_takeRoad_35 : decode cX3_takeRoad 35 = .ok (.iconst 0, 1) := by decide +kernel
theorem dX3_takeRoad_36 : decode cX3_takeRoad 36 = .ok (.aload_n 0, 1) := by decide +kernel
theorem dX3_takeRoad_37 : decode cX3_takeRoad 37 = .ok (.getfield 28, 3) := by decide +kernel
theorem dX3_takeRoad_40 : decode cX3_takeRoad 40 = .ok (.iconst 0, 1) := by decide +kernel
theorem dX3_takeRoad_41 : decode cX3_takeRoad 41 = .ok (.bipush 8, 2) := by decide +kernel
theorem dX3_takeRoad_43 : decode cX3_takeRoad 43 = .ok (.invokestatic 53, 3) := by decide +kernel
theorem dX3_takeRoad_46 : decode cX3_takeRoad 46 = .ok (.aload_n 1, 1) := by decide +kernel
theorem dX3_takeRoad_47 : decode cX3_takeRoad 47 = .ok (.getfield 31, 3) := by decide +kernel
theorem dX3_takeRoad_50 : decode cX3_takeRoad 50 = .ok (.iconst 0, 1) := by decide +kernel
theorem dX3_takeRoad_51 : decode cX3_takeRoad 51 = .ok (.aload_n 0, 1) := by decide +kernel
theorem dX3_takeRoad_52 : decode cX3_takeRoad 52 = .ok (.getfield 31, 3) := by decide +kernel
theorem dX3_takeRoad_55 : decode cX3_takeRoad 55 = .ok (.iconst 0, 1) := by decide +kernel
theorem dX3_takeRoad_56 : decode cX3_takeRoad 56 = .ok (.bipush 8, 2) := by decide +kernel
theorem dX3_takeRoad_58 : decode cX3_takeRoad 58 = .ok (.invokestatic 53, 3) := by decide +kernel
theorem dX3_takeRoad_61 : decode cX3_takeRoad 61 = .ok (.aload_n 1, 1) := by decide +kernel
theorem dX3_takeRoad_62 : decode cX3_takeRoad 62 = .ok (.getfield 34, 3) := by decide +kernel
theorem dX3_takeRoad_65 : decode cX3_takeRoad 65 = .ok (.iconst 0, 1) := by decide +kernel
theorem dX3_takeRoad_66 : decode cX3_takeRoad 66 = .ok (.aload_n 0, 1) := by decide +kernel
theorem dX3_takeRoad_67 : decode cX3_takeRoad 67 = .ok (.getfield 34, 3) := by decide +kernel
theorem dX3_takeRoad_70 : decode cX3_takeRoad 70 = .ok (.iconst 0, 1) := by decide +kernel
theorem dX3_takeRoad_71 : decode cX3_takeRoad 71 = .ok (.iconst 4, 1) := by decide +kernel
theorem dX3_takeRoad_72 : decode cX3_takeRoad 72 = .ok (.invokestatic 53, 3) := by decide +kernel
theorem dX3_takeRoad_75 : decode cX3_takeRoad 75 = .ok (.aload_n 1, 1) := by decide +kernel
theorem dX3_takeRoad_76 : decode cX3_takeRoad 76 = .ok (.getfield 37, 3) := by decide +kernel
theorem dX3_takeRoad_79 : decode cX3_takeRoad 79 = .ok (.iconst 0, 1) := by decide +kernel
theorem dX3_takeRoad_80 : decode cX3_takeRoad 80 = .ok (.aload_n 0, 1) := by decide +kernel
theorem dX3_takeRoad_81 : decode cX3_takeRoad 81 = .ok (.getfield 37, 3) := by decide +kernel
theorem dX3_takeRoad_84 : decode cX3_takeRoad 84 = .ok (.iconst 0, 1) := by decide +kernel
theorem dX3_takeRoad_85 : decode cX3_takeRoad 85 = .ok (.iconst 4, 1) := by decide +kernel
theorem dX3_takeRoad_86 : decode cX3_takeRoad 86 = .ok (.invokestatic 53, 3) := by decide +kernel
theorem dX3_takeRoad_89 : decode cX3_takeRoad 89 = .ok (.aload_n 1, 1) := by decide +kernel
theorem dX3_takeRoad_90 : decode cX3_takeRoad 90 = .ok (.getfield 40, 3) := by decide +kernel
theorem dX3_takeRoad_93 : decode cX3_takeRoad 93 = .ok (.iconst 0, 1) := by decide +kernel
theorem dX3_takeRoad_94 : decode cX3_takeRoad 94 = .ok (.aload_n 0, 1) := by decide +kernel
theorem dX3_takeRoad_95 : decode cX3_takeRoad 95 = .ok (.getfield 40, 3) := by decide +kernel
theorem dX3_takeRoad_98 : decode cX3_takeRoad 98 = .ok (.iconst 0, 1) := by decide +kernel
theorem dX3_takeRoad_99 : decode cX3_takeRoad 99 = .ok (.iconst 4, 1) := by decide +kernel
theorem dX3_takeRoad_100 : decode cX3_takeRoad 100 = .ok (.invokestatic 53, 3) := by decide +kernel
theorem dX3_takeRoad_103 : decode cX3_takeRoad 103 = .ok (.aload_n 1, 1) := by decide +kernel
theorem dX3_takeRoad_104 : decode cX3_takeRoad 104 = .ok (.getfield 43, 3) := by decide +kernel
theorem dX3_takeRoad_107 : decode cX3_takeRoad 107 = .ok (.iconst 0, 1) := by decide +kernel
theorem dX3_takeRoad_108 : decode cX3_takeRoad 108 = .ok (.aload_n 0, 1) := by decide +kernel
theorem dX3_takeRoad_109 : decode cX3_takeRoad 109 = .ok (.getfield 43, 3) := by decide +kernel
theorem dX3_takeRoad_112 : decode cX3_takeRoad 112 = .ok (.iconst 0, 1) := by decide +kernel
theorem dX3_takeRoad_113 : decode cX3_takeRoad 113 = .ok (.iconst 4, 1) := by decide +kernel
theorem dX3_takeRoad_114 : decode cX3_takeRoad 114 = .ok (.invokestatic 53, 3) := by decide +kernel
theorem dX3_takeRoad_117 : decode cX3_takeRoad 117 = .ok (.aload_n 1, 1) := by decide +kernel
theorem dX3_takeRoad_118 : decode cX3_takeRoad 118 = .ok (.getfield 46, 3) := by decide +kernel
theorem dX3_takeRoad_121 : decode cX3_takeRoad 121 = .ok (.iconst 0, 1) := by decide +kernel
theorem dX3_takeRoad_122 : decode cX3_takeRoad 122 = .ok (.aload_n 0, 1) := by decide +kernel
theorem dX3_takeRoad_123 : decode cX3_takeRoad 123 = .ok (.getfield 46, 3) := by decide +kernel
theorem dX3_takeRoad_126 : decode cX3_takeRoad 126 = .ok (.iconst 0, 1) := by decide +kernel
theorem dX3_takeRoad_127 : decode cX3_takeRoad 127 = .ok (.iconst 4, 1) := by decide +kernel
theorem dX3_takeRoad_128 : decode cX3_takeRoad 128 = .ok (.invokestatic 53, 3) := by decide +kernel
theorem dX3_takeRoad_131 : decode cX3_takeRoad 131 = .ok (.return_, 1) := by decide +kernel
theorem dX3_writeMoving_0 : decode cX3_writeMoving 0 = .ok (.aload_n 0, 1) := by decide +kernel
theorem dX3_writeMoving_1 : decode cX3_writeMoving 1 = .ok (.getfield 37, 3) := by decide +kernel
theorem dX3_writeMoving_4 : decode cX3_writeMoving 4 = .ok (.iconst 0, 1) := by decide +kernel
theorem dX3_writeMoving_5 : decode cX3_writeMoving 5 = .ok (.aload_n 1, 1) := by decide +kernel
theorem dX3_writeMoving_6 : decode cX3_writeMoving 6 = .ok (.iload_n 2, 1) := by decide +kernel
theorem dX3_writeMoving_7 : decode cX3_writeMoving 7 = .ok (.iconst 4, 1) := by decide +kernel
theorem dX3_writeMoving_8 : decode cX3_writeMoving 8 = .ok (.invokestatic 53, 3) := by decide +kernel
theorem dX3_writeMoving_11 : decode cX3_writeMoving 11 = .ok (.aload_n 0, 1) := by decide +kernel
theorem dX3_writeMoving_12 : decode cX3_writeMoving 12 = .ok (.getfield 40, 3) := by decide +kernel
theorem dX3_writeMoving_15 : decode cX3_writeMoving 15 = .ok (.iconst 0, 1) := by decide +kernel
theorem dX3_writeMoving_16 : decode cX3_writeMoving 16 = .ok (.aload_n 1, 1) := by decide +kernel
theorem dX3_writeMoving_17 : decode cX3_writeMoving 17 = .ok (.iload_n 2, 1) := by decide +kernel
theorem dX3_writeMoving_18 : decode cX3_writeMoving 18 = .ok (.iconst 4, 1) := by decide +kernel
theorem dX3_writeMoving_19 : decode cX3_writeMoving 19 = .ok (.iadd, 1) := by decide +kernel
theorem dX3_writeMoving_20 : decode cX3_writeMoving 20 = .ok (.iconst 4, 1) := by decide +kernel
theorem dX3_writeMoving_21 : decode cX3_writeMoving 21 = .ok (.invokestatic 53, 3) := by decide +kernel
theorem dX3_writeMoving_24 : decode cX3_writeMoving 24 = .ok (.aload_n 0, 1) := by decide +kernel
theorem dX3_writeMoving_25 : decode cX3_writeMoving 25 = .ok (.getfield 43, 3) := by decide +kernel
theorem dX3_writeMoving_28 : decode cX3_writeMoving 28 = .ok (.iconst 0, 1) := by decide +kernel
theorem dX3_writeMoving_29 : decode cX3_writeMoving 29 = .ok (.aload_n 1, 1) := by decide +kernel
theorem dX3_writeMoving_30 : decode cX3_writeMoving 30 = .ok (.iload_n 2, 1) := by decide +kernel
theorem dX3_writeMoving_31 : decode cX3_writeMoving 31 = .ok (.bipush 8, 2) := by decide +kernel
theorem dX3_writeMoving_33 : decode cX3_writeMoving 33 = .ok (.iadd, 1) := by decide +kernel
theorem dX3_writeMoving_34 : decode cX3_writeMoving 34 = .ok (.iconst 4, 1) := by decide +kernel
theorem dX3_writeMoving_35 : decode cX3_writeMoving 35 = .ok (.invokestatic 53, 3) := by decide +kernel
theorem dX3_writeMoving_38 : decode cX3_writeMoving 38 = .ok (.aload_n 0, 1) := by decide +kernel
theorem dX3_writeMoving_39 : decode cX3_writeMoving 39 = .ok (.getfield 31, 3) := by decide +kernel
theorem dX3_writeMoving_42 : decode cX3_writeMoving 42 = .ok (.iconst 0, 1) := by decide +kernel
theorem dX3_writeMoving_43 : decode cX3_writeMoving 43 = .ok (.aload_n 1, 1) := by decide +kernel
theorem dX3_writeMoving_44 : decode cX3_writeMoving 44 = .ok (.iload_n 2, 1) := by decide +kernel
theorem dX3_writeMoving_45 : decode cX3_writeMoving 45 = .ok (.bipush 12, 2) := by decide +kernel
theorem dX3_writeMoving_47 : decode cX3_writeMoving 47 = .ok (.iadd, 1) := by decide +kernel
theorem dX3_writeMoving_48 : decode cX3_writeMoving 48 = .ok (.bipush 8, 2) := by decide +kernel
theorem dX3_writeMoving_50 : decode cX3_writeMoving 50 = .ok (.invokestatic 53, 3) := by decide +kernel
theorem dX3_writeMoving_53 : decode cX3_writeMoving 53 = .ok (.aload_n 1, 1) := by decide +kernel
theorem dX3_writeMoving_54 : decode cX3_writeMoving 54 = .ok (.iload_n 2, 1) := by decide +kernel
theorem dX3_writeMoving_55 : decode cX3_writeMoving 55 = .ok (.bipush 20, 2) := by decide +kernel
theorem dX3_writeMoving_57 : decode cX3_writeMoving 57 = .ok (.iadd, 1) := by decide +kernel
theorem dX3_writeMoving_58 : decode cX3_writeMoving 58 = .ok (.aload_n 0, 1) := by decide +kernel
theorem dX3_writeMoving_59 : decode cX3_writeMoving 59 = .ok (.getfield 21, 3) := by decide +kernel
theorem dX3_writeMoving_62 : decode cX3_writeMoving 62 = .ok (.iastore, 1) := by decide +kernel
theorem dX3_writeMoving_63 : decode cX3_writeMoving 63 = .ok (.return_, 1) := by decide +kernel
theorem dX3_readMoving_0 : decode cX3_readMoving 0 = .ok (.aload_n 1, 1) := by decide +kernel
theorem dX3_readMoving_1 : decode cX3_readMoving 1 = .ok (.iload_n 2, 1) := by decide +kernel
theorem dX3_readMoving_2 : decode cX3_readMoving 2 = .ok (.aload_n 0, 1) := by decide +kernel
theorem dX3_readMoving_3 : decode cX3_readMoving 3 = .ok (.getfield 37, 3) := by decide +kernel
theorem dX3_readMoving_6 : decode cX3_readMoving 6 = .ok (.iconst 0, 1) := by decide +kernel
theorem dX3_readMoving_7 : decode cX3_readMoving 7 = .ok (.iconst 4, 1) := by decide +kernel
theorem dX3_readMoving_8 : decode cX3_readMoving 8 = .ok (.invokestatic 53, 3) := by decide +kernel
theorem dX3_readMoving_11 : decode cX3_readMoving 11 = .ok (.aload_n 1, 1) := by decide +kernel
theorem dX3_readMoving_12 : decode cX3_readMoving 12 = .ok (.iload_n 2, 1) := by decide +kernel
theorem dX3_readMoving_13 : decode cX3_readMoving 13 = .ok (.iconst 4, 1) := by decide +kernel
theorem dX3_readMoving_14 : decode cX3_readMoving 14 = .ok (.iadd, 1) := by decide +kernel
theorem dX3_readMoving_15 : decode cX3_readMoving 15 = .ok (.aload_n 0, 1) := by decide +kernel
theorem dX3_readMoving_16 : decode cX3_readMoving 16 = .ok (.getfield 40, 3) := by decide +kernel
theorem dX3_readMoving_19 : decode cX3_readMoving 19 = .ok (.iconst 0, 1) := by decide +kernel
theorem dX3_readMoving_20 : decode cX3_readMoving 20 = .ok (.iconst 4, 1) := by decide +kernel
theorem dX3_readMoving_21 : decode cX3_readMoving 21 = .ok (.invokestatic 53, 3) := by decide +kernel
theorem dX3_readMoving_24 : decode cX3_readMoving 24 = .ok (.aload_n 1, 1) := by decide +kernel
theorem dX3_readMoving_25 : decode cX3_readMoving 25 = .ok (.iload_n 2, 1) := by decide +kernel
theorem dX3_readMoving_26 : decode cX3_readMoving 26 = .ok (.bipush 8, 2) := by decide +kernel
theorem dX3_readMoving_28 : decode cX3_readMoving 28 = .ok (.iadd, 1) := by decide +kernel
theorem dX3_readMoving_29 : decode cX3_readMoving 29 = .ok (.aload_n 0, 1) := by decide +kernel
theorem dX3_readMoving_30 : decode cX3_readMoving 30 = .ok (.getfield 43, 3) := by decide +kernel
theorem dX3_readMoving_33 : decode cX3_readMoving 33 = .ok (.iconst 0, 1) := by decide +kernel
theorem dX3_readMoving_34 : decode cX3_readMoving 34 = .ok (.iconst 4, 1) := by decide +kernel
theorem dX3_readMoving_35 : decode cX3_readMoving 35 = .ok (.invokestatic 53, 3) := by decide +kernel
theorem dX3_readMoving_38 : decode cX3_readMoving 38 = .ok (.aload_n 1, 1) := by decide +kernel
theorem dX3_readMoving_39 : decode cX3_readMoving 39 = .ok (.iload_n 2, 1) := by decide +kernel
theorem dX3_readMoving_40 : decode cX3_readMoving 40 = .ok (.bipush 12, 2) := by decide +kernel
theorem dX3_readMoving_42 : decode cX3_readMoving 42 = .ok (.iadd, 1) := by decide +kernel
theorem dX3_readMoving_43 : decode cX3_readMoving 43 = .ok (.aload_n 0, 1) := by decide +kernel
theorem dX3_readMoving_44 : decode cX3_readMoving 44 = .ok (.getfield 31, 3) := by decide +kernel
theorem dX3_readMoving_47 : decode cX3_readMoving 47 = .ok (.iconst 0, 1) := by decide +kernel
theorem dX3_readMoving_48 : decode cX3_readMoving 48 = .ok (.bipush 8, 2) := by decide +kernel
theorem dX3_readMoving_50 : decode cX3_readMoving 50 = .ok (.invokestatic 53, 3) := by decide +kernel
theorem dX3_readMoving_53 : decode cX3_readMoving 53 = .ok (.aload_n 0, 1) := by decide +kernel
theorem dX3_readMoving_54 : decode cX3_readMoving 54 = .ok (.aload_n 1, 1) := by decide +kernel
theorem dX3_readMoving_55 : decode cX3_readMoving 55 = .ok (.iload_n 2, 1) := by decide +kernel
theorem dX3_readMoving_56 : decode cX3_readMoving 56 = .ok (.bipush 20, 2) := by decide +kernel
theorem dX3_readMoving_58 : decode cX3_readMoving 58 = .ok (.iadd, 1) := by decide +kernel
theorem dX3_readMoving_59 : decode cX3_readMoving 59 = .ok (.iaload, 1) := by decide +kernel
theorem dX3_readMoving_60 : decode cX3_readMoving 60 = .ok (.putfield 21, 3) := by decide +kernel
theorem dX3_readMoving_63 : decode cX3_readMoving 63 = .ok (.return_, 1) := by decide +kernel
theorem dX3_addStage_0 : decode cX3_addStage 0 = .ok (.aload_n 0, 1) := by decide +kernel
theorem dX3_addStage_1 : decode cX3_addStage 1 = .ok (.getfield 24, 3) := by decide +kernel
theorem dX3_addStage_4 : decode cX3_addStage 4 = .ok (.aload_n 0, 1) := by decide +kernel
theorem dX3_addStage_5 : decode cX3_addStage 5 = .ok (.getfield 9, 3) := by decide +kernel
theorem dX3_addStage_8 : decode cX3_addStage 8 = .ok (.iload_n 1, 1) := by decide +kernel
theorem dX3_addStage_9 : decode cX3_addStage 9 = .ok (.iastore, 1) := by decide +kernel
theorem dX3_addStage_10 : decode cX3_addStage 10 = .ok (.aload_n 0, 1) := by decide +kernel
theorem dX3_addStage_11 : decode cX3_addStage 11 = .ok (.getfield 28, 3) := by decide +kernel
theorem dX3_addStage_14 : decode cX3_addStage 14 = .ok (.aload_n 0, 1) := by decide +kernel
theorem dX3_addStage_15 : decode cX3_addStage 15 = .ok (.getfield 9, 3) := by decide +kernel
theorem dX3_addStage_18 : decode cX3_addStage 18 = .ok (.iload_n 2, 1) := by decide +kernel
theorem dX3_addStage_19 : decode cX3_addStage 19 = .ok (.iastore, 1) := by decide +kernel
theorem dX3_addStage_20 : decode cX3_addStage 20 = .ok (.aload_n 0, 1) := by decide +kernel
theorem dX3_addStage_21 : decode cX3_addStage 21 = .ok (.getfield 31, 3) := by decide +kernel
theorem dX3_addStage_24 : decode cX3_addStage 24 = .ok (.aload_n 0, 1) := by decide +kernel
theorem dX3_addStage_25 : decode cX3_addStage 25 = .ok (.getfield 9, 3) := by decide +kernel
theorem dX3_addStage_28 : decode cX3_addStage 28 = .ok (.iload_n 3, 1) := by decide +kernel
theorem dX3_addStage_29 : decode cX3_addStage 29 = .ok (.iastore, 1) := by decide +kernel
theorem dX3_addStage_30 : decode cX3_addStage 30 = .ok (.aload_n 0, 1) := by decide +kernel
theorem dX3_addStage_31 : decode cX3_addStage 31 = .ok (.dup, 1) := by decide +kernel
theorem dX3_addStage_32 : decode cX3_addStage 32 = .ok (.getfield 9, 3) := by decide +kernel
theorem dX3_addStage_35 : decode cX3_addStage 35 = .ok (.iconst 1, 1) := by decide +kernel
theorem dX3_addStage_36 : decode cX3_addStage 36 = .ok (.iadd, 1) := by decide +kernel
theorem dX3_addStage_37 : decode cX3_addStage 37 = .ok (.putfield 9, 3) := by decide +kernel
theorem dX3_addStage_40 : decode cX3_addStage 40 = .ok (.aload_n 0, 1) := by decide +kernel
theorem dX3_addStage_41 : decode cX3_addStage 41 = .ok (.getfield 9, 3) := by decide +kernel
theorem dX3_addStage_44 : decode cX3_addStage 44 = .ok (.iconst 1, 1) := by decide +kernel
theorem dX3_addStage_45 : decode cX3_addStage 45 = .ok (.isub, 1) := by decide +kernel
theorem dX3_addStage_46 : decode cX3_addStage 46 = .ok (.ireturn, 1) := by decide +kernel
theorem dX3_addRider_0 : decode cX3_addRider 0 = .ok (.aload_n 0, 1) := by decide +kernel
theorem dX3_addRider_1 : decode cX3_addRider 1 = .ok (.getfield 34, 3) := by decide +kernel
theorem dX3_addRider_4 : decode cX3_addRider 4 = .ok (.aload_n 0, 1) := by decide +kernel
theorem dX3_addRider_5 : decode cX3_addRider 5 = .ok (.getfield 15, 3) := by decide +kernel
theorem dX3_addRider_8 : decode cX3_addRider 8 = .ok (.iload_n 1, 1) := by decide +kernel
theorem dX3_addRider_9 : decode cX3_addRider 9 = .ok (.iastore, 1) := by decide +kernel
theorem dX3_addRider_10 : decode cX3_addRider 10 = .ok (.aload_n 0, 1) := by decide +kernel
theorem dX3_addRider_11 : decode cX3_addRider 11 = .ok (.getfield 37, 3) := by decide +kernel
theorem dX3_addRider_14 : decode cX3_addRider 14 = .ok (.aload_n 0, 1) := by decide +kernel
theorem dX3_addRider_15 : decode cX3_addRider 15 = .ok (.getfield 15, 3) := by decide +kernel
theorem dX3_addRider_18 : decode cX3_addRider 18 = .ok (.iconst 0, 1) := by decide +kernel
theorem dX3_addRider_19 : decode cX3_addRider 19 = .ok (.iastore, 1) := by decide +kernel
theorem dX3_addRider_20 : decode cX3_addRider 20 = .ok (.aload_n 0, 1) := by decide +kernel
theorem dX3_addRider_21 : decode cX3_addRider 21 = .ok (.getfield 40, 3) := by decide +kernel
theorem dX3_addRider_24 : decode cX3_addRider 24 = .ok (.aload_n 0, 1) := by decide +kernel
theorem dX3_addRider_25 : decode cX3_addRider 25 = .ok (.getfield 15, 3) := by decide +kernel
theorem dX3_addRider_28 : decode cX3_addRider 28 = .ok (.iload_n 2, 1) := by decide +kernel
theorem dX3_addRider_29 : decode cX3_addRider 29 = .ok (.iastore, 1) := by decide +kernel
theorem dX3_addRider_30 : decode cX3_addRider 30 = .ok (.aload_n 0, 1) := by decide +kernel
theorem dX3_addRider_31 : decode cX3_addRider 31 = .ok (.getfield 43, 3) := by decide +kernel
theorem dX3_addRider_34 : decode cX3_addRider 34 = .ok (.aload_n 0, 1) := by decide +kernel
theorem dX3_addRider_35 : decode cX3_addRider 35 = .ok (.getfield 15, 3) := by decide +kernel
theorem dX3_addRider_38 : decode cX3_addRider 38 = .ok (.iload_n 3, 1) := by decide +kernel
theorem dX3_addRider_39 : decode cX3_addRider 39 = .ok (.iastore, 1) := by decide +kernel
theorem dX3_addRider_40 : decode cX3_addRider 40 = .ok (.aload_n 0, 1) := by decide +kernel
theorem dX3_addRider_41 : decode cX3_addRider 41 = .ok (.getfield 46, 3) := by decide +kernel
theorem dX3_addRider_44 : decode cX3_addRider 44 = .ok (.aload_n 0, 1) := by decide +kernel
theorem dX3_addRider_45 : decode cX3_addRider 45 = .ok (.getfield 15, 3) := by decide +kernel
theorem dX3_addRider_48 : decode cX3_addRider 48 = .ok (.iconst 0, 1) := by decide +kernel
theorem dX3_addRider_49 : decode cX3_addRider 49 = .ok (.iastore, 1) := by decide +kernel
theorem dX3_addRider_50 : decode cX3_addRider 50 = .ok (.aload_n 0, 1) := by decide +kernel
theorem dX3_addRider_51 : decode cX3_addRider 51 = .ok (.dup, 1) := by decide +kernel
theorem dX3_addRider_52 : decode cX3_addRider 52 = .ok (.getfield 15, 3) := by decide +kernel
theorem dX3_addRider_55 : decode cX3_addRider 55 = .ok (.iconst 1, 1) := by decide +kernel
theorem dX3_addRider_56 : decode cX3_addRider 56 = .ok (.iadd, 1) := by decide +kernel
theorem dX3_addRider_57 : decode cX3_addRider 57 = .ok (.putfield 15, 3) := by decide +kernel
theorem dX3_addRider_60 : decode cX3_addRider 60 = .ok (.aload_n 0, 1) := by decide +kernel
theorem dX3_addRider_61 : decode cX3_addRider 61 = .ok (.getfield 15, 3) := by decide +kernel
theorem dX3_addRider_64 : decode cX3_addRider 64 = .ok (.iconst 1, 1) := by decide +kernel
theorem dX3_addRider_65 : decode cX3_addRider 65 = .ok (.isub, 1) := by decide +kernel
theorem dX3_addRider_66 : decode cX3_addRider 66 = .ok (.ireturn, 1) := by decide +kernel
theorem dX3_isThere_0 : decode cX3_isThere 0 = .ok (.aload_n 0, 1) := by decide +kernel
theorem dX3_isThere_1 : decode cX3_isThere 1 = .ok (.getfield 37, 3) := by decide +kernel
theorem dX3_isThere_4 : decode cX3_isThere 4 = .ok (.iload_n 1, 1) := by decide +kernel
theorem dX3_isThere_5 : decode cX3_isThere 5 = .ok (.iaload, 1) := by decide +kernel
theorem dX3_isThere_6 : decode cX3_isThere 6 = .ok (.aload_n 0, 1) := by decide +kernel
theorem dX3_isThere_7 : decode cX3_isThere 7 = .ok (.getfield 9, 3) := by decide +kernel
theorem dX3_isThere_10 : decode cX3_isThere 10 = .ok (.if_icmp .lt 7, 3) := by decide +kernel
theorem dX3_isThere_13 : decode cX3_isThere 13 = .ok (.iconst 1, 1) := by decide +kernel
theorem dX3_isThere_14 : decode cX3_isThere 14 = .ok (.goto 4, 3) := by decide +kernel
theorem dX3_isThere_17 : decode cX3_isThere 17 = .ok (.iconst 0, 1) := by decide +kernel
theorem dX3_isThere_18 : decode cX3_isThere 18 = .ok (.ireturn, 1) := by decide +kernel
theorem dX3_whoIsThere_0 : decode cX3_whoIsThere 0 = .ok (.iconst 0, 1) := by decide +kernel
theorem dX3_whoIsThere_1 : decode cX3_whoIsThere 1 = .ok (.istore_n 1, 1) := by decide +kernel
theorem dX3_whoIsThere_2 : decode cX3_whoIsThere 2 = .ok (.iconst 0, 1) := by decide +kernel
theorem dX3_whoIsThere_3 : decode cX3_whoIsThere 3 = .ok (.istore_n 2, 1) := by decide +kernel
theorem dX3_whoIsThere_4 : decode cX3_whoIsThere 4 = .ok (.iload_n 2, 1) := by decide +kernel
theorem dX3_whoIsThere_5 : decode cX3_whoIsThere 5 = .ok (.aload_n 0, 1) := by decide +kernel
theorem dX3_whoIsThere_6 : decode cX3_whoIsThere 6 = .ok (.getfield 15, 3) := by decide +kernel
theorem dX3_whoIsThere_9 : decode cX3_whoIsThere 9 = .ok (.if_icmp .ge 27, 3) := by decide +kernel
theorem dX3_whoIsThere_12 : decode cX3_whoIsThere 12 = .ok (.iload_n 1, 1) := by decide +kernel
theorem dX3_whoIsThere_13 : decode cX3_whoIsThere 13 = .ok (.aload_n 0, 1) := by decide +kernel
theorem dX3_whoIsThere_14 : decode cX3_whoIsThere 14 = .ok (.iload_n 2, 1) := by decide +kernel
theorem dX3_whoIsThere_15 : decode cX3_whoIsThere 15 = .ok (.invokevirtual 59, 3) := by decide +kernel
theorem dX3_whoIsThere_18 : decode cX3_whoIsThere 18 = .ok (.ifCond .eq 9, 3) := by decide +kernel
theorem dX3_whoIsThere_21 : decode cX3_whoIsThere 21 = .ok (.iconst 1, 1) := by decide +kernel
theorem dX3_whoIsThere_22 : decode cX3_whoIsThere 22 = .ok (.iload_n 2, 1) := by decide +kernel
theorem dX3_whoIsThere_23 : decode cX3_whoIsThere 23 = .ok (.ishl, 1) := by decide +kernel
theorem dX3_whoIsThere_24 : decode cX3_whoIsThere 24 = .ok (.goto 4, 3) := by decide +kernel
theorem dX3_whoIsThere_27 : decode cX3_whoIsThere 27 = .ok (.iconst 0, 1) := by decide +kernel
theorem dX3_whoIsThere_28 : decode cX3_whoIsThere 28 = .ok (.ior, 1) := by decide +kernel
theorem dX3_whoIsThere_29 : decode cX3_whoIsThere 29 = .ok (.istore_n 1, 1) := by decide +kernel
theorem dX3_whoIsThere_30 : decode cX3_whoIsThere 30 = .ok (.iinc 2 1, 3) := by decide +kernel
theorem dX3_whoIsThere_33 : decode cX3_whoIsThere 33 = .ok (.goto (-29), 3) := by decide +kernel
theorem dX3_whoIsThere_36 : decode cX3_whoIsThere 36 = .ok (.iload_n 1, 1) := by decide +kernel
theorem dX3_whoIsThere_37 : decode cX3_whoIsThere 37 = .ok (.ireturn, 1) := by decide +kernel
theorem dX3_whoRides_0 : decode cX3_whoRides 0 = .ok (.bipush (-4), 2) := by decide +kernel
theorem dX3_whoRides_2 : decode cX3_whoRides 2 = .ok (.istore_n 1, 1) := by decide +kernel
theorem dX3_whoRides_3 : decode cX3_whoRides 3 = .ok (.iconst 0, 1) := by decide +kernel
theorem dX3_whoRides_4 : decode cX3_whoRides 4 = .ok (.istore_n 2, 1) := by decide +kernel
theorem dX3_whoRides_5 : decode cX3_whoRides 5 = .ok (.iload_n 2, 1) := by decide +kernel
theorem dX3_whoRides_6 : decode cX3_whoRides 6 = .ok (.aload_n 0, 1) := by decide +kernel
theorem dX3_whoRides_7 : decode cX3_whoRides 7 = .ok (.getfield 15, 3) := by decide +kernel
theorem dX3_whoRides_10 : decode cX3_whoRides 10 = .ok (.if_icmp .ge 38, 3) := by decide +kernel
theorem dX3_whoRides_13 : decode cX3_whoRides 13 = .ok (.aload_n 0, 1) := by decide +kernel
theorem dX3_whoRides_14 : decode cX3_whoRides 14 = .ok (.iload_n 2, 1) := by decide +kernel
theorem dX3_whoRides_15 : decode cX3_whoRides 15 = .ok (.invokevirtual 59, 3) := by decide +kernel
theorem dX3_whoRides_18 : decode cX3_whoRides 18 = .ok (.ifCond .ne 24, 3) := by decide +kernel
theorem dX3_whoRides_21 : decode cX3_whoRides 21 = .ok (.iload_n 1, 1) := by decide +kernel
theorem dX3_whoRides_22 : decode cX3_whoRides 22 = .ok (.ifCond .lt 18, 3) := by decide +kernel
theorem dX3_whoRides_25 : decode cX3_whoRides 25 = .ok (.aload_n 0, 1) := by decide +kernel
theorem dX3_whoRides_26 : decode cX3_whoRides 26 = .ok (.getfield 40, 3) := by decide +kernel
theorem dX3_whoRides_29 : decode cX3_whoRides 29 = .ok (.iload_n 2, 1) := by decide +kernel
theorem dX3_whoRides_30 : decode cX3_whoRides 30 = .ok (.iaload, 1) := by decide +kernel
theorem dX3_whoRides_31 : decode cX3_whoRides 31 = .ok (.aload_n 0, 1) := by decide +kernel
theorem dX3_whoRides_32 : decode cX3_whoRides 32 = .ok (.getfield 40, 3) := by decide +kernel
theorem dX3_whoRides_35 : decode cX3_whoRides 35 = .ok (.iload_n 1, 1) := by decide +kernel
theorem dX3_whoRides_36 : decode cX3_whoRides 36 = .ok (.iaload, 1) := by decide +kernel
theorem dX3_whoRides_37 : decode cX3_whoRides 37 = .ok (.if_icmp .ge 5, 3) := by decide +kernel
theorem dX3_whoRides_40 : decode cX3_whoRides 40 = .ok (.iload_n 2, 1) := by decide +kernel
theorem dX3_whoRides_41 : decode cX3_whoRides 41 = .ok (.istore_n 1, 1) := by decide +kernel
theorem dX3_whoRides_42 : decode cX3_whoRides 42 = .ok (.iinc 2 1, 3) := by decide +kernel
theorem dX3_whoRides_45 : decode cX3_whoRides 45 = .ok (.goto (-40), 3) := by decide +kernel
theorem dX3_whoRides_48 : decode cX3_whoRides 48 = .ok (.iload_n 1, 1) := by decide +kernel
theorem dX3_whoRides_49 : decode cX3_whoRides 49 = .ok (.ireturn, 1) := by decide +kernel
theorem dX3_rideStage_0 : decode cX3_rideStage 0 = .ok (.aload_n 0, 1) := by decide +kernel
theorem dX3_rideStage_1 : decode cX3_rideStage 1 = .ok (.getfield 37, 3) := by decide +kernel
theorem dX3_rideStage_4 : decode cX3_rideStage 4 = .ok (.iload_n 1, 1) := by decide +kernel
theorem dX3_rideStage_5 : decode cX3_rideStage 5 = .ok (.iaload, 1) := by decide +kernel
theorem dX3_rideStage_6 : decode cX3_rideStage 6 = .ok (.istore_n 3, 1) := by decide +kernel
theorem dX3_rideStage_7 : decode cX3_rideStage 7 = .ok (.aload_n 0, 1) := by decide +kernel
theorem dX3_rideStage_8 : decode cX3_rideStage 8 = .ok (.getfield 46, 3) := by decide +kernel
theorem dX3_rideStage_11 : decode cX3_rideStage 11 = .ok (.iload_n 1, 1) := by decide +kernel
theorem dX3_rideStage_12 : decode cX3_rideStage 12 = .ok (.iaload, 1) := by decide +kernel
theorem dX3_rideStage_13 : decode cX3_rideStage 13 = .ok (.iload_n 3, 1) := by decide +kernel
theorem dX3_rideStage_14 : decode cX3_rideStage 14 = .ok (.invokestatic 63, 3) := by decide +kernel
theorem dX3_rideStage_17 : decode cX3_rideStage 17 = .ok (.ifCond .eq 29, 3) := by decide +kernel
theorem dX3_rideStage_20 : decode cX3_rideStage 20 = .ok (.aload_n 0, 1) := by decide +kernel
theorem dX3_rideStage_21 : decode cX3_rideStage 21 = .ok (.getfield 31, 3) := by decide +kernel
theorem dX3_rideStage_24 : decode cX3_rideStage 24 = .ok (.iload_n 3, 1) := by decide +kernel
theorem dX3_rideStage_25 : decode cX3_rideStage 25 = .ok (.iaload, 1) := by decide +kernel
theorem dX3_rideStage_26 : decode cX3_rideStage 26 = .ok (.ifCond .le 20, 3) := by decide +kernel
theorem dX3_rideStage_29 : decode cX3_rideStage 29 = .ok (.aload_n 0, 1) := by decide +kernel
theorem dX3_rideStage_30 : decode cX3_rideStage 30 = .ok (.getfield 43, 3) := by decide +kernel
theorem dX3_rideStage_33 : decode cX3_rideStage 33 = .ok (.iload_n 1, 1) := by decide +kernel
theorem dX3_rideStage_34 : decode cX3_rideStage 34 = .ok (.iaload, 1) := by decide +kernel
theorem dX3_rideStage_35 : decode cX3_rideStage 35 = .ok (.aload_n 0, 1) := by decide +kernel
theorem dX3_rideStage_36 : decode cX3_rideStage 36 = .ok (.getfield 18, 3) := by decide +kernel
theorem dX3_rideStage_39 : decode cX3_rideStage 39 = .ok (.if_icmp .lt 7, 3) := by decide +kernel
theorem dX3_rideStage_42 : decode cX3_rideStage 42 = .ok (.iconst 1, 1) := by decide +kernel
theorem dX3_rideStage_43 : decode cX3_rideStage 43 = .ok (.goto 4, 3) := by decide +kernel
theorem dX3_rideStage_46 : decode cX3_rideStage 46 = .ok (.iconst 0, 1) := by decide +kernel
theorem dX3_rideStage_47 : decode cX3_rideStage 47 = .ok (.istore 4, 2) := by decide +kernel
theorem dX3_rideStage_49 : decode cX3_rideStage 49 = .ok (.iload 4, 2) := by decide +kernel
theorem dX3_rideStage_51 : decode cX3_rideStage 51 = .ok (.ifCond .eq 26, 3) := by decide +kernel
theorem dX3_rideStage_54 : decode cX3_rideStage 54 = .ok (.aload_n 0, 1) := by decide +kernel
theorem dX3_rideStage_55 : decode cX3_rideStage 55 = .ok (.getfield 43, 3) := by decide +kernel
theorem dX3_rideStage_58 : decode cX3_rideStage 58 = .ok (.iload_n 1, 1) := by decide +kernel
theorem dX3_rideStage_59 : decode cX3_rideStage 59 = .ok (.dup2, 1) := by decide +kernel
theorem dX3_rideStage_60 : decode cX3_rideStage 60 = .ok (.iaload, 1) := by decide +kernel
theorem dX3_rideStage_61 : decode cX3_rideStage 61 = .ok (.aload_n 0, 1) := by decide +kernel
theorem dX3_rideStage_62 : decode cX3_rideStage 62 = .ok (.getfield 18, 3) := by decide +kernel
theorem dX3_rideStage_65 : decode cX3_rideStage 65 = .ok (.isub, 1) := by decide +kernel
theorem dX3_rideStage_66 : decode cX3_rideStage 66 = .ok (.iastore, 1) := by decide +kernel
theorem dX3_rideStage_67 : decode cX3_rideStage 67 = .ok (.aload_n 0, 1) := by decide +kernel
theorem dX3_rideStage_68 : decode cX3_rideStage 68 = .ok (.getfield 31, 3) := by decide +kernel
theorem dX3_rideStage_71 : decode cX3_rideStage 71 = .ok (.iload_n 3, 1) := by decide +kernel
theorem dX3_rideStage_72 : decode cX3_rideStage 72 = .ok (.dup2, 1) := by decide +kernel
theorem dX3_rideStage_73 : decode cX3_rideStage 73 = .ok (.iaload, 1) := by decide +kernel
theorem dX3_rideStage_74 : decode cX3_rideStage 74 = .ok (.iconst 1, 1) := by decide +kernel
theorem dX3_rideStage_75 : decode cX3_rideStage 75 = .ok (.isub, 1) := by decide +kernel
theorem dX3_rideStage_76 : decode cX3_rideStage 76 = .ok (.iastore, 1) := by decide +kernel
theorem dX3_rideStage_77 : decode cX3_rideStage 77 = .ok (.aload_n 0, 1) := by decide +kernel
theorem dX3_rideStage_78 : decode cX3_rideStage 78 = .ok (.getfield 43, 3) := by decide +kernel
theorem dX3_rideStage_81 : decode cX3_rideStage 81 = .ok (.iload_n 1, 1) := by decide +kernel
theorem dX3_rideStage_82 : decode cX3_rideStage 82 = .ok (.iaload, 1) := by decide +kernel
theorem dX3_rideStage_83 : decode cX3_rideStage 83 = .ok (.aload_n 0, 1) := by decide +kernel
theorem dX3_rideStage_84 : decode cX3_rideStage 84 = .ok (.getfield 28, 3) := by decide +kernel
theorem dX3_rideStage_87 : decode cX3_rideStage 87 = .ok (.iload_n 3, 1) := by decide +kernel
theorem dX3_rideStage_88 : decode cX3_rideStage 88 = .ok (.iaload, 1) := by decide +kernel
theorem dX3_rideStage_89 : decode cX3_rideStage 89 = .ok (.if_icmp .lt 21, 3) := by decide +kernel
theorem dX3_rideStage_92 : decode cX3_rideStage 92 = .ok (.aload_n 0, 1) := by decide +kernel
theorem dX3_rideStage_93 : decode cX3_rideStage 93 = .ok (.getfield 43, 3) := by decide +kernel
theorem dX3_rideStage_96 : decode cX3_rideStage 96 = .ok (.iload_n 1, 1) := by decide +kernel
theorem dX3_rideStage_97 : decode cX3_rideStage 97 = .ok (.dup2, 1) := by decide +kernel
theorem dX3_rideStage_98 : decode cX3_rideStage 98 = .ok (.iaload, 1) := by decide +kernel
theorem dX3_rideStage_99 : decode cX3_rideStage 99 = .ok (.aload_n 0, 1) := by decide +kernel
theorem dX3_rideStage_100 : decode cX3_rideStage 100 = .ok (.getfield 28, 3) := by decide +kernel
theorem dX3_rideStage_103 : decode cX3_rideStage 103 = .ok (.iload_n 3, 1) := by decide +kernel
theorem dX3_rideStage_104 : decode cX3_rideStage 104 = .ok (.iaload, 1) := by decide +kernel
theorem dX3_rideStage_105 : decode cX3_rideStage 105 = .ok (.isub, 1) := by decide +kernel
theorem dX3_rideStage_106 : decode cX3_rideStage 106 = .ok (.iastore, 1) := by decide +kernel
theorem dX3_rideStage_107 : decode cX3_rideStage 107 = .ok (.goto 14, 3) := by decide +kernel
theorem dX3_rideStage_110 : decode cX3_rideStage 110 = .ok (.aload_n 0, 1) := by decide +kernel
theorem dX3_rideStage_111 : decode cX3_rideStage 111 = .ok (.getfield 40, 3) := by decide +kernel
theorem dX3_rideStage_114 : decode cX3_rideStage 114 = .ok (.iload_n 1, 1) := by decide +kernel
theorem dX3_rideStage_115 : decode cX3_rideStage 115 = .ok (.dup2, 1) := by decide +kernel
theorem dX3_rideStage_116 : decode cX3_rideStage 116 = .ok (.iaload, 1) := by decide +kernel
theorem dX3_rideStage_117 : decode cX3_rideStage 117 = .ok (.bipush 10, 2) := by decide +kernel
theorem dX3_rideStage_119 : decode cX3_rideStage 119 = .ok (.iadd, 1) := by decide +kernel
theorem dX3_rideStage_120 : decode cX3_rideStage 120 = .ok (.iastore, 1) := by decide +kernel
theorem dX3_rideStage_121 : decode cX3_rideStage 121 = .ok (.aload_n 0, 1) := by decide +kernel
theorem dX3_rideStage_122 : decode cX3_rideStage 122 = .ok (.getfield 40, 3) := by decide +kernel
theorem dX3_rideStage_125 : decode cX3_rideStage 125 = .ok (.iload_n 1, 1) := by decide +kernel
theorem dX3_rideStage_126 : decode cX3_rideStage 126 = .ok (.dup2, 1) := by decide +kernel
theorem dX3_rideStage_127 : decode cX3_rideStage 127 = .ok (.iaload, 1) := by decide +kernel
theorem dX3_rideStage_128 : decode cX3_rideStage 128 = .ok (.aload_n 0, 1) := by decide +kernel
theorem dX3_rideStage_129 : decode cX3_rideStage 129 = .ok (.getfield 34, 3) := by decide +kernel
theorem dX3_rideStage_132 : decode cX3_rideStage 132 = .ok (.iload_n 1, 1) := by decide +kernel
theorem dX3_rideStage_133 : decode cX3_rideStage 133 = .ok (.iaload, 1) := by decide +kernel
theorem dX3_rideStage_134 : decode cX3_rideStage 134 = .ok (.aload_n 0, 1) := by decide +kernel
theorem dX3_rideStage_135 : decode cX3_rideStage 135 = .ok (.getfield 24, 3) := by decide +kernel
theorem dX3_rideStage_138 : decode cX3_rideStage 138 = .ok (.iload_n 3, 1) := by decide +kernel
theorem dX3_rideStage_139 : decode cX3_rideStage 139 = .ok (.iaload, 1) := by decide +kernel
theorem dX3_rideStage_140 : decode cX3_rideStage 140 = .ok (.iload 4, 2) := by decide +kernel
theorem dX3_rideStage_142 : decode cX3_rideStage 142 = .ok (.invokestatic 67, 3) := by decide +kernel
theorem dX3_rideStage_145 : decode cX3_rideStage 145 = .ok (.iload_n 2, 1) := by decide +kernel
theorem dX3_rideStage_146 : decode cX3_rideStage 146 = .ok (.iadd, 1) := by decide +kernel
theorem dX3_rideStage_147 : decode cX3_rideStage 147 = .ok (.iadd, 1) := by decide +kernel
theorem dX3_rideStage_148 : decode cX3_rideStage 148 = .ok (.iastore, 1) := by decide +kernel
theorem dX3_rideStage_149 : decode cX3_rideStage 149 = .ok (.aload_n 0, 1) := by decide +kernel
theorem dX3_rideStage_150 : decode cX3_rideStage 150 = .ok (.getfield 37, 3) := by decide +kernel
theorem dX3_rideStage_153 : decode cX3_rideStage 153 = .ok (.iload_n 1, 1) := by decide +kernel
theorem dX3_rideStage_154 : decode cX3_rideStage 154 = .ok (.iload_n 3, 1) := by decide +kernel
theorem dX3_rideStage_155 : decode cX3_rideStage 155 = .ok (.iconst 1, 1) := by decide +kernel
theorem dX3_rideStage_156 : decode cX3_rideStage 156 = .ok (.iadd, 1) := by decide +kernel
theorem dX3_rideStage_157 : decode cX3_rideStage 157 = .ok (.iastore, 1) := by decide +kernel
theorem dX3_rideStage_158 : decode cX3_rideStage 158 = .ok (.return_, 1) := by decide +kernel
theorem dX3_drawWheel_0 : decode cX3_drawWheel 0 = .ok (.aload_n 0, 1) := by decide +kernel
theorem dX3_drawWheel_1 : decode cX3_drawWheel 1 = .ok (.aload_n 0, 1) := by decide +kernel
theorem dX3_drawWheel_2 : decode cX3_drawWheel 2 = .ok (.getfield 21, 3) := by decide +kernel
theorem dX3_drawWheel_5 : decode cX3_drawWheel 5 = .ok (.ldc 71, 2) := by decide +kernel
theorem dX3_drawWheel_7 : decode cX3_drawWheel 7 = .ok (.imul, 1) := by decide +kernel
theorem dX3_drawWheel_8 : decode cX3_drawWheel 8 = .ok (.sipush 12345, 3) := by decide +kernel
theorem dX3_drawWheel_11 : decode cX3_drawWheel 11 = .ok (.iadd, 1) := by decide +kernel
theorem dX3_drawWheel_12 : decode cX3_drawWheel 12 = .ok (.ldc 72, 2) := by decide +kernel
theorem dX3_drawWheel_14 : decode cX3_drawWheel 14 = .ok (.iand, 1) := by decide +kernel
theorem dX3_drawWheel_15 : decode cX3_drawWheel 15 = .ok (.putfield 21, 3) := by decide +kernel
theorem dX3_drawWheel_18 : decode cX3_drawWheel 18 = .ok (.aload_n 0, 1) := by decide +kernel
theorem dX3_drawWheel_19 : decode cX3_drawWheel 19 = .ok (.getfield 21, 3) := by decide +kernel
theorem dX3_drawWheel_22 : decode cX3_drawWheel 22 = .ok (.ldc 73, 2) := by decide +kernel
theorem dX3_drawWheel_24 : decode cX3_drawWheel 24 = .ok (.idiv, 1) := by decide +kernel
theorem dX3_drawWheel_25 : decode cX3_drawWheel 25 = .ok (.bipush 6, 2) := by decide +kernel
theorem dX3_drawWheel_27 : decode cX3_drawWheel 27 = .ok (.irem, 1) := by decide +kernel
theorem dX3_drawWheel_28 : decode cX3_drawWheel 28 = .ok (.ifCond .ne 7, 3) := by decide +kernel
theorem dX3_drawWheel_31 : decode cX3_drawWheel 31 = .ok (.iconst 1, 1) := by decide +kernel
theorem dX3_drawWheel_32 : decode cX3_drawWheel 32 = .ok (.goto 4, 3) := by decide +kernel
theorem dX3_drawWheel_35 : decode cX3_drawWheel 35 = .ok (.iconst 0, 1) := by decide +kernel
theorem dX3_drawWheel_36 : decode cX3_drawWheel 36 = .ok (.ireturn, 1) := by decide +kernel
theorem dX4_init_0 : decode cX4_init 0 = .ok (.aload_n 0, 1) := by decide +kernel
theorem dX4_init_1 : decode cX4_init 1 = .ok (.invokespecial 3, 3) := by decide +kernel
theorem dX4_init_4 : decode cX4_init 4 = .ok (.aload_n 0, 1) := by decide +kernel
theorem dX4_init_5 : decode cX4_init 5 = .ok (.new 9, 3) := by decide +kernel
theorem dX4_init_8 : decode cX4_init 8 = .ok (.dup, 1) := by decide +kernel
theorem dX4_init_9 : decode cX4_init 9 = .ok (.invokespecial 11, 3) := by decide +kernel
theorem dX4_init_12 : decode cX4_init 12 = .ok (.putfield 12, 3) := by decide +kernel
theorem dX4_init_15 : decode cX4_init 15 = .ok (.aload_n 0, 1) := by decide +kernel
theorem dX4_init_16 : decode cX4_init 16 = .ok (.bipush 90, 2) := by decide +kernel
theorem dX4_init_18 : decode cX4_init 18 = .ok (.newarray .int, 2) := by decide +kernel
theorem dX4_init_20 : decode cX4_init 20 = .ok (.putfield 18, 3) := by decide +kernel
theorem dX4_init_23 : decode cX4_init 23 = .ok (.aload_n 0, 1) := by decide +kernel
theorem dX4_init_24 : decode cX4_init 24 = .ok (.iconst 0, 1) := by decide +kernel
theorem dX4_init_25 : decode cX4_init 25 = .ok (.putfield 22, 3) := by decide +kernel
theorem dX4_init_28 : decode cX4_init 28 = .ok (.aload_n 0, 1) := by decide +kernel
theorem dX4_init_29 : decode cX4_init 29 = .ok (.iconst 0, 1) := by decide +kernel
theorem dX4_init_30 : decode cX4_init 30 = .ok (.putfield 26, 3) := by decide +kernel
theorem dX4_init_33 : decode cX4_init 33 = .ok (.return_, 1) := by decide +kernel
theorem dX4_isFull_0 : decode cX4_isFull 0 = .ok (.aload_n 0, 1) := by decide +kernel
theorem dX4_isFull_1 : decode cX4_isFull 1 = .ok (.getfield 22, 3) := by decide +kernel
theorem dX4_isFull_4 : decode cX4_isFull 4 = .ok (.bipush 90, 2) := by decide +kernel
theorem dX4_isFull_6 : decode cX4_isFull 6 = .ok (.if_icmp .lt 7, 3) := by decide +kernel
theorem dX4_isFull_9 : decode cX4_isFull 9 = .ok (.iconst 1, 1) := by decide +kernel
theorem dX4_isFull_10 : decode cX4_isFull 10 = .ok (.goto 4, 3) := by decide +kernel
theorem dX4_isFull_13 : decode cX4_isFull 13 = .ok (.iconst 0, 1) := by decide +kernel
theorem dX4_isFull_14 : decode cX4_isFull 14 = .ok (.ireturn, 1) := by decide +kernel
theorem dX4_append_0 : decode cX4_append 0 = .ok (.aload_n 0, 1) := by decide +kernel
theorem dX4_append_1 : decode cX4_append 1 = .ok (.getfield 18, 3) := by decide +kernel
theorem dX4_append_4 : decode cX4_append 4 = .ok (.aload_n 0, 1) := by decide +kernel
theorem dX4_append_5 : decode cX4_append 5 = .ok (.getfield 22, 3) := by decide +kernel
theorem dX4_append_8 : decode cX4_append 8 = .ok (.iload_n 1, 1) := by decide +kernel
theorem dX4_append_9 : decode cX4_append 9 = .ok (.iastore, 1) := by decide +kernel
theorem dX4_append_10 : decode cX4_append 10 = .ok (.aload_n 0, 1) := by decide +kernel
theorem dX4_append_11 : decode cX4_append 11 = .ok (.dup, 1) := by decide +kernel
theorem dX4_append_12 : decode cX4_append 12 = .ok (.getfield 22, 3) := by decide +kernel
theorem dX4_append_15 : decode cX4_append 15 = .ok (.iconst 1, 1) := by decide +kernel
theorem dX4_append_16 : decode cX4_append 16 = .ok (.iadd, 1) := by decide +kernel
theorem dX4_append_17 : decode cX4_append 17 = .ok (.putfield 22, 3) := by decide +kernel
theorem dX4_append_20 : decode cX4_append 20 = .ok (.aload_n 0, 1) := by decide +kernel
theorem dX4_append_21 : decode cX4_append 21 = .ok (.getfield 22, 3) := by decide +kernel
theorem dX4_append_24 : decode cX4_append 24 = .ok (.ireturn, 1) := by decide +kernel
theorem dX4_readRoad_0 : decode cX4_readRoad 0 = .ok (.aload_n 0, 1) := by decide +kernel
theorem dX4_readRoad_1 : decode cX4_readRoad 1 = .ok (.iconst 0, 1) := by decide +kernel
theorem dX4_readRoad_2 : decode cX4_readRoad 2 = .ok (.putfield 26, 3) := by decide +kernel
theorem dX4_readRoad_5 : decode cX4_readRoad 5 = .ok (.aload_n 0, 1) := by decide +kernel
theorem dX4_readRoad_6 : decode cX4_readRoad 6 = .ok (.getfield 12, 3) := by decide +kernel
theorem dX4_readRoad_9 : decode cX4_readRoad 9 = .ok (.iconst 0, 1) := by decide +kernel
theorem dX4_readRoad_10 : decode cX4_readRoad 10 = .ok (.putfield 29, 3) := by decide +kernel
theorem dX4_readRoad_13 : decode cX4_readRoad 13 = .ok (.aload_n 0, 1) := by decide +kernel
theorem dX4_readRoad_14 : decode cX4_readRoad 14 = .ok (.getfield 12, 3) := by decide +kernel
theorem dX4_readRoad_17 : decode cX4_readRoad 17 = .ok (.iconst 0, 1) := by decide +kernel
theorem dX4_readRoad_18 : decode cX4_readRoad 18 = .ok (.putfield 32, 3) := by decide +kernel
theorem dX4_readRoad_21 : decode cX4_readRoad 21 = .ok (.aload_n 0, 1) := by decide +kernel
theorem dX4_readRoad_22 : decode cX4_readRoad 22 = .ok (.invokevirtual 35, 3) := by decide +kernel
theorem dX4_readRoad_25 : decode cX4_readRoad 25 = .ok (.ifCond .eq 20, 3) := by decide +kernel
theorem dX4_readRoad_28 : decode cX4_readRoad 28 = .ok (.aload_n 0, 1) := by decide +kernel
theorem dX4_readRoad_29 : decode cX4_readRoad 29 = .ok (.invokevirtual 39, 3) := by decide +kernel
theorem dX4_readRoad_32 : decode cX4_readRoad 32 = .ok (.ifCond .eq 13, 3) := by decide +kernel
theorem dX4_readRoad_35 : decode cX4_readRoad 35 = .ok (.aload_n 0, 1) := by decide +kernel
theorem dX4_readRoad_36 : decode cX4_readRoad 36 = .ok (.getfield 12, 3) := by decide +kernel
theorem dX4_readRoad_39 : decode cX4_readRoad 39 = .ok (.getfield 32, 3) := by decide +kernel
theorem dX4_readRoad_42 : decode cX4_readRoad 42 = .ok (.goto 10, 3) := by decide +kernel
theorem dX4_readRoad_45 : decode cX4_readRoad 45 = .ok (.bipush (-20), 2) := by decide +kernel
theorem dX4_readRoad_47 : decode cX4_readRoad 47 = .ok (.aload_n 0, 1) := by decide +kernel
theorem dX4_readRoad_48 : decode cX4_readRoad 48 = .ok (.getfield 26, 3) := by decide +kernel
theorem dX4_readRoad_51 : decode cX4_readRoad 51 = .ok (.isub, 1) := by decide +kernel
theorem dX4_readRoad_52 : decode cX4_readRoad 52 = .ok (.istore_n 1, 1) := by decide +kernel
theorem dX4_readRoad_53 : decode cX4_readRoad 53 = .ok (.aload_n 0, 1) := by decide +kernel
theorem dX4_readRoad_54 : decode cX4_readRoad 54 = .ok (.iconst 0, 1) := by decide +kernel
theorem dX4_readRoad_55 : decode cX4_readRoad 55 = .ok (.putfield 22, 3) := by decide +kernel
theorem dX4_readRoad_58 : decode cX4_readRoad 58 = .ok (.iload_n 1, 1) := by decide +kernel
theorem dX4_readRoad_59 : decode cX4_readRoad 59 = .ok (.ireturn, 1) := by decide +kernel
theorem dX4_readStages_0 : decode cX4_readStages 0 = .ok (.iconst 0, 1) := by decide +kernel
theorem dX4_readStages_1 : decode cX4_readStages 1 = .ok (.istore_n 1, 1) := by decide +kernel
theorem dX4_readStages_2 : decode cX4_readStages 2 = .ok (.iload_n 1, 1) := by decide +kernel
theorem dX4_readStages_3 : decode cX4_readStages 3 = .ok (.bipush 8, 2) := by decide +kernel
theorem dX4_readStages_5 : decode cX4_readStages 5 = .ok (.if_icmp .ge 46, 3) := by decide +kernel
theorem dX4_readStages_8 : decode cX4_readStages 8 = .ok (.aload_n 0, 1) := by decide +kernel
theorem dX4_readStages_9 : decode cX4_readStages 9 = .ok (.invokevirtual 42, 3) := by decide +kernel
theorem dX4_readStages_12 : decode cX4_readStages 12 = .ok (.ifCond .ne 5, 3) := by decide +kernel
theorem dX4_readStages_15 : decode cX4_readStages 15 = .ok (.iconst 0, 1) := by decide +kernel
theorem dX4_readStages_16 : decode cX4_readStages 16 = .ok (.ireturn, 1) := by decide +kernel
theorem dX4_readStages_17 : decode cX4_readStages 17 = .ok (.aload_n 0, 1) := by decide +kernel
theorem dX4_readStages_18 : decode cX4_readStages 18 = .ok (.bipush 59, 2) := by decide +kernel
theorem dX4_readStages_20 : decode cX4_readStages 20 = .ok (.invokevirtual 45, 3) := by decide +kernel
theorem dX4_readStages_23 : decode cX4_readStages 23 = .ok (.ifCond .eq 5, 3) := by decide +kernel
theorem dX4_readStages_26 : decode cX4_readStages 26 = .ok (.iconst 1, 1) := by decide +kernel
theorem dX4_readStages_27 : decode cX4_readStages 27 = .ok (.ireturn, 1) := by decide +kernel
theorem dX4_readStages_28 : decode cX4_readStages 28 = .ok (.iload_n 1, 1) := by decide +kernel
theorem dX4_readStages_29 : decode cX4_readStages 29 = .ok (.bipush 7, 2) := by decide +kernel
theorem dX4_readStages_31 : decode cX4_readStages 31 = .ok (.if_icmp .eq 12, 3) := by decide +kernel
theorem dX4_readStages_34 : decode cX4_readStages 34 = .ok (.aload_n 0, 1) := by decide +kernel
theorem dX4_readStages_35 : decode cX4_readStages 35 = .ok (.bipush 44, 2) := by decide +kernel
theorem dX4_readStages_37 : decode cX4_readStages 37 = .ok (.invokevirtual 45, 3) := by decide +kernel
theorem dX4_readStages_40 : decode cX4_readStages 40 = .ok (.ifCond .ne 5, 3) := by decide +kernel
theorem dX4_readStages_43 : decode cX4_readStages 43 = .ok (.iconst 0, 1) := by decide +kernel
theorem dX4_readStages_44 : decode cX4_readStages 44 = .ok (.ireturn, 1) := by decide +kernel
theorem dX4_readStages_45 : decode cX4_readStages 45 = .ok (.iinc 1 1, 3) := by decide +kernel
theorem dX4_readStages_48 : decode cX4_readStages 48 = .ok (.goto (-46), 3) := by decide +kernel
theorem dX4_readStages_51 : decode cX4_readStages 51 = .ok (.iconst 0, 1) := by decide +kernel
theorem dX4_readStages_52 : decode cX4_readStages 52 = .ok (.ireturn, 1) := by decide +kernel
theorem dX4_readStage_0 : decode cX4_readStage 0 = .ok (.aload_n 0, 1) := by decide +kernel
theorem dX4_readStage_1 : decode cX4_readStage 1 = .ok (.iconst 1, 1) := by decide +kernel
theorem dX4_readStage_2 : decode cX4_readStage 2 = .ok (.bipush 9, 2) := by decide +kernel
theorem dX4_readStage_4 : decode cX4_readStage 4 = .ok (.invokevirtual 49, 3) := by decide +kernel
theorem dX4_readStage_7 : decode cX4_readStage 7 = .ok (.istore_n 1, 1) := by decide +kernel
theorem dX4_readStage_8 : decode cX4_readStage 8 = .ok (.iload_n 1, 1) := by decide +kernel
theorem dX4_readStage_9 : decode cX4_readStage 9 = .ok (.ifCond .ge 7, 3) := by decide +kernel
theorem dX4_readStage_12 : decode cX4_readStage 12 = .ok (.iconst (-1), 1) := by decide +kernel
theorem dX4_readStage_13 : decode cX4_readStage 13 = .ok (.goto 10, 3) := by decide +kernel
theorem dX4_readStage_16 : decode cX4_readStage 16 = .ok (.aload_n 0, 1) := by decide +kernel
theorem dX4_readStage_17 : decode cX4_readStage 17 = .ok (.iconst 0, 1) := by decide +kernel
theorem dX4_readStage_18 : decode cX4_readStage 18 = .ok (.bipush 9, 2) := by decide +kernel
theorem dX4_readStage_20 : decode cX4_readStage 20 = .ok (.invokevirtual 49, 3) := by decide +kernel
theorem dX4_readStage_23 : decode cX4_readStage 23 = .ok (.istore_n 2, 1) := by decide +kernel
theorem dX4_readStage_24 : decode cX4_readStage 24 = .ok (.iload_n 2, 1) := by decide +kernel
theorem dX4_readStage_25 : decode cX4_readStage 25 = .ok (.ifCond .ge 7, 3) := by decide +kernel
theorem dX4_readStage_28 : decode cX4_readStage 28 = .ok (.iconst (-1), 1) := by decide +kernel
theorem dX4_readStage_29 : decode cX4_readStage 29 = .ok (.goto 9, 3) := by decide +kernel
theorem dX4_readStage_32 : decode cX4_readStage 32 = .ok (.aload_n 0, 1) := by decide +kernel
theorem dX4_readStage_33 : decode cX4_readStage 33 = .ok (.iconst 0, 1) := by decide +kernel
theorem dX4_readStage_34 : decode cX4_readStage 34 = .ok (.iconst 4, 1) := by decide +kernel
theorem dX4_readStage_35 : decode cX4_readStage 35 = .ok (.invokevirtual 49, 3) := by decide +kernel
theorem dX4_readStage_38 : decode cX4_readStage 38 = .ok (.istore_n 3, 1) := by decide +kernel
theorem dX4_readStage_39 : decode cX4_readStage 39 = .ok (.iload_n 3, 1) := by decide +kernel
theorem dX4_readStage_40 : decode cX4_readStage 40 = .ok (.ifCond .ge 5, 3) := by decide +kernel
theorem dX4_readStage_43 : decode cX4_readStage 43 = .ok (.iconst 0, 1) := by decide +kernel
theorem dX4_readStage_44 : decode cX4_readStage 44 = .ok (.ireturn, 1) := by decide +kernel
theorem dX4_readStage_45 : decode cX4_readStage 45 = .ok (.aload_n 0, 1) := by decide +kernel
theorem dX4_readStage_46 : decode cX4_readStage 46 = .ok (.getfield 12, 3) := by decide +kernel
theorem dX4_readStage_49 : decode cX4_readStage 49 = .ok (.iload_n 1, 1) := by decide +kernel
theorem dX4_readStage_50 : decode cX4_readStage 50 = .ok (.iload_n 2, 1) := by decide +kernel
theorem dX4_readStage_51 : decode cX4_readStage 51 = .ok (.iload_n 3, 1) := by decide +kernel
theorem dX4_readStage_52 : decode cX4_readStage 52 = .ok (.invokevirtual 53, 3) := by decide +kernel
theorem dX4_readStage_55 : decode cX4_readStage 55 = .ok (.pop, 1) := by decide +kernel
theorem dX4_readStage_56 : decode cX4_readStage 56 = .ok (.iconst 1, 1) := by decide +kernel
theorem dX4_readStage_57 : decode cX4_readStage 57 = .ok (.ireturn, 1) := by decide +kernel
theorem dX4_readRiders_0 : decode cX4_readRiders 0 = .ok (.iconst 0, 1) := by decide +kernel
theorem dX4_readRiders_1 : decode cX4_readRiders 1 = .ok (.istore_n 1, 1) := by decide +kernel
theorem dX4_readRiders_2 : decode cX4_readRiders 2 = .ok (.iload_n 1, 1) := by decide +kernel
theorem dX4_readRiders_3 : decode cX4_readRiders 3 = .ok (.iconst 4, 1) := by decide +kernel
theorem dX4_readRiders_4 : decode cX4_readRiders 4 = .ok (.if_icmp .ge 43, 3) := by decide +kernel
theorem dX4_readRiders_7 : decode cX4_readRiders 7 = .ok (.aload_n 0, 1) := by decide +kernel
theorem dX4_readRiders_8 : decode cX4_readRiders 8 = .ok (.invokevirtual 57, 3) := by decide +kernel
theorem dX4_readRiders_11 : decode cX4_readRiders 11 = .ok (.ifCond .ne 5, 3) := by decide +kernel
theorem dX4_readRiders_14 : decode cX4_readRiders 14 = .ok (.iconst 0, 1) := by decide +kernel
theorem dX4_readRiders_15 : decode cX4_readRiders 15 = .ok (.ireturn, 1) := by decide +kernel
theorem dX4_readRiders_16 : decode cX4_readRiders 16 = .ok (.aload_n 0, 1) := by decide +kernel
theorem dX4_readRiders_17 : decode cX4_readRiders 17 = .ok (.invokevirtual 60, 3) := by decide +kernel
theorem dX4_readRiders_20 : decode cX4_readRiders 20 = .ok (.ifCond .ne 5, 3) := by decide +kernel
theorem dX4_readRiders_23 : decode cX4_readRiders 23 = .ok (.iconst 1, 1) := by decide +kernel
theorem dX4_readRiders_24 : decode cX4_readRiders 24 = .ok (.ireturn, 1) := by decide +kernel
theorem dX4_readRiders_25 : decode cX4_readRiders 25 = .ok (.iload_n 1, 1) := by decide +kernel
theorem dX4_readRiders_26 : decode cX4_readRiders 26 = .ok (.iconst 3, 1) := by decide +kernel
theorem dX4_readRiders_27 : decode cX4_readRiders 27 = .ok (.if_icmp .eq 12, 3) := by decide +kernel
theorem dX4_readRiders_30 : decode cX4_readRiders 30 = .ok (.aload_n 0, 1) := by decide +kernel
theorem dX4_readRiders_31 : decode cX4_readRiders 31 = .ok (.bipush 44, 2) := by decide +kernel
theorem dX4_readRiders_33 : decode cX4_readRiders 33 = .ok (.invokevirtual 45, 3) := by decide +kernel
theorem dX4_readRiders_36 : decode cX4_readRiders 36 = .ok (.ifCond .ne 5, 3) := by decide +kernel
theorem dX4_readRiders_39 : decode cX4_readRiders 39 = .ok (.iconst 0, 1) := by decide +kernel
theorem dX4_readRiders_40 : decode cX4_readRiders 40 = .ok (.ireturn, 1) := by decide +kernel
theorem dX4_readRiders_41 : decode cX4_readRiders 41 = .ok (.iinc 1 1, 3) := by decide +kernel
theorem dX4_readRiders_44 : decode cX4_readRiders 44 = .ok (.goto (-42), 3) := by decide +kernel
theorem dX4_readRiders_47 : decode cX4_readRiders 47 = .ok (.iconst 0, 1) := by decide +kernel
theorem dX4_readRiders_48 : decode cX4_readRiders 48 = .ok (.ireturn, 1) := by decide +kernel
theorem dX4_readRider_0 : decode cX4_readRider 0 = .ok (.aload_n 0, 1) := by decide +kernel
theorem dX4_readRider_1 : decode cX4_readRider 1 = .ok (.invokevirtual 60, 3) := by decide +kernel
theorem dX4_readRider_4 : decode cX4_readRider 4 = .ok (.invokestatic 64, 3) := by decide +kernel
theorem dX4_readRider_7 : decode cX4_readRider 7 = .ok (.istore_n 1, 1) := by decide +kernel
theorem dX4_readRider_8 : decode cX4_readRider 8 = .ok (.iload_n 1, 1) := by decide +kernel
theorem dX4_readRider_9 : decode cX4_readRider 9 = .ok (.ifCond .ge 5, 3) := by decide +kernel
theorem dX4_readRider_12 : decode cX4_readRider 12 = .ok (.iconst 0, 1) := by decide +kernel
theorem dX4_readRider_13 : decode cX4_readRider 13 = .ok (.ireturn, 1) := by decide +kernel
theorem dX4_readRider_14 : decode cX4_readRider 14 = .ok (.aload_n 0, 1) := by decide +kernel
theorem dX4_readRider_15 : decode cX4_readRider 15 = .ok (.dup, 1) := by decide +kernel
theorem dX4_readRider_16 : decode cX4_readRider 16 = .ok (.getfield 26, 3) := by decide +kernel
theorem dX4_readRider_19 : decode cX4_readRider 19 = .ok (.iconst 1, 1) := by decide +kernel
theorem dX4_readRider_20 : decode cX4_readRider 20 = .ok (.iadd, 1) := by decide +kernel
theorem dX4_readRider_21 : decode cX4_readRider 21 = .ok (.putfield 26, 3) := by decide +kernel
theorem dX4_readRider_24 : decode cX4_readRider 24 = .ok (.aload_n 0, 1) := by decide +kernel
theorem dX4_readRider_25 : decode cX4_readRider 25 = .ok (.sipush 999, 3) := by decide +kernel
theorem dX4_readRider_28 : decode cX4_readRider 28 = .ok (.invokevirtual 68, 3) := by decide +kernel
theorem dX4_readRider_31 : decode cX4_readRider 31 = .ok (.istore_n 2, 1) := by decide +kernel
theorem dX4_readRider_32 : decode cX4_readRider 32 = .ok (.iload_n 2, 1) := by decide +kernel
theorem dX4_readRider_33 : decode cX4_readRider 33 = .ok (.ifCond .lt 12, 3) := by decide +kernel
theorem dX4_readRider_36 : decode cX4_readRider 36 = .ok (.aload_n 0, 1) := by decide +kernel
theorem dX4_readRider_37 : decode cX4_readRider 37 = .ok (.bipush 47, 2) := by decide +kernel
theorem dX4_readRider_39 : decode cX4_readRider 39 = .ok (.invokevirtual 45, 3) := by decide +kernel
theorem dX4_readRider_42 : decode cX4_readRider 42 = .ok (.ifCond .ne 5, 3) := by decide +kernel
theorem dX4_readRider_45 : decode cX4_readRider 45 = .ok (.iconst 0, 1) := by decide +kernel
theorem dX4_readRider_46 : decode cX4_readRider 46 = .ok (.ireturn, 1) := by decide +kernel
theorem dX4_readRider_47 : decode cX4_readRider 47 = .ok (.aload_n 0, 1) := by decide +kernel
theorem dX4_readRider_48 : decode cX4_readRider 48 = .ok (.bipush 99, 2) := by decide +kernel
theorem dX4_readRider_50 : decode cX4_readRider 50 = .ok (.invokevirtual 68, 3) := by decide +kernel
theorem dX4_readRider_53 : decode cX4_readRider 53 = .ok (.istore_n 3, 1) := by decide +kernel
theorem dX4_readRider_54 : decode cX4_readRider 54 = .ok (.iload_n 3, 1) := by decide +kernel
theorem dX4_readRider_55 : decode cX4_readRider 55 = .ok (.ifCond .ge 5, 3) := by decide +kernel
theorem dX4_readRider_58 : decode cX4_readRider 58 = .ok (.iconst 0, 1) := by decide +kernel
theorem dX4_readRider_59 : decode cX4_readRider 59 = .ok (.ireturn, 1) := by decide +kernel
theorem dX4_readRider_60 : decode cX4_readRider 60 = .ok (.aload_n 0, 1) := by decide +kernel
theorem dX4_readRider_61 : decode cX4_readRider 61 = .ok (.getfield 12, 3) := by decide +kernel
theorem dX4_readRider_64 : decode cX4_readRider 64 = .ok (.iload_n 1, 1) := by decide +kernel
theorem dX4_readRider_65 : decode cX4_readRider 65 = .ok (.iload_n 2, 1) := by decide +kernel
theorem dX4_readRider_66 : decode cX4_readRider 66 = .ok (.iload_n 3, 1) := by decide +kernel
theorem dX4_readRider_67 : decode cX4_readRider 67 = .ok (.invokevirtual 71, 3) := by decide +kernel
theorem dX4_readRider_70 : decode cX4_readRider 70 = .ok (.istore 4, 2) := by decide +kernel
theorem dX4_readRider_72 : decode cX4_readRider 72 = .ok (.aload_n 0, 1) := by decide +kernel
theorem dX4_readRider_73 : decode cX4_readRider 73 = .ok (.bipush 58, 2) := by decide +kernel
theorem dX4_readRider_75 : decode cX4_readRider 75 = .ok (.invokevirtual 45, 3) := by decide +kernel
theorem dX4_readRider_78 : decode cX4_readRider 78 = .ok (.ifCond .eq 12, 3) := by decide +kernel
theorem dX4_readRider_81 : decode cX4_readRider 81 = .ok (.aload_n 0, 1) := by decide +kernel
theorem dX4_readRider_82 : decode cX4_readRider 82 = .ok (.iload 4, 2) := by decide +kernel
theorem dX4_readRider_84 : decode cX4_readRider 84 = .ok (.invokevirtual 74, 3) := by decide +kernel
theorem dX4_readRider_87 : decode cX4_readRider 87 = .ok (.ifCond .eq 7, 3) := by decide +kernel
theorem dX4_readRider_90 : decode cX4_readRider 90 = .ok (.iconst 1, 1) := by decide +kernel
theorem dX4_readRider_91 : decode cX4_readRider 91 = .ok (.goto 4, 3) := by decide +kernel
theorem dX4_readRider_94 : decode cX4_readRider 94 = .ok (.iconst 0, 1) := by decide +kernel
theorem dX4_readRider_95 : decode cX4_readRider 95 = .ok (.ireturn, 1) := by decide +kernel
theorem dX4_readBuying_0 : decode cX4_readBuying 0 = .ok (.iconst 0, 1) := by decide +kernel
theorem dX4_readBuying_1 : decode cX4_readBuying 1 = .ok (.istore_n 2, 1) := by decide +kernel
theorem dX4_readBuying_2 : decode cX4_readBuying 2 = .ok (.iconst 0, 1) := by decide +kernel
theorem dX4_readBuying_3 : decode cX4_readBuying 3 = .ok (.istore_n 3, 1) := by decide +kernel
theorem dX4_readBuying_4 : decode cX4_readBuying 4 = .ok (.iconst 0, 1) := by decide +kernel
theorem dX4_readBuying_5 : decode cX4_readBuying 5 = .ok (.istore 4, 2) := by decide +kernel
theorem dX4_readBuying_7 : decode cX4_readBuying 7 = .ok (.iload 4, 2) := by decide +kernel
theorem dX4_readBuying_9 : decode cX4_readBuying 9 = .ok (.bipush 8, 2) := by decide +kernel
theorem dX4_readBuying_11 : decode cX4_readBuying 11 = .ok (.if_icmp .ge 45, 3) := by decide +kernel
theorem dX4_readBuying_14 : decode cX4_readBuying 14 = .ok (.aload_n 0, 1) := by decide +kernel
theorem dX4_readBuying_15 : decode cX4_readBuying 15 = .ok (.iload_n 3, 1) := by decide +kernel
theorem dX4_readBuying_16 : decode cX4_readBuying 16 = .ok (.aload_n 0, 1) := by decide +kernel
theorem dX4_readBuying_17 : decode cX4_readBuying 17 = .ok (.getfield 12, 3) := by decide +kernel
theorem dX4_readBuying_20 : decode cX4_readBuying 20 = .ok (.getfield 29, 3) := by decide +kernel
theorem dX4_readBuying_23 : decode cX4_readBuying 23 = .ok (.iconst 1, 1) := by decide +kernel
theorem dX4_readBuying_24 : decode cX4_readBuying 24 = .ok (.isub, 1) := by decide +kernel
theorem dX4_readBuying_25 : decode cX4_readBuying 25 = .ok (.invokevirtual 49, 3) := by decide +kernel
theorem dX4_readBuying_28 : decode cX4_readBuying 28 = .ok (.istore 5, 2) := by decide +kernel
theorem dX4_readBuying_30 : decode cX4_readBuying 30 = .ok (.iload 5, 2) := by decide +kernel
theorem dX4_readBuying_32 : decode cX4_readBuying 32 = .ok (.ifCond .ge 6, 3) := by decide +kernel
theorem dX4_readBuying_35 : decode cX4_readBuying 35 = .ok (.goto 21, 3) := by decide +kernel
theorem dX4_readBuying_38 : decode cX4_readBuying 38 = .ok (.iload_n 2, 1) := by decide +kernel
theorem dX4_readBuying_39 : decode cX4_readBuying 39 = .ok (.iconst 1, 1) := by decide +kernel
theorem dX4_readBuying_40 : decode cX4_readBuying 40 = .ok (.iload 5, 2) := by decide +kernel
theorem dX4_readBuying_42 : decode cX4_readBuying 42 = .ok (.ishl, 1) := by decide +kernel
theorem dX4_readBuying_43 : decode cX4_readBuying 43 = .ok (.ior, 1) := by decide +kernel
theorem dX4_readBuying_44 : decode cX4_readBuying 44 = .ok (.istore_n 2, 1) := by decide +kernel
theorem dX4_readBuying_45 : decode cX4_readBuying 45 = .ok (.iload 5, 2) := by decide +kernel
theorem dX4_readBuying_47 : decode cX4_readBuying 47 = .ok (.iconst 1, 1) := by decide +kernel
theorem dX4_readBuying_48 : decode cX4_readBuying 48 = .ok (.iadd, 1) := by decide +kernel
theorem dX4_readBuying_49 : decode cX4_readBuying 49 = .ok (.istore_n 3, 1) := by decide +kernel
theorem dX4_readBuying_50 : decode cX4_readBuying 50 = .ok (.iinc 4 1, 3) := by decide +kernel
theorem dX4_readBuying_53 : decode cX4_readBuying 53 = .ok (.goto (-46), 3) := by decide +kernel
theorem dX4_readBuying_56 : decode cX4_readBuying 56 = .ok (.aload_n 0, 1) := by decide +kernel
theorem dX4_readBuying_57 : decode cX4_readBuying 57 = .ok (.getfield 12, 3) := by decide +kernel
theorem dX4_readBuying_60 : decode cX4_readBuying 60 = .ok (.getfield 77, 3) := by decide +kernel
theorem dX4_readBuying_63 : decode cX4_readBuying 63 = .ok (.iload_n 1, 1) := by decide +kernel
theorem dX4_readBuying_64 : decode cX4_readBuying 64 = .ok (.iload_n 2, 1) := by decide +kernel
theorem dX4_readBuying_65 : decode cX4_readBuying 65 = .ok (.iastore, 1) := by decide +kernel
theorem dX4_readBuying_66 : decode cX4_readBuying 66 = .ok (.iload_n 2, 1) := by decide +kernel
theorem dX4_readBuying_67 : decode cX4_readBuying 67 = .ok (.ifCond .eq 7, 3) := by decide +kernel
theorem dX4_readBuying_70 : decode cX4_readBuying 70 = .ok (.iconst 1, 1) := by decide +kernel
theorem dX4_readBuying_71 : decode cX4_readBuying 71 = .ok (.goto 4, 3) := by decide +kernel
theorem dX4_readBuying_74 : decode cX4_readBuying 74 = .ok (.iconst 0, 1) := by decide +kernel
theorem dX4_readBuying_75 : decode cX4_readBuying 75 = .ok (.ireturn, 1) := by decide +kernel
theorem dX4_readDigit_0 : decode cX4_readDigit 0 = .ok (.aload_n 0, 1) := by decide +kernel
theorem dX4_readDigit_1 : decode cX4_readDigit 1 = .ok (.invokevirtual 60, 3) := by decide +kernel
theorem dX4_readDigit_4 : decode cX4_readDigit 4 = .ok (.bipush 48, 2) := by decide +kernel
theorem dX4_readDigit_6 : decode cX4_readDigit 6 = .ok (.isub, 1) := by decide +kernel
theorem dX4_readDigit_7 : decode cX4_readDigit 7 = .ok (.istore_n 3, 1) := by decide +kernel
theorem dX4_readDigit_8 : decode cX4_readDigit 8 = .ok (.iload_n 3, 1) := by decide +kernel
theorem dX4_readDigit_9 : decode cX4_readDigit 9 = .ok (.iload_n 1, 1) := by decide +kernel
theorem dX4_readDigit_10 : decode cX4_readDigit 10 = .ok (.iload_n 2, 1) := by decide +kernel
theorem dX4_readDigit_11 : decode cX4_readDigit 11 = .ok (.invokestatic 80, 3) := by decide +kernel
theorem dX4_readDigit_14 : decode cX4_readDigit 14 = .ok (.ifCond .ne 5, 3) := by decide +kernel
theorem dX4_readDigit_17 : decode cX4_readDigit 17 = .ok (.iconst (-1), 1) := by decide +kernel
theorem dX4_readDigit_18 : decode cX4_readDigit 18 = .ok (.ireturn, 1) := by decide +kernel
theorem dX4_readDigit_19 : decode cX4_readDigit 19 = .ok (.aload_n 0, 1) := by decide +kernel
theorem dX4_readDigit_20 : decode cX4_readDigit 20 = .ok (.dup, 1) := by decide +kernel
theorem dX4_readDigit_21 : decode cX4_readDigit 21 = .ok (.getfield 26, 3) := by decide +kernel
theorem dX4_readDigit_24 : decode cX4_readDigit 24 = .ok (.iconst 1, 1) := by decide +kernel
theorem dX4_readDigit_25 : decode cX4_readDigit 25 = .ok (.iadd, 1) := by decide +kernel
theorem dX4_readDigit_26 : decode cX4_readDigit 26 = .ok (.putfield 26, 3) := by decide +kernel
theorem dX4_readDigit_29 : decode cX4_readDigit 29 = .ok (.iload_n 3, 1) := by decide +kernel
theorem dX4_readDigit_30 : decode cX4_readDigit 30 = .ok (.ireturn, 1) := by decide +kernel
theorem dX4_readNumber_0 : decode cX4_readNumber 0 = .ok (.aload_n 0, 1) := by decide +kernel
theorem dX4_readNumber_1 : decode cX4_readNumber 1 = .ok (.iconst 0, 1) := by decide +kernel
theorem dX4_readNumber_2 : decode cX4_readNumber 2 = .ok (.bipush 9, 2) := by decide +kernel
theorem dX4_readNumber_4 : decode cX4_readNumber 4 = .ok (.invokevirtual 49, 3) := by decide +kernel
theorem dX4_readNumber_7 : decode cX4_readNumber 7 = .ok (.istore_n 2, 1) := by decide +kernel
theorem dX4_readNumber_8 : decode cX4_readNumber 8 = .ok (.aload_n 0, 1) := by decide +kernel
theorem dX4_readNumber_9 : decode cX4_readNumber 9 = .ok (.getfield 26, 3) := by decide +kernel
theorem dX4_readNumber_12 : decode cX4_readNumber 12 = .ok (.iconst 1, 1) := by decide +kernel
theorem dX4_readNumber_13 : decode cX4_readNumber 13 = .ok (.isub, 1) := by decide +kernel
theorem dX4_readNumber_14 : decode cX4_readNumber 14 = .ok (.istore_n 3, 1) := by decide +kernel
theorem dX4_readNumber_15 : decode cX4_readNumber 15 = .ok (.iconst 1, 1) := by decide +kernel
theorem dX4_readNumber_16 : decode cX4_readNumber 16 = .ok (.istore 4, 2) := by decide +kernel
theorem dX4_readNumber_18 : decode cX4_readNumber 18 = .ok (.iload_n 2, 1) := by decide +kernel
theorem dX4_readNumber_19 : decode cX4_readNumber 19 = .ok (.ifCond .lt 73, 3) := by decide +kernel
theorem dX4_readNumber_22 : decode cX4_readNumber 22 = .ok (.iload 4, 2) := by decide +kernel
theorem dX4_readNumber_24 : decode cX4_readNumber 24 = .ok (.iconst 3, 1) := by decide +kernel
theorem dX4_readNumber_25 : decode cX4_readNumber 25 = .ok (.if_icmp .ge 67, 3) := by decide +kernel
theorem dX4_readNumber_28 : decode cX4_readNumber 28 = .ok (.aload_n 0, 1) := by decide +kernel
theorem dX4_readNumber_29 : decode cX4_readNumber 29 = .ok (.getfield 26, 3) := by decide +kernel
theorem dX4_readNumber_32 : decode cX4_readNumber 32 = .ok (.aload_n 0, 1) := by decide +kernel
theorem dX4_readNumber_33 : decode cX4_readNumber 33 = .ok (.getfield 22, 3) := by decide +kernel
theorem dX4_readNumber_36 : decode cX4_readNumber 36 = .ok (.if_icmp .ge 56, 3) := by decide +kernel
theorem dX4_readNumber_39 : decode cX4_readNumber 39 = .ok (.aload_n 0, 1) := by decide +kernel
theorem dX4_readNumber_40 : decode cX4_readNumber 40 = .ok (.getfield 18, 3) := by decide +kernel
theorem dX4_readNumber_43 : decode cX4_readNumber 43 = .ok (.aload_n 0, 1) := by decide +kernel
theorem dX4_readNumber_44 : decode cX4_readNumber 44 = .ok (.getfield 26, 3) := by decide +kernel
theorem dX4_readNumber_47 : decode cX4_readNumber 47 = .ok (.iaload, 1) := by decide +kernel
theorem dX4_readNumber_48 : decode cX4_readNumber 48 = .ok (.bipush 48, 2) := by decide +kernel
theorem dX4_readNumber_50 : decode cX4_readNumber 50 = .ok (.bipush 57, 2) := by decide +kernel
theorem dX4_readNumber_52 : decode cX4_readNumber 52 = .ok (.invokestatic 80, 3) := by decide +kernel
theorem dX4_readNumber_55 : decode cX4_readNumber 55 = .ok (.ifCond .eq 37, 3) := by decide +kernel
theorem dX4_readNumber_58 : decode cX4_readNumber 58 = .ok (.bipush 10, 2) := by decide +kernel
theorem dX4_readNumber_60 : decode cX4_readNumber 60 = .ok (.iload_n 2, 1) := by decide +kernel
theorem dX4_readNumber_61 : decode cX4_readNumber 61 = .ok (.imul, 1) := by decide +kernel
theorem dX4_readNumber_62 : decode cX4_readNumber 62 = .ok (.aload_n 0, 1) := by decide +kernel
theorem dX4_readNumber_63 : decode cX4_readNumber 63 = .ok (.getfield 18, 3) := by decide +kernel
theorem dX4_readNumber_66 : decode cX4_readNumber 66 = .ok (.aload_n 0, 1) := by decide +kernel
theorem dX4_readNumber_67 : decode cX4_readNumber 67 = .ok (.getfield 26, 3) := by decide +kernel
theorem dX4_readNumber_70 : decode cX4_readNumber 70 = .ok (.iaload, 1) := by decide +kernel
theorem dX4_readNumber_71 : decode cX4_readNumber 71 = .ok (.iadd, 1) := by decide +kernel
theorem dX4_readNumber_72 : decode cX4_readNumber 72 = .ok (.bipush 48, 2) := by decide +kernel
theorem dX4_readNumber_74 : decode cX4_readNumber 74 = .ok (.isub, 1) := by decide +kernel
theorem dX4_readNumber_75 : decode cX4_readNumber 75 = .ok (.istore_n 2, 1) := by decide +kernel
theorem dX4_readNumber_76 : decode cX4_readNumber 76 = .ok (.aload_n 0, 1) := by decide +kernel
theorem dX4_readNumber_77 : decode cX4_readNumber 77 = .ok (.dup, 1) := by decide +kernel
theorem dX4_readNumber_78 : decode cX4_readNumber 78 = .ok (.getfield 26, 3) := by decide +kernel
theorem dX4_readNumber_81 : decode cX4_readNumber 81 = .ok (.iconst 1, 1) := by decide +kernel
theorem dX4_readNumber_82 : decode cX4_readNumber 82 = .ok (.iadd, 1) := by decide +kernel
theorem dX4_readNumber_83 : decode cX4_readNumber 83 = .ok (.putfield 26, 3) := by decide +kernel
theorem dX4_readNumber_86 : decode cX4_readNumber 86 = .ok (.iinc 4 1, 3) := by decide +kernel
theorem dX4_readNumber_89 : decode cX4_readNumber 89 = .ok (.goto (-71), 3) := by decide +kernel
theorem dX4_readNumber_92 : decode cX4_readNumber 92 = .ok (.iload_n 2, 1) := by decide +kernel
theorem dX4_readNumber_93 : decode cX4_readNumber 93 = .ok (.iload_n 1, 1) := by decide +kernel
theorem dX4_readNumber_94 : decode cX4_readNumber 94 = .ok (.if_icmp .le 10, 3) := by decide +kernel
theorem dX4_readNumber_97 : decode cX4_readNumber 97 = .ok (.aload_n 0, 1) := by decide +kernel
theorem dX4_readNumber_98 : decode cX4_readNumber 98 = .ok (.iload_n 3, 1) := by decide +kernel
theorem dX4_readNumber_99 : decode cX4_readNumber 99 = .ok (.putfield 26, 3) := by decide +kernel
theorem dX4_readNumber_102 : decode cX4_readNumber 102 = .ok (.iconst (-1), 1) := by decide +kernel
theorem dX4_readNumber_103 : decode cX4_readNumber 103 = .ok (.ireturn, 1) := by decide +kernel
theorem dX4_readNumber_104 : decode cX4_readNumber 104 = .ok (.iload_n 2, 1) := by decide +kernel
theorem dX4_readNumber_105 : decode cX4_readNumber 105 = .ok (.ireturn, 1) := by decide +kernel
theorem dX4_takes_0 : decode cX4_takes 0 = .ok (.aload_n 0, 1) := by decide +kernel
theorem dX4_takes_1 : decode cX4_takes 1 = .ok (.invokevirtual 60, 3) := by decide +kernel
theorem dX4_takes_4 : decode cX4_takes 4 = .ok (.iload_n 1, 1) := by decide +kernel
theorem dX4_takes_5 : decode cX4_takes 5 = .ok (.if_icmp .eq 5, 3) := by decide +kernel
theorem dX4_takes_8 : decode cX4_takes 8 = .ok (.iconst 0, 1) := by decide +kernel
theorem dX4_takes_9 : decode cX4_takes 9 = .ok (.ireturn, 1) := by decide +kernel
theorem dX4_takes_10 : decode cX4_takes 10 = .ok (.aload_n 0, 1) := by decide +kernel
theorem dX4_takes_11 : decode cX4_takes 11 = .ok (.dup, 1) := by decide +kernel
theorem dX4_takes_12 : decode cX4_takes 12 = .ok (.getfield 26, 3) := by decide +kernel
theorem dX4_takes_15 : decode cX4_takes 15 = .ok (.iconst 1, 1) := by decide +kernel
theorem dX4_takes_16 : decode cX4_takes 16 = .ok (.iadd, 1) := by decide +kernel
theorem dX4_takes_17 : decode cX4_takes 17 = .ok (.putfield 26, 3) := by decide +kernel
theorem dX4_takes_20 : decode cX4_takes 20 = .ok (.iconst 1, 1) := by decide +kernel
theorem dX4_takes_21 : decode cX4_takes 21 = .ok (.ireturn, 1) := by decide +kernel
theorem dX4_letterHere_0 : decode cX4_letterHere 0 = .ok (.aload_n 0, 1) := by decide +kernel
theorem dX4_letterHere_1 : decode cX4_letterHere 1 = .ok (.getfield 26, 3) := by decide +kernel
theorem dX4_letterHere_4 : decode cX4_letterHere 4 = .ok (.aload_n 0, 1) := by decide +kernel
theorem dX4_letterHere_5 : decode cX4_letterHere 5 = .ok (.getfield 22, 3) := by decide +kernel
theorem dX4_letterHere_8 : decode cX4_letterHere 8 = .ok (.if_icmp .ge 30, 3) := by decide +kernel
theorem dX4_letterHere_11 : decode cX4_letterHere 11 = .ok (.aload_n 0, 1) := by decide +kernel
theorem dX4_letterHere_12 : decode cX4_letterHere 12 = .ok (.getfield 18, 3) := by decide +kernel
theorem dX4_letterHere_15 : decode cX4_letterHere 15 = .ok (.aload_n 0, 1) := by decide +kernel
theorem dX4_letterHere_16 : decode cX4_letterHere 16 = .ok (.getfield 26, 3) := by decide +kernel
theorem dX4_letterHere_19 : decode cX4_letterHere 19 = .ok (.iaload, 1) := by decide +kernel
theorem dX4_letterHere_20 : decode cX4_letterHere 20 = .ok (.bipush 32, 2) := by decide +kernel
theorem dX4_letterHere_22 : decode cX4_letterHere 22 = .ok (.if_icmp .ne 16, 3) := by decide +kernel
theorem dX4_letterHere_25 : decode cX4_letterHere 25 = .ok (.aload_n 0, 1) := by decide +kernel
theorem dX4_letterHere_26 : decode cX4_letterHere 26 = .ok (.dup, 1) := by decide +kernel
theorem dX4_letterHere_27 : decode cX4_letterHere 27 = .ok (.getfield 26, 3) := by decide +kernel
theorem dX4_letterHere_30 : decode cX4_letterHere 30 = .ok (.iconst 1, 1) := by decide +kernel
theorem dX4_letterHere_31 : decode cX4_letterHere 31 = .ok (.iadd, 1) := by decide +kernel
theorem dX4_letterHere_32 : decode cX4_letterHere 32 = .ok (.putfield 26, 3) := by decide +kernel
theorem dX4_letterHere_35 : decode cX4_letterHere 35 = .ok (.goto (-35), 3) := by decide +kernel
theorem dX4_letterHere_38 : decode cX4_letterHere 38 = .ok (.aload_n 0, 1) := by decide +kernel
theorem dX4_letterHere_39 : decode cX4_letterHere 39 = .ok (.getfield 26, 3) := by decide +kernel
theorem dX4_letterHere_42 : decode cX4_letterHere 42 = .ok (.aload_n 0, 1) := by decide +kernel
theorem dX4_letterHere_43 : decode cX4_letterHere 43 = .ok (.getfield 22, 3) := by decide +kernel
theorem dX4_letterHere_46 : decode cX4_letterHere 46 = .ok (.if_icmp .ge 15, 3) := by decide +kernel
theorem dX4_letterHere_49 : decode cX4_letterHere 49 = .ok (.aload_n 0, 1) := by decide +kernel
theorem dX4_letterHere_50 : decode cX4_letterHere 50 = .ok (.getfield 18, 3) := by decide +kernel
theorem dX4_letterHere_53 : decode cX4_letterHere 53 = .ok (.aload_n 0, 1) := by decide +kernel
theorem dX4_letterHere_54 : decode cX4_letterHere 54 = .ok (.getfield 26, 3) := by decide +kernel
theorem dX4_letterHere_57 : decode cX4_letterHere 57 = .ok (.iaload, 1) := by decide +kernel
theorem dX4_letterHere_58 : decode cX4_letterHere 58 = .ok (.goto 4, 3) := by decide +kernel
theorem dX4_letterHere_61 : decode cX4_letterHere 61 = .ok (.iconst 0, 1) := by decide +kernel
theorem dX4_letterHere_62 : decode cX4_letterHere 62 = .ok (.ireturn, 1) := by decide +kernel
theorem dX4_kindOf_0 : decode cX4_kindOf 0 = .ok (.iload_n 0, 1) := by decide +kernel
theorem dX4_kindOf_1 : decode cX4_kindOf 1 = .ok (.lookupswitch 61 #[(98, 57), (111, 55), (112, 51), (114, 59), (115, 53)], 51) := by decide +kernel
theorem dX4_kindOf_52 : decode cX4_kindOf 52 = .ok (.iconst 0, 1) := by decide +kernel
theorem dX4_kindOf_53 : decode cX4_kindOf 53 = .ok (.ireturn, 1) := by decide +kernel
theorem dX4_kindOf_54 : decode cX4_kindOf 54 = .ok (.iconst 1, 1) := by decide +kernel
theorem dX4_kindOf_55 : decode cX4_kindOf 55 = .ok (.ireturn, 1) := by decide +kernel
theorem dX4_kindOf_56 : decode cX4_kindOf 56 = .ok (.iconst 2, 1) := by decide +kernel
theorem dX4_kindOf_57 : decode cX4_kindOf 57 = .ok (.ireturn, 1) := by decide +kernel
theorem dX4_kindOf_58 : decode cX4_kindOf 58 = .ok (.iconst 3, 1) := by decide +kernel
theorem dX4_kindOf_59 : decode cX4_kindOf 59 = .ok (.ireturn, 1) := by decide +kernel
theorem dX4_kindOf_60 : decode cX4_kindOf 60 = .ok (.iconst 4, 1) := by decide +kernel
theorem dX4_kindOf_61 : decode cX4_kindOf 61 = .ok (.ireturn, 1) := by decide +kernel
theorem dX4_kindOf_62 : decode cX4_kindOf 62 = .ok (.iconst (-1), 1) := by decide +kernel
theorem dX4_kindOf_63 : decode cX4_kindOf 63 = .ok (.ireturn, 1) := by decide +kernel
theorem dJ6_bitCount_0f7a4_0 : decode cJ6_bitCount_0f7a4 0 = .ok (.iload_n 0, 1) := by decide +kernel
theorem dJ6_bitCount_0f7a4_1 : decode cJ6_bitCount_0f7a4 1 = .ok (.iload_n 0, 1) := by decide +kernel
theorem dJ6_bitCount_0f7a4_2 : decode cJ6_bitCount_0f7a4 2 = .ok (.iconst 1, 1) := by decide +kernel
theorem dJ6_bitCount_0f7a4_3 : decode cJ6_bitCount_0f7a4 3 = .ok (.iushr, 1) := by decide +kernel
theorem dJ6_bitCount_0f7a4_4 : decode cJ6_bitCount_0f7a4 4 = .ok (.ldc_w 265, 3) := by decide +kernel
theorem dJ6_bitCount_0f7a4_7 : decode cJ6_bitCount_0f7a4 7 = .ok (.iand, 1) := by decide +kernel
theorem dJ6_bitCount_0f7a4_8 : decode cJ6_bitCount_0f7a4 8 = .ok (.isub, 1) := by decide +kernel
theorem dJ6_bitCount_0f7a4_9 : decode cJ6_bitCount_0f7a4 9 = .ok (.istore_n 0, 1) := by decide +kernel
theorem dJ6_bitCount_0f7a4_10 : decode cJ6_bitCount_0f7a4 10 = .ok (.iload_n 0, 1) := by decide +kernel
theorem dJ6_bitCount_0f7a4_11 : decode cJ6_bitCount_0f7a4 11 = .ok (.ldc_w 266, 3) := by decide +kernel
theorem dJ6_bitCount_0f7a4_14 : decode cJ6_bitCount_0f7a4 14 = .ok (.iand, 1) := by decide +kernel
theorem dJ6_bitCount_0f7a4_15 : decode cJ6_bitCount_0f7a4 15 = .ok (.iload_n 0, 1) := by decide +kernel
theorem dJ6_bitCount_0f7a4_16 : decode cJ6_bitCount_0f7a4 16 = .ok (.iconst 2, 1) := by decide +kernel
theorem dJ6_bitCount_0f7a4_17 : decode cJ6_bitCount_0f7a4 17 = .ok (.iushr, 1) := by decide +kernel
theorem dJ6_bitCount_0f7a4_18 : decode cJ6_bitCount_0f7a4 18 = .ok (.ldc_w 266, 3) := by decide +kernel
theorem dJ6_bitCount_0f7a4_21 : decode cJ6_bitCount_0f7a4 21 = .ok (.iand, 1) := by decide +kernel
theorem dJ6_bitCount_0f7a4_22 : decode cJ6_bitCount_0f7a4 22 = .ok (.iadd, 1) := by decide +kernel
theorem dJ6_bitCount_0f7a4_23 : decode cJ6_bitCount_0f7a4 23 = .ok (.istore_n 0, 1) := by decide +kernel
theorem dJ6_bitCount_0f7a4_24 : decode cJ6_bitCount_0f7a4 24 = .ok (.iload_n 0, 1) := by decide +kernel
theorem dJ6_bitCount_0f7a4_25 : decode cJ6_bitCount_0f7a4 25 = .ok (.iload_n 0, 1) := by decide +kernel
theorem dJ6_bitCount_0f7a4_26 : decode cJ6_bitCount_0f7a4 26 = .ok (.iconst 4, 1) := by decide +kernel
theorem dJ6_bitCount_0f7a4_27 : decode cJ6_bitCount_0f7a4 27 = .ok (.iushr, 1) := by decide +kernel
theorem dJ6_bitCount_0f7a4_28 : decode cJ6_bitCount_0f7a4 28 = .ok (.iadd, 1) := by decide +kernel
theorem dJ6_bitCount_0f7a4_29 : decode cJ6_bitCount_0f7a4 29 = .ok (.ldc_w 267, 3) := by decide +kernel
theorem dJ6_bitCount_0f7a4_32 : decode cJ6_bitCount_0f7a4 32 = .ok (.iand, 1) := by decide +kernel
theorem dJ6_bitCount_0f7a4_33 : decode cJ6_bitCount_0f7a4 33 = .ok (.istore_n 0, 1) := by decide +kernel
theorem dJ6_bitCount_0f7a4_34 : decode cJ6_bitCount_0f7a4 34 = .ok (.iload_n 0, 1) := by decide +kernel
theorem dJ6_bitCount_0f7a4_35 : decode cJ6_bitCount_0f7a4 35 = .ok (.iload_n 0, 1) := by decide +kernel
theorem dJ6_bitCount_0f7a4_36 : decode cJ6_bitCount_0f7a4 36 = .ok (.bipush 8, 2) := by decide +kernel
theorem dJ6_bitCount_0f7a4_38 : decode cJ6_bitCount_0f7a4 38 = .ok (.iushr, 1) := by decide +kernel
theorem dJ6_bitCount_0f7a4_39 : decode cJ6_bitCount_0f7a4 39 = .ok (.iadd, 1) := by decide +kernel
theorem dJ6_bitCount_0f7a4_40 : decode cJ6_bitCount_0f7a4 40 = .ok (.istore_n 0, 1) := by decide +kernel
theorem dJ6_bitCount_0f7a4_41 : decode cJ6_bitCount_0f7a4 41 = .ok (.iload_n 0, 1) := by decide +kernel
theorem dJ6_bitCount_0f7a4_42 : decode cJ6_bitCount_0f7a4 42 = .ok (.iload_n 0, 1) := by decide +kernel
theorem dJ6_bitCount_0f7a4_43 : decode cJ6_bitCount_0f7a4 43 = .ok (.bipush 16, 2) := by decide +kernel
theorem dJ6_bitCount_0f7a4_45 : decode cJ6_bitCount_0f7a4 45 = .ok (.iushr, 1) := by decide +kernel
theorem dJ6_bitCount_0f7a4_46 : decode cJ6_bitCount_0f7a4 46 = .ok (.iadd, 1) := by decide +kernel
theorem dJ6_bitCount_0f7a4_47 : decode cJ6_bitCount_0f7a4 47 = .ok (.istore_n 0, 1) := by decide +kernel
theorem dJ6_bitCount_0f7a4_48 : decode cJ6_bitCount_0f7a4 48 = .ok (.iload_n 0, 1) := by decide +kernel
theorem dJ6_bitCount_0f7a4_49 : decode cJ6_bitCount_0f7a4 49 = .ok (.bipush 63, 2) := by decide +kernel
theorem dJ6_bitCount_0f7a4_51 : decode cJ6_bitCount_0f7a4 51 = .ok (.iand, 1) := by decide +kernel
theorem dJ6_bitCount_0f7a4_52 : decode cJ6_bitCount_0f7a4 52 = .ok (.ireturn, 1) := by decide +kernel
theorem dJ9_max_7cf53_0 : decode cJ9_max_7cf53 0 = .ok (.iload_n 0, 1) := by decide +kernel
theorem dJ9_max_7cf53_1 : decode cJ9_max_7cf53 1 = .ok (.iload_n 1, 1) := by decide +kernel
theorem dJ9_max_7cf53_2 : decode cJ9_max_7cf53 2 = .ok (.if_icmp .lt 7, 3) := by decide +kernel
theorem dJ9_max_7cf53_5 : decode cJ9_max_7cf53 5 = .ok (.iload_n 0, 1) := by decide +kernel
theorem dJ9_max_7cf53_6 : decode cJ9_max_7cf53 6 = .ok (.goto 4, 3) := by decide +kernel
theorem dJ9_max_7cf53_9 : decode cJ9_max_7cf53 9 = .ok (.iload_n 1, 1) := by decide +kernel
theorem dJ9_max_7cf53_10 : decode cJ9_max_7cf53 10 = .ok (.ireturn, 1) := by decide +kernel
theorem dJ9_min_7cf53_0 : decode cJ9_min_7cf53 0 = .ok (.iload_n 0, 1) := by decide +kernel
theorem dJ9_min_7cf53_1 : decode cJ9_min_7cf53 1 = .ok (.iload_n 1, 1) := by decide +kernel
theorem dJ9_min_7cf53_2 : decode cJ9_min_7cf53 2 = .ok (.if_icmp .gt 7, 3) := by decide +kernel
theorem dJ9_min_7cf53_5 : decode cJ9_min_7cf53 5 = .ok (.iload_n 0, 1) := by decide +kernel
theorem dJ9_min_7cf53_6 : decode cJ9_min_7cf53 6 = .ok (.goto 4, 3) := by decide +kernel
theorem dJ9_min_7cf53_9 : decode cJ9_min_7cf53 9 = .ok (.iload_n 1, 1) := by decide +kernel
theorem dJ9_min_7cf53_10 : decode cJ9_min_7cf53 10 = .ok (.ireturn, 1) := by decide +kernel
end
section
theorem dX5_init_0 : decode cX5_init 0 = .ok (.aload_n 0, 1) := by decide +kernel
theorem dX5_init_1 : decode cX5_init 1 = .ok (.invokespecial 1, 3) := by decide +kernel
theorem dX5_init_4 : decode cX5_init 4 = .ok (.aload_n 0, 1) := by decide +kernel
theorem dX5_init_5 : decode cX5_init 5 = .ok (.new 7, 3) := by decide +kernel
theorem dX5_init_8 : decode cX5_init 8 = .ok (.dup, 1) := by decide +kernel
theorem dX5_init_9 : decode cX5_init 9 = .ok (.invokespecial 9, 3) := by decide +kernel
theorem dX5_init_12 : decode cX5_init 12 = .ok (.putfield 10, 3) := by decide +kernel
theorem dX5_init_15 : decode cX5_init 15 = .ok (.aload_n 0, 1) := by decide +kernel
theorem dX5_init_16 : decode cX5_init 16 = .ok (.new 16, 3) := by decide +kernel
theorem dX5_init_19 : decode cX5_init 19 = .ok (.dup, 1) := by decide +kernel
theorem dX5_init_20 : decode cX5_init 20 = .ok (.invokespecial 18, 3) := by decide +kernel
theorem dX5_init_23 : decode cX5_init 23 = .ok (.putfield 19, 3) := by decide +kernel
theorem dX5_init_26 : decode cX5_init 26 = .ok (.aload_n 0, 1) := by decide +kernel
theorem dX5_init_27 : decode cX5_init 27 = .ok (.new 7, 3) := by decide +kernel
theorem dX5_init_30 : decode cX5_init 30 = .ok (.dup, 1) := by decide +kernel
theorem dX5_init_31 : decode cX5_init 31 = .ok (.invokespecial 9, 3) := by decide +kernel
theorem dX5_init_34 : decode cX5_init 34 = .ok (.putfield 23, 3) := by decide +kernel
theorem dX5_init_37 : decode cX5_init 37 = .ok (.aload_n 0, 1) := by decide +kernel
theorem dX5_init_38 : decode cX5_init 38 = .ok (.new 16, 3) := by decide +kernel
theorem dX5_init_41 : decode cX5_init 41 = .ok (.dup, 1) := by decide +kernel
theorem dX5_init_42 : decode cX5_init 42 = .ok (.invokespecial 18, 3) := by decide +kernel
theorem dX5_init_45 : decode cX5_init 45 = .ok (.putfield 26, 3) := by decide +kernel
theorem dX5_init_48 : decode cX5_init 48 = .ok (.aload_n 0, 1) := by decide +kernel
theorem dX5_init_49 : decode cX5_init 49 = .ok (.iconst 0, 1) := by decide +kernel
theorem dX5_init_50 : decode cX5_init 50 = .ok (.putfield 29, 3) := by decide +kernel
theorem dX5_init_53 : decode cX5_init 53 = .ok (.aload_n 0, 1) := by decide +kernel
theorem dX5_init_54 : decode cX5_init 54 = .ok (.new 33, 3) := by decide +kernel
theorem dX5_init_57 : decode cX5_init 57 = .ok (.dup, 1) := by decide +kernel
theorem dX5_init_58 : decode cX5_init 58 = .ok (.invokespecial 35, 3) := by decide +kernel
theorem dX5_init_61 : decode cX5_init 61 = .ok (.putfield 36, 3) := by decide +kernel
theorem dX5_init_64 : decode cX5_init 64 = .ok (.aload_n 0, 1) := by decide +kernel
theorem dX5_init_65 : decode cX5_init 65 = .ok (.new 40, 3) := by decide +kernel
theorem dX5_init_68 : decode cX5_init 68 = .ok (.dup, 1) := by decide +kernel
theorem dX5_init_69 : decode cX5_init 69 = .ok (.invokespecial 42, 3) := by decide +kernel
theorem dX5_init_72 : decode cX5_init 72 = .ok (.putfield 43, 3) := by decide +kernel
theorem dX5_init_75 : decode cX5_init 75 = .ok (.aload_n 0, 1) := by decide +kernel
theorem dX5_init_76 : decode cX5_init 76 = .ok (.iconst 4, 1) := by decide +kernel
theorem dX5_init_77 : decode cX5_init 77 = .ok (.anewarray 47, 3) := by decide +kernel
theorem dX5_init_80 : decode cX5_init 80 = .ok (.dup, 1) := by decide +kernel
theorem dX5_init_81 : decode cX5_init 81 = .ok (.iconst 0, 1) := by decide +kernel
theorem dX5_init_82 : decode cX5_init 82 = .ok (.new 47, 3) := by decide +kernel
theorem dX5_init_85 : decode cX5_init 85 = .ok (.dup, 1) := by decide +kernel
theorem dX5_init_86 : decode cX5_init 86 = .ok (.invokespecial 49, 3) := by decide +kernel
theorem dX5_init_89 : decode cX5_init 89 = .ok (.aastore, 1) := by decide +kernel
theorem dX5_init_90 : decode cX5_init 90 = .ok (.dup, 1) := by decide +kernel
theorem dX5_init_91 : decode cX5_init 91 = .ok (.iconst 1, 1) := by decide +kernel
theorem dX5_init_92 : decode cX5_init 92 = .ok (.new 47, 3) := by decide +kernel
theorem dX5_init_95 : decode cX5_init 95 = .ok (.dup, 1) := by decide +kernel
theorem dX5_init_96 : decode cX5_init 96 = .ok (.invokespecial 49, 3) := by decide +kernel
theorem dX5_init_99 : decode cX5_init 99 = .ok (.aastore, 1) := by decide +kernel
theorem dX5_init_100 : decode cX5_init 100 = .ok (.dup, 1) := by decide +kernel
theorem dX5_init_101 : decode cX5_init 101 = .ok (.iconst 2, 1) := by decide +kernel
theorem dX5_init_102 : decode cX5_init 102 = .ok (.new 47, 3) := by decide +kernel
theorem dX5_init_105 : decode cX5_init 105 = .ok (.dup, 1) := by decide +kernel
theorem dX5_init_106 : decode cX5_init 106 = .ok (.invokespecial 49, 3) := by decide +kernel
theorem dX5_init_109 : decode cX5_init 109 = .ok (.aastore, 1) := by decide +kernel
theorem dX5_init_110 : decode cX5_init 110 = .ok (.dup, 1) := by decide +kernel
theorem dX5_init_111 : decode cX5_init 111 = .ok (.iconst 3, 1) := by decide +kernel
theorem dX5_init_112 : decode cX5_init 112 = .ok (.new 47, 3) := by decide +kernel
theorem dX5_init_115 : decode cX5_init 115 = .ok (.dup, 1) := by decide +kernel
theorem dX5_init_116 : decode cX5_init 116 = .ok (.invokespecial 49, 3) := by decide +kernel
theorem dX5_init_119 : decode cX5_init 119 = .ok (.aastore, 1) := by decide +kernel
theorem dX5_init_120 : decode cX5_init 120 = .ok (.putfield 50, 3) := by decide +kernel
theorem dX5_init_123 : decode cX5_init 123 = .ok (.aload_n 0, 1) := by decide +kernel
theorem dX5_init_124 : decode cX5_init 124 = .ok (.bipush 81, 2) := by decide +kernel
theorem dX5_init_126 : decode cX5_init 126 = .ok (.newarray .int, 2) := by decide +kernel
theorem dX5_init_128 : decode cX5_init 128 = .ok (.putfield 54, 3) := by decide +kernel
theorem dX5_init_131 : decode cX5_init 131 = .ok (.aload_n 0, 1) := by decide +kernel
theorem dX5_init_132 : decode cX5_init 132 = .ok (.bipush 81, 2) := by decide +kernel
theorem dX5_init_134 : decode cX5_init 134 = .ok (.newarray .int, 2) := by decide +kernel
theorem dX5_init_136 : decode cX5_init 136 = .ok (.putfield 58, 3) := by decide +kernel
theorem dX5_init_139 : decode cX5_init 139 = .ok (.return_, 1) := by decide +kernel
theorem dX5_stage_0 : decode cX5_stage 0 = .ok (.iload_n 1, 1) := by decide +kernel
theorem dX5_stage_1 : decode cX5_stage 1 = .ok (.iconst 1, 1) := by decide +kernel
theorem dX5_stage_2 : decode cX5_stage 2 = .ok (.bipush 9, 2) := by decide +kernel
theorem dX5_stage_4 : decode cX5_stage 4 = .ok (.invokestatic 61, 3) := by decide +kernel
theorem dX5_stage_7 : decode cX5_stage 7 = .ok (.ifCond .eq 22, 3) := by decide +kernel
theorem dX5_stage_10 : decode cX5_stage 10 = .ok (.iload_n 2, 1) := by decide +kernel
theorem dX5_stage_11 : decode cX5_stage 11 = .ok (.iconst 0, 1) := by decide +kernel
theorem dX5_stage_12 : decode cX5_stage 12 = .ok (.bipush 9, 2) := by decide +kernel
theorem dX5_stage_14 : decode cX5_stage 14 = .ok (.invokestatic 61, 3) := by decide +kernel
theorem dX5_stage_17 : decode cX5_stage 17 = .ok (.ifCond .eq 12, 3) := by decide +kernel
theorem dX5_stage_20 : decode cX5_stage 20 = .ok (.iload_n 3, 1) := by decide +kernel
theorem dX5_stage_21 : decode cX5_stage 21 = .ok (.iconst 0, 1) := by decide +kernel
theorem dX5_stage_22 : decode cX5_stage 22 = .ok (.iconst 4, 1) := by decide +kernel
theorem dX5_stage_23 : decode cX5_stage 23 = .ok (.invokestatic 61, 3) := by decide +kernel
theorem dX5_stage_26 : decode cX5_stage 26 = .ok (.ifCond .ne 5, 3) := by decide +kernel
theorem dX5_stage_29 : decode cX5_stage 29 = .ok (.iconst (-1), 1) := by decide +kernel
theorem dX5_stage_30 : decode cX5_stage 30 = .ok (.ireturn, 1) := by decide +kernel
theorem dX5_stage_31 : decode cX5_stage 31 = .ok (.aload_n 0, 1) := by decide +kernel
theorem dX5_stage_32 : decode cX5_stage 32 = .ok (.getfield 10, 3) := by decide +kernel
theorem dX5_stage_35 : decode cX5_stage 35 = .ok (.getfield 65, 3) := by decide +kernel
theorem dX5_stage_38 : decode cX5_stage 38 = .ok (.bipush 8, 2) := by decide +kernel
theorem dX5_stage_40 : decode cX5_stage 40 = .ok (.if_icmp .lt 6, 3) := by decide +kernel
theorem dX5_stage_43 : decode cX5_stage 43 = .ok (.bipush (-3), 2) := by decide +kernel
theorem dX5_stage_45 : decode cX5_stage 45 = .ok (.ireturn, 1) := by decide +kernel
theorem dX5_stage_46 : decode cX5_stage 46 = .ok (.aload_n 0, 1) := by decide +kernel
theorem dX5_stage_47 : decode cX5_stage 47 = .ok (.getfield 19, 3) := by decide +kernel
theorem dX5_stage_50 : decode cX5_stage 50 = .ok (.invokevirtual 69, 3) := by decide +kernel
theorem dX5_stage_53 : decode cX5_stage 53 = .ok (.aload_n 0, 1) := by decide +kernel
theorem dX5_stage_54 : decode cX5_stage 54 = .ok (.getfield 10, 3) := by decide +kernel
theorem dX5_stage_57 : decode cX5_stage 57 = .ok (.iload_n 1, 1) := by decide +kernel
theorem dX5_stage_58 : decode cX5_stage 58 = .ok (.iload_n 2, 1) := by decide +kernel
theorem dX5_stage_59 : decode cX5_stage 59 = .ok (.iload_n 3, 1) := by decide +kernel
theorem dX5_stage_60 : decode cX5_stage 60 = .ok (.invokevirtual 72, 3) := by decide +kernel
theorem dX5_stage_63 : decode cX5_stage 63 = .ok (.ireturn, 1) := by decide +kernel
theorem dX5_rider_0 : decode cX5_rider 0 = .ok (.iload_n 1, 1) := by decide +kernel
theorem dX5_rider_1 : decode cX5_rider 1 = .ok (.iconst 0, 1) := by decide +kernel
theorem dX5_rider_2 : decode cX5_rider 2 = .ok (.iconst 4, 1) := by decide +kernel
theorem dX5_rider_3 : decode cX5_rider 3 = .ok (.invokestatic 61, 3) := by decide +kernel
theorem dX5_rider_6 : decode cX5_rider 6 = .ok (.ifCond .eq 24, 3) := by decide +kernel
theorem dX5_rider_9 : decode cX5_rider 9 = .ok (.iload_n 2, 1) := by decide +kernel
theorem dX5_rider_10 : decode cX5_rider 10 = .ok (.iconst 0, 1) := by decide +kernel
theorem dX5_rider_11 : decode cX5_rider 11 = .ok (.sipush 999, 3) := by decide +kernel
theorem dX5_rider_14 : decode cX5_rider 14 = .ok (.invokestatic 61, 3) := by decide +kernel
theorem dX5_rider_17 : decode cX5_rider 17 = .ok (.ifCond .eq 13, 3) := by decide +kernel
theorem dX5_rider_20 : decode cX5_rider 20 = .ok (.iload_n 3, 1) := by decide +kernel
theorem dX5_rider_21 : decode cX5_rider 21 = .ok (.iconst 0, 1) := by decide +kernel
theorem dX5_rider_22 : decode cX5_rider 22 = .ok (.bipush 99, 2) := by decide +kernel
theorem dX5_rider_24 : decode cX5_rider 24 = .ok (.invokestatic 61, 3) := by decide +kernel
theorem dX5_rider_27 : decode cX5_rider 27 = .ok (.ifCond .ne 5, 3) := by decide +kernel
theorem dX5_rider_30 : decode cX5_rider 30 = .ok (.iconst (-1), 1) := by decide +kernel
theorem dX5_rider_31 : decode cX5_rider 31 = .ok (.ireturn, 1) := by decide +kernel
theorem dX5_rider_32 : decode cX5_rider 32 = .ok (.aload_n 0, 1) := by decide +kernel
theorem dX5_rider_33 : decode cX5_rider 33 = .ok (.getfield 10, 3) := by decide +kernel
theorem dX5_rider_36 : decode cX5_rider 36 = .ok (.getfield 76, 3) := by decide +kernel
theorem dX5_rider_39 : decode cX5_rider 39 = .ok (.iconst 4, 1) := by decide +kernel
theorem dX5_rider_40 : decode cX5_rider 40 = .ok (.if_icmp .lt 6, 3) := by decide +kernel
theorem dX5_rider_43 : decode cX5_rider 43 = .ok (.bipush (-3), 2) := by decide +kernel
theorem dX5_rider_45 : decode cX5_rider 45 = .ok (.ireturn, 1) := by decide +kernel
theorem dX5_rider_46 : decode cX5_rider 46 = .ok (.aload_n 0, 1) := by decide +kernel
theorem dX5_rider_47 : decode cX5_rider 47 = .ok (.getfield 19, 3) := by decide +kernel
theorem dX5_rider_50 : decode cX5_rider 50 = .ok (.invokevirtual 69, 3) := by decide +kernel
theorem dX5_rider_53 : decode cX5_rider 53 = .ok (.aload_n 0, 1) := by decide +kernel
theorem dX5_rider_54 : decode cX5_rider 54 = .ok (.getfield 10, 3) := by decide +kernel
theorem dX5_rider_57 : decode cX5_rider 57 = .ok (.iload_n 1, 1) := by decide +kernel
theorem dX5_rider_58 : decode cX5_rider 58 = .ok (.iload_n 2, 1) := by decide +kernel
theorem dX5_rider_59 : decode cX5_rider 59 = .ok (.iload_n 3, 1) := by decide +kernel
theorem dX5_rider_60 : decode cX5_rider 60 = .ok (.invokevirtual 79, 3) := by decide +kernel
theorem dX5_rider_63 : decode cX5_rider 63 = .ok (.ireturn, 1) := by decide +kernel
theorem dX5_of_0 : decode cX5_of 0 = .ok (.iload_n 1, 1) := by decide +kernel
theorem dX5_of_1 : decode cX5_of 1 = .ok (.iconst 0, 1) := by decide +kernel
theorem dX5_of_2 : decode cX5_of 2 = .ok (.aload_n 0, 1) := by decide +kernel
theorem dX5_of_3 : decode cX5_of 3 = .ok (.getfield 10, 3) := by decide +kernel
theorem dX5_of_6 : decode cX5_of 6 = .ok (.getfield 65, 3) := by decide +kernel
theorem dX5_of_9 : decode cX5_of 9 = .ok (.iconst 1, 1) := by decide +kernel
theorem dX5_of_10 : decode cX5_of 10 = .ok (.isub, 1) := by decide +kernel
theorem dX5_of_11 : decode cX5_of 11 = .ok (.invokestatic 61, 3) := by decide +kernel
theorem dX5_of_14 : decode cX5_of 14 = .ok (.ifCond .ne 5, 3) := by decide +kernel
theorem dX5_of_17 : decode cX5_of 17 = .ok (.iconst (-1), 1) := by decide +kernel
theorem dX5_of_18 : decode cX5_of 18 = .ok (.ireturn, 1) := by decide +kernel
theorem dX5_of_19 : decode cX5_of 19 = .ok (.iload_n 2, 1) := by decide +kernel
theorem dX5_of_20 : decode cX5_of 20 = .ok (.tableswitch 58 0 2 #[28, 38, 48], 28) := by decide +kernel
theorem dX5_of_48 : decode cX5_of 48 = .ok (.aload_n 0, 1) := by decide +kernel
theorem dX5_of_49 : decode cX5_of 49 = .ok (.getfield 10, 3) := by decide +kernel
theorem dX5_of_52 : decode cX5_of 52 = .ok (.getfield 82, 3) := by decide +kernel
theorem dX5_of_55 : decode cX5_of 55 = .ok (.iload_n 1, 1) := by decide +kernel
theorem dX5_of_56 : decode cX5_of 56 = .ok (.iaload, 1) := by decide +kernel
theorem dX5_of_57 : decode cX5_of 57 = .ok (.ireturn, 1) := by decide +kernel
theorem dX5_of_58 : decode cX5_of 58 = .ok (.aload_n 0, 1) := by decide +kernel
theorem dX5_of_59 : decode cX5_of 59 = .ok (.getfield 10, 3) := by decide +kernel
theorem dX5_of_62 : decode cX5_of 62 = .ok (.getfield 85, 3) := by decide +kernel
theorem dX5_of_65 : decode cX5_of 65 = .ok (.iload_n 1, 1) := by decide +kernel
theorem dX5_of_66 : decode cX5_of 66 = .ok (.iaload, 1) := by decide +kernel
theorem dX5_of_67 : decode cX5_of 67 = .ok (.ireturn, 1) := by decide +kernel
theorem dX5_of_68 : decode cX5_of 68 = .ok (.aload_n 0, 1) := by decide +kernel
theorem dX5_of_69 : decode cX5_of 69 = .ok (.getfield 10, 3) := by decide +kernel
theorem dX5_of_72 : decode cX5_of 72 = .ok (.getfield 88, 3) := by decide +kernel
theorem dX5_of_75 : decode cX5_of 75 = .ok (.iload_n 1, 1) := by decide +kernel
theorem dX5_of_76 : decode cX5_of 76 = .ok (.iaload, 1) := by decide +kernel
theorem dX5_of_77 : decode cX5_of 77 = .ok (.ireturn, 1) := by decide +kernel
theorem dX5_of_78 : decode cX5_of 78 = .ok (.iconst (-1), 1) := by decide +kernel
theorem dX5_of_79 : decode cX5_of 79 = .ok (.ireturn, 1) := by decide +kernel
theorem dX5_at_0 : decode cX5_at 0 = .ok (.aload_n 0, 1) := by decide +kernel
theorem dX5_at_1 : decode cX5_at 1 = .ok (.iload_n 1, 1) := by decide +kernel
theorem dX5_at_2 : decode cX5_at 2 = .ok (.invokevirtual 91, 3) := by decide +kernel
theorem dX5_at_5 : decode cX5_at 5 = .ok (.ifCond .ne 5, 3) := by decide +kernel
theorem dX5_at_8 : decode cX5_at 8 = .ok (.iconst (-1), 1) := by decide +kernel
theorem dX5_at_9 : decode cX5_at 9 = .ok (.ireturn, 1) := by decide +kernel
theorem dX5_at_10 : decode cX5_at 10 = .ok (.iload_n 2, 1) := by decide +kernel
theorem dX5_at_11 : decode cX5_at 11 = .ok (.tableswitch 105 0 6 #[41, 51, 61, 71, 81, 91, 98], 41) := by decide +kernel
theorem dX5_at_52 : decode cX5_at 52 = .ok (.aload_n 0, 1) := by decide +kernel
theorem dX5_at_53 : decode cX5_at 53 = .ok (.getfield 10, 3) := by decide +kernel
theorem dX5_at_56 : decode cX5_at 56 = .ok (.getfield 95, 3) := by decide +kernel
theorem dX5_at_59 : decode cX5_at 59 = .ok (.iload_n 1, 1) := by decide +kernel
theorem dX5_at_60 : decode cX5_at 60 = .ok (.iaload, 1) := by decide +kernel
theorem dX5_at_61 : decode cX5_at 61 = .ok (.ireturn, 1) := by decide +kernel
theorem dX5_at_62 : decode cX5_at 62 = .ok (.aload_n 0, 1) := by decide +kernel
theorem dX5_at_63 : decode cX5_at 63 = .ok (.getfield 10, 3) := by decide +kernel
theorem dX5_at_66 : decode cX5_at 66 = .ok (.getfield 98, 3) := by decide +kernel
theorem dX5_at_69 : decode cX5_at 69 = .ok (.iload_n 1, 1) := by decide +kernel
theorem dX5_at_70 : decode cX5_at 70 = .ok (.iaload, 1) := by decide +kernel
theorem dX5_at_71 : decode cX5_at 71 = .ok (.ireturn, 1) := by decide +kernel
theorem dX5_at_72 : decode cX5_at 72 = .ok (.aload_n 0, 1) := by decide +kernel
theorem dX5_at_73 : decode cX5_at 73 = .ok (.getfield 10, 3) := by decide +kernel
theorem dX5_at_76 : decode cX5_at 76 = .ok (.getfield 101, 3) := by decide +kernel
theorem dX5_at_79 : decode cX5_at 79 = .ok (.iload_n 1, 1) := by decide +kernel
theorem dX5_at_80 : decode cX5_at 80 = .ok (.iaload, 1) := by decide +kernel
theorem dX5_at_81 : decode cX5_at 81 = .ok (.ireturn, 1) := by decide +kernel
theorem dX5_at_82 : decode cX5_at 82 = .ok (.aload_n 0, 1) := by decide +kernel
theorem dX5_at_83 : decode cX5_at 83 = .ok (.getfield 10, 3) := by decide +kernel
theorem dX5_at_86 : decode cX5_at 86 = .ok (.getfield 104, 3) := by decide +kernel
theorem dX5_at_89 : decode cX5_at 89 = .ok (.iload_n 1, 1) := by decide +kernel
theorem dX5_at_90 : decode cX5_at 90 = .ok (.iaload, 1) := by decide +kernel
theorem dX5_at_91 : decode cX5_at 91 = .ok (.ireturn, 1) := by decide +kernel
theorem dX5_at_92 : decode cX5_at 92 = .ok (.aload_n 0, 1) := by decide +kernel
theorem dX5_at_93 : decode cX5_at 93 = .ok (.getfield 10, 3) := by decide +kernel
theorem dX5_at_96 : decode cX5_at 96 = .ok (.getfield 107, 3) := by decide +kernel
theorem dX5_at_99 : decode cX5_at 99 = .ok (.iload_n 1, 1) := by decide +kernel
theorem dX5_at_100 : decode cX5_at 100 = .ok (.iaload, 1) := by decide +kernel
theorem dX5_at_101 : decode cX5_at 101 = .ok (.ireturn, 1) := by decide +kernel
theorem dX5_at_102 : decode cX5_at 102 = .ok (.aload_n 0, 1) := by decide +kernel
theorem dX5_at_103 : decode cX5_at 103 = .ok (.iload_n 1, 1) := by decide +kernel
theorem dX5_at_104 : decode cX5_at 104 = .ok (.iconst 1, 1) := by decide +kernel
theorem dX5_at_105 : decode cX5_at 105 = .ok (.invokevirtual 110, 3) := by decide +kernel
theorem dX5_at_108 : decode cX5_at 108 = .ok (.ireturn, 1) := by decide +kernel
theorem dX5_at_109 : decode cX5_at 109 = .ok (.aload_n 0, 1) := by decide +kernel
theorem dX5_at_110 : decode cX5_at 110 = .ok (.iload_n 1, 1) := by decide +kernel
theorem dX5_at_111 : decode cX5_at 111 = .ok (.iconst 0, 1) := by decide +kernel
theorem dX5_at_112 : decode cX5_at 112 = .ok (.invokevirtual 110, 3) := by decide +kernel
theorem dX5_at_115 : decode cX5_at 115 = .ok (.ireturn, 1) := by decide +kernel
theorem dX5_at_116 : decode cX5_at 116 = .ok (.iconst (-1), 1) := by decide +kernel
theorem dX5_at_117 : decode cX5_at 117 = .ok (.ireturn, 1) := by decide +kernel
theorem dX5_buys_0 : decode cX5_buys 0 = .ok (.aload_n 0, 1) := by decide +kernel
theorem dX5_buys_1 : decode cX5_buys 1 = .ok (.iload_n 1, 1) := by decide +kernel
theorem dX5_buys_2 : decode cX5_buys 2 = .ok (.invokevirtual 91, 3) := by decide +kernel
theorem dX5_buys_5 : decode cX5_buys 5 = .ok (.ifCond .eq 22, 3) := by decide +kernel
theorem dX5_buys_8 : decode cX5_buys 8 = .ok (.iload_n 2, 1) := by decide +kernel
theorem dX5_buys_9 : decode cX5_buys 9 = .ok (.iconst 0, 1) := by decide +kernel
theorem dX5_buys_10 : decode cX5_buys 10 = .ok (.iconst 1, 1) := by decide +kernel
theorem dX5_buys_11 : decode cX5_buys 11 = .ok (.aload_n 0, 1) := by decide +kernel
theorem dX5_buys_12 : decode cX5_buys 12 = .ok (.getfield 10, 3) := by decide +kernel
theorem dX5_buys_15 : decode cX5_buys 15 = .ok (.getfield 65, 3) := by decide +kernel
theorem dX5_buys_18 : decode cX5_buys 18 = .ok (.ishl, 1) := by decide +kernel
theorem dX5_buys_19 : decode cX5_buys 19 = .ok (.iconst 1, 1) := by decide +kernel
theorem dX5_buys_20 : decode cX5_buys 20 = .ok (.isub, 1) := by decide +kernel
theorem dX5_buys_21 : decode cX5_buys 21 = .ok (.invokestatic 61, 3) := by decide +kernel
theorem dX5_buys_24 : decode cX5_buys 24 = .ok (.ifCond .ne 5, 3) := by decide +kernel
theorem dX5_buys_27 : decode cX5_buys 27 = .ok (.iconst (-1), 1) := by decide +kernel
theorem dX5_buys_28 : decode cX5_buys 28 = .ok (.ireturn, 1) := by decide +kernel
theorem dX5_buys_29 : decode cX5_buys 29 = .ok (.aload_n 0, 1) := by decide +kernel
theorem dX5_buys_30 : decode cX5_buys 30 = .ok (.getfield 10, 3) := by decide +kernel
theorem dX5_buys_33 : decode cX5_buys 33 = .ok (.getfield 107, 3) := by decide +kernel
theorem dX5_buys_36 : decode cX5_buys 36 = .ok (.iload_n 1, 1) := by decide +kernel
theorem dX5_buys_37 : decode cX5_buys 37 = .ok (.iaload, 1) := by decide +kernel
theorem dX5_buys_38 : decode cX5_buys 38 = .ok (.istore_n 3, 1) := by decide +kernel
theorem dX5_buys_39 : decode cX5_buys 39 = .ok (.aload_n 0, 1) := by decide +kernel
theorem dX5_buys_40 : decode cX5_buys 40 = .ok (.getfield 10, 3) := by decide +kernel
theorem dX5_buys_43 : decode cX5_buys 43 = .ok (.getfield 107, 3) := by decide +kernel
theorem dX5_buys_46 : decode cX5_buys 46 = .ok (.iload_n 1, 1) := by decide +kernel
theorem dX5_buys_47 : decode cX5_buys 47 = .ok (.iload_n 2, 1) := by decide +kernel
theorem dX5_buys_48 : decode cX5_buys 48 = .ok (.iastore, 1) := by decide +kernel
theorem dX5_buys_49 : decode cX5_buys 49 = .ok (.iload_n 3, 1) := by decide +kernel
theorem dX5_buys_50 : decode cX5_buys 50 = .ok (.ireturn, 1) := by decide +kernel
theorem dX5_price_0 : decode cX5_price 0 = .ok (.iload_n 1, 1) := by decide +kernel
theorem dX5_price_1 : decode cX5_price 1 = .ok (.iconst 1, 1) := by decide +kernel
theorem dX5_price_2 : decode cX5_price 2 = .ok (.bipush 9, 2) := by decide +kernel
theorem dX5_price_4 : decode cX5_price 4 = .ok (.invokestatic 61, 3) := by decide +kernel
theorem dX5_price_7 : decode cX5_price 7 = .ok (.ifCond .ne 5, 3) := by decide +kernel
theorem dX5_price_10 : decode cX5_price 10 = .ok (.iconst (-1), 1) := by decide +kernel
theorem dX5_price_11 : decode cX5_price 11 = .ok (.ireturn, 1) := by decide +kernel
theorem dX5_price_12 : decode cX5_price 12 = .ok (.aload_n 0, 1) := by decide +kernel
theorem dX5_price_13 : decode cX5_price 13 = .ok (.getfield 10, 3) := by decide +kernel
theorem dX5_price_16 : decode cX5_price 16 = .ok (.getfield 114, 3) := by decide +kernel
theorem dX5_price_19 : decode cX5_price 19 = .ok (.istore_n 2, 1) := by decide +kernel
theorem dX5_price_20 : decode cX5_price 20 = .ok (.aload_n 0, 1) := by decide +kernel
theorem dX5_price_21 : decode cX5_price 21 = .ok (.getfield 10, 3) := by decide +kernel
theorem dX5_price_24 : decode cX5_price 24 = .ok (.iload_n 1, 1) := by decide +kernel
theorem dX5_price_25 : decode cX5_price 25 = .ok (.putfield 114, 3) := by decide +kernel
theorem dX5_price_28 : decode cX5_price 28 = .ok (.iload_n 2, 1) := by decide +kernel
theorem dX5_price_29 : decode cX5_price 29 = .ok (.ireturn, 1) := by decide +kernel
theorem dX5_type_0 : decode cX5_type 0 = .ok (.iload_n 1, 1) := by decide +kernel
theorem dX5_type_1 : decode cX5_type 1 = .ok (.bipush 32, 2) := by decide +kernel
theorem dX5_type_3 : decode cX5_type 3 = .ok (.bipush 126, 2) := by decide +kernel
theorem dX5_type_5 : decode cX5_type 5 = .ok (.invokestatic 61, 3) := by decide +kernel
theorem dX5_type_8 : decode cX5_type 8 = .ok (.ifCond .ne 5, 3) := by decide +kernel
theorem dX5_type_11 : decode cX5_type 11 = .ok (.iconst (-1), 1) := by decide +kernel
theorem dX5_type_12 : decode cX5_type 12 = .ok (.ireturn, 1) := by decide +kernel
theorem dX5_type_13 : decode cX5_type 13 = .ok (.aload_n 0, 1) := by decide +kernel
theorem dX5_type_14 : decode cX5_type 14 = .ok (.getfield 43, 3) := by decide +kernel
theorem dX5_type_17 : decode cX5_type 17 = .ok (.invokevirtual 117, 3) := by decide +kernel
theorem dX5_type_20 : decode cX5_type 20 = .ok (.ifCond .eq 8, 3) := by decide +kernel
theorem dX5_type_23 : decode cX5_type 23 = .ok (.bipush (-3), 2) := by decide +kernel
theorem dX5_type_25 : decode cX5_type 25 = .ok (.goto 11, 3) := by decide +kernel
theorem dX5_type_28 : decode cX5_type 28 = .ok (.aload_n 0, 1) := by decide +kernel
theorem dX5_type_29 : decode cX5_type 29 = .ok (.getfield 43, 3) := by decide +kernel
theorem dX5_type_32 : decode cX5_type 32 = .ok (.iload_n 1, 1) := by decide +kernel
theorem dX5_type_33 : decode cX5_type 33 = .ok (.invokevirtual 121, 3) := by decide +kernel
theorem dX5_type_36 : decode cX5_type 36 = .ok (.ireturn, 1) := by decide +kernel
theorem dX5_road_0 : decode cX5_road 0 = .ok (.aload_n 0, 1) := by decide +kernel
theorem dX5_road_1 : decode cX5_road 1 = .ok (.getfield 43, 3) := by decide +kernel
theorem dX5_road_4 : decode cX5_road 4 = .ok (.invokevirtual 125, 3) := by decide +kernel
theorem dX5_road_7 : decode cX5_road 7 = .ok (.istore_n 1, 1) := by decide +kernel
theorem dX5_road_8 : decode cX5_road 8 = .ok (.iload_n 1, 1) := by decide +kernel
theorem dX5_road_9 : decode cX5_road 9 = .ok (.ifCond .lt 24, 3) := by decide +kernel
theorem dX5_road_12 : decode cX5_road 12 = .ok (.aload_n 0, 1) := by decide +kernel
theorem dX5_road_13 : decode cX5_road 13 = .ok (.getfield 10, 3) := by decide +kernel
theorem dX5_road_16 : decode cX5_road 16 = .ok (.aload_n 0, 1) := by decide +kernel
theorem dX5_road_17 : decode cX5_road 17 = .ok (.getfield 43, 3) := by decide +kernel
theorem dX5_road_20 : decode cX5_road 20 = .ok (.getfield 129, 3) := by decide +kernel
theorem dX5_road_23 : decode cX5_road 23 = .ok (.invokevirtual 132, 3) := by decide +kernel
theorem dX5_road_26 : decode cX5_road 26 = .ok (.aload_n 0, 1) := by decide +kernel
theorem dX5_road_27 : decode cX5_road 27 = .ok (.getfield 19, 3) := by decide +kernel
theorem dX5_road_30 : decode cX5_road 30 = .ok (.invokevirtual 69, 3) := by decide +kernel
theorem dX5_road_33 : decode cX5_road 33 = .ok (.iload_n 1, 1) := by decide +kernel
theorem dX5_road_34 : decode cX5_road 34 = .ok (.ireturn, 1) := by decide +kernel
theorem dX5_count_0 : decode cX5_count 0 = .ok (.iload_n 1, 1) := by decide +kernel
theorem dX5_count_1 : decode cX5_count 1 = .ok (.tableswitch 131 0 7 #[47, 55, 63, 71, 79, 87, 105, 123], 47) := by decide +kernel
theorem dX5_count_48 : decode cX5_count 48 = .ok (.aload_n 0, 1) := by decide +kernel
theorem dX5_count_49 : decode cX5_count 49 = .ok (.getfield 10, 3) := by decide +kernel
theorem dX5_count_52 : decode cX5_count 52 = .ok (.getfield 65, 3) := by decide +kernel
theorem dX5_count_55 : decode cX5_count 55 = .ok (.ireturn, 1) := by decide +kernel
theorem dX5_count_56 : decode cX5_count 56 = .ok (.aload_n 0, 1) := by decide +kernel
theorem dX5_count_57 : decode cX5_count 57 = .ok (.getfield 10, 3) := by decide +kernel
theorem dX5_count_60 : decode cX5_count 60 = .ok (.getfield 76, 3) := by decide +kernel
theorem dX5_count_63 : decode cX5_count 63 = .ok (.ireturn, 1) := by decide +kernel
theorem dX5_count_64 : decode cX5_count 64 = .ok (.aload_n 0, 1) := by decide +kernel
theorem dX5_count_65 : decode cX5_count 65 = .ok (.getfield 10, 3) := by decide +kernel
theorem dX5_count_68 : decode cX5_count 68 = .ok (.getfield 114, 3) := by decide +kernel
theorem dX5_count_71 : decode cX5_count 71 = .ok (.ireturn, 1) := by decide +kernel
theorem dX5_count_72 : decode cX5_count 72 = .ok (.aload_n 0, 1) := by decide +kernel
theorem dX5_count_73 : decode cX5_count 73 = .ok (.getfield 10, 3) := by decide +kernel
theorem dX5_count_76 : decode cX5_count 76 = .ok (.invokevirtual 136, 3) := by decide +kernel
theorem dX5_count_79 : decode cX5_count 79 = .ok (.ireturn, 1) := by decide +kernel
theorem dX5_count_80 : decode cX5_count 80 = .ok (.aload_n 0, 1) := by decide +kernel
theorem dX5_count_81 : decode cX5_count 81 = .ok (.getfield 10, 3) := by decide +kernel
theorem dX5_count_84 : decode cX5_count 84 = .ok (.invokevirtual 139, 3) := by decide +kernel
theorem dX5_count_87 : decode cX5_count 87 = .ok (.ireturn, 1) := by decide +kernel
theorem dX5_count_88 : decode cX5_count 88 = .ok (.aload_n 0, 1) := by decide +kernel
theorem dX5_count_89 : decode cX5_count 89 = .ok (.getfield 10, 3) := by decide +kernel
theorem dX5_count_92 : decode cX5_count 92 = .ok (.getfield 104, 3) := by decide +kernel
theorem dX5_count_95 : decode cX5_count 95 = .ok (.aload_n 0, 1) := by decide +kernel
theorem dX5_count_96 : decode cX5_count 96 = .ok (.getfield 10, 3) := by decide +kernel
theorem dX5_count_99 : decode cX5_count 99 = .ok (.getfield 76, 3) := by decide +kernel
theorem dX5_count_102 : decode cX5_count 102 = .ok (.invokestatic 142, 3) := by decide +kernel
theorem dX5_count_105 : decode cX5_count 105 = .ok (.ireturn, 1) := by decide +kernel
theorem dX5_count_106 : decode cX5_count 106 = .ok (.aload_n 0, 1) := by decide +kernel
theorem dX5_count_107 : decode cX5_count 107 = .ok (.getfield 10, 3) := by decide +kernel
theorem dX5_count_110 : decode cX5_count 110 = .ok (.getfield 88, 3) := by decide +kernel
theorem dX5_count_113 : decode cX5_count 113 = .ok (.aload_n 0, 1) := by decide +kernel
theorem dX5_count_114 : decode cX5_count 114 = .ok (.getfield 10, 3) := by decide +kernel
theorem dX5_count_117 : decode cX5_count 117 = .ok (.getfield 65, 3) := by decide +kernel
theorem dX5_count_120 : decode cX5_count 120 = .ok (.invokestatic 142, 3) := by decide +kernel
theorem dX5_count_123 : decode cX5_count 123 = .ok (.ireturn, 1) := by decide +kernel
theorem dX5_count_124 : decode cX5_count 124 = .ok (.aload_n 0, 1) := by decide +kernel
theorem dX5_count_125 : decode cX5_count 125 = .ok (.getfield 19, 3) := by decide +kernel
theorem dX5_count_128 : decode cX5_count 128 = .ok (.getfield 146, 3) := by decide +kernel
theorem dX5_count_131 : decode cX5_count 131 = .ok (.ireturn, 1) := by decide +kernel
theorem dX5_count_132 : decode cX5_count 132 = .ok (.iconst (-1), 1) := by decide +kernel
theorem dX5_count_133 : decode cX5_count 133 = .ok (.ireturn, 1) := by decide +kernel
theorem dX5_ride_0 : decode cX5_ride 0 = .ok (.iload_n 1, 1) := by decide +kernel
theorem dX5_ride_1 : decode cX5_ride 1 = .ok (.iconst 1, 1) := by decide +kernel
theorem dX5_ride_2 : decode cX5_ride 2 = .ok (.bipush 32, 2) := by decide +kernel
theorem dX5_ride_4 : decode cX5_ride 4 = .ok (.invokestatic 61, 3) := by decide +kernel
theorem dX5_ride_7 : decode cX5_ride 7 = .ok (.ifCond .ne 5, 3) := by decide +kernel
theorem dX5_ride_10 : decode cX5_ride 10 = .ok (.iconst (-1), 1) := by decide +kernel
theorem dX5_ride_11 : decode cX5_ride 11 = .ok (.ireturn, 1) := by decide +kernel
theorem dX5_ride_12 : decode cX5_ride 12 = .ok (.aload_n 0, 1) := by decide +kernel
theorem dX5_ride_13 : decode cX5_ride 13 = .ok (.getfield 10, 3) := by decide +kernel
theorem dX5_ride_16 : decode cX5_ride 16 = .ok (.invokevirtual 139, 3) := by decide +kernel
theorem dX5_ride_19 : decode cX5_ride 19 = .ok (.ifCond .ge 6, 3) := by decide +kernel
theorem dX5_ride_22 : decode cX5_ride 22 = .ok (.bipush (-2), 2) := by decide +kernel
theorem dX5_ride_24 : decode cX5_ride 24 = .ok (.ireturn, 1) := by decide +kernel
theorem dX5_ride_25 : decode cX5_ride 25 = .ok (.iconst 0, 1) := by decide +kernel
theorem dX5_ride_26 : decode cX5_ride 26 = .ok (.istore_n 2, 1) := by decide +kernel
theorem dX5_ride_27 : decode cX5_ride 27 = .ok (.iconst 0, 1) := by decide +kernel
theorem dX5_ride_28 : decode cX5_ride 28 = .ok (.istore_n 3, 1) := by decide +kernel
theorem dX5_ride_29 : decode cX5_ride 29 = .ok (.iload_n 3, 1) := by decide +kernel
theorem dX5_ride_30 : decode cX5_ride 30 = .ok (.iload_n 1, 1) := by decide +kernel
theorem dX5_ride_31 : decode cX5_ride 31 = .ok (.if_icmp .ge 50, 3) := by decide +kernel
theorem dX5_ride_34 : decode cX5_ride 34 = .ok (.aload_n 0, 1) := by decide +kernel
theorem dX5_ride_35 : decode cX5_ride 35 = .ok (.getfield 10, 3) := by decide +kernel
theorem dX5_ride_38 : decode cX5_ride 38 = .ok (.invokevirtual 139, 3) := by decide +kernel
theorem dX5_ride_41 : decode cX5_ride 41 = .ok (.istore 4, 2) := by decide +kernel
theorem dX5_ride_43 : decode cX5_ride 43 = .ok (.iload 4, 2) := by decide +kernel
theorem dX5_ride_45 : decode cX5_ride 45 = .ok (.ifCond .ge 6, 3) := by decide +kernel
theorem dX5_ride_48 : decode cX5_ride 48 = .ok (.goto 33, 3) := by decide +kernel
theorem dX5_ride_51 : decode cX5_ride 51 = .ok (.aload_n 0, 1) := by decide +kernel
theorem dX5_ride_52 : decode cX5_ride 52 = .ok (.getfield 19, 3) := by decide +kernel
theorem dX5_ride_55 : decode cX5_ride 55 = .ok (.aload_n 0, 1) := by decide +kernel
theorem dX5_ride_56 : decode cX5_ride 56 = .ok (.getfield 10, 3) := by decide +kernel
theorem dX5_ride_59 : decode cX5_ride 59 = .ok (.invokevirtual 149, 3) := by decide +kernel
theorem dX5_ride_62 : decode cX5_ride 62 = .ok (.aload_n 0, 1) := by decide +kernel
theorem dX5_ride_63 : decode cX5_ride 63 = .ok (.getfield 10, 3) := by decide +kernel
theorem dX5_ride_66 : decode cX5_ride 66 = .ok (.iload 4, 2) := by decide +kernel
theorem dX5_ride_68 : decode cX5_ride 68 = .ok (.iconst 0, 1) := by decide +kernel
theorem dX5_ride_69 : decode cX5_ride 69 = .ok (.invokevirtual 152, 3) := by decide +kernel
theorem dX5_ride_72 : decode cX5_ride 72 = .ok (.iinc 2 1, 3) := by decide +kernel
theorem dX5_ride_75 : decode cX5_ride 75 = .ok (.iinc 3 1, 3) := by decide +kernel
theorem dX5_ride_78 : decode cX5_ride 78 = .ok (.goto (-49), 3) := by decide +kernel
theorem dX5_ride_81 : decode cX5_ride 81 = .ok (.iload_n 2, 1) := by decide +kernel
theorem dX5_ride_82 : decode cX5_ride 82 = .ok (.ireturn, 1) := by decide +kernel
theorem dX5_wheel_0 : decode cX5_wheel 0 = .ok (.aload_n 0, 1) := by decide +kernel
theorem dX5_wheel_1 : decode cX5_wheel 1 = .ok (.iload_n 1, 1) := by decide +kernel
theorem dX5_wheel_2 : decode cX5_wheel 2 = .ok (.invokevirtual 91, 3) := by decide +kernel
theorem dX5_wheel_5 : decode cX5_wheel 5 = .ok (.ifCond .ne 5, 3) := by decide +kernel
theorem dX5_wheel_8 : decode cX5_wheel 8 = .ok (.iconst (-1), 1) := by decide +kernel
theorem dX5_wheel_9 : decode cX5_wheel 9 = .ok (.ireturn, 1) := by decide +kernel
theorem dX5_wheel_10 : decode cX5_wheel 10 = .ok (.aload_n 0, 1) := by decide +kernel
theorem dX5_wheel_11 : decode cX5_wheel 11 = .ok (.getfield 10, 3) := by decide +kernel
theorem dX5_wheel_14 : decode cX5_wheel 14 = .ok (.iload_n 1, 1) := by decide +kernel
theorem dX5_wheel_15 : decode cX5_wheel 15 = .ok (.invokevirtual 156, 3) := by decide +kernel
theorem dX5_wheel_18 : decode cX5_wheel 18 = .ok (.ifCond .eq 6, 3) := by decide +kernel
theorem dX5_wheel_21 : decode cX5_wheel 21 = .ok (.bipush (-2), 2) := by decide +kernel
theorem dX5_wheel_23 : decode cX5_wheel 23 = .ok (.ireturn, 1) := by decide +kernel
theorem dX5_wheel_24 : decode cX5_wheel 24 = .ok (.aload_n 0, 1) := by decide +kernel
theorem dX5_wheel_25 : decode cX5_wheel 25 = .ok (.getfield 19, 3) := by decide +kernel
theorem dX5_wheel_28 : decode cX5_wheel 28 = .ok (.aload_n 0, 1) := by decide +kernel
theorem dX5_wheel_29 : decode cX5_wheel 29 = .ok (.getfield 10, 3) := by decide +kernel
theorem dX5_wheel_32 : decode cX5_wheel 32 = .ok (.invokevirtual 149, 3) := by decide +kernel
theorem dX5_wheel_35 : decode cX5_wheel 35 = .ok (.aload_n 0, 1) := by decide +kernel
theorem dX5_wheel_36 : decode cX5_wheel 36 = .ok (.getfield 10, 3) := by decide +kernel
theorem dX5_wheel_39 : decode cX5_wheel 39 = .ok (.getfield 101, 3) := by decide +kernel
theorem dX5_wheel_42 : decode cX5_wheel 42 = .ok (.iload_n 1, 1) := by decide +kernel
theorem dX5_wheel_43 : decode cX5_wheel 43 = .ok (.dup2, 1) := by decide +kernel
theorem dX5_wheel_44 : decode cX5_wheel 44 = .ok (.iaload, 1) := by decide +kernel
theorem dX5_wheel_45 : decode cX5_wheel 45 = .ok (.bipush 30, 2) := by decide +kernel
theorem dX5_wheel_47 : decode cX5_wheel 47 = .ok (.iadd, 1) := by decide +kernel
theorem dX5_wheel_48 : decode cX5_wheel 48 = .ok (.iastore, 1) := by decide +kernel
theorem dX5_wheel_49 : decode cX5_wheel 49 = .ok (.aload_n 0, 1) := by decide +kernel
theorem dX5_wheel_50 : decode cX5_wheel 50 = .ok (.getfield 10, 3) := by decide +kernel
theorem dX5_wheel_53 : decode cX5_wheel 53 = .ok (.getfield 101, 3) := by decide +kernel
theorem dX5_wheel_56 : decode cX5_wheel 56 = .ok (.iload_n 1, 1) := by decide +kernel
theorem dX5_wheel_57 : decode cX5_wheel 57 = .ok (.iaload, 1) := by decide +kernel
theorem dX5_wheel_58 : decode cX5_wheel 58 = .ok (.ireturn, 1) := by decide +kernel
theorem dX5_give_0 : decode cX5_give 0 = .ok (.aload_n 0, 1) := by decide +kernel
theorem dX5_give_1 : decode cX5_give 1 = .ok (.iload_n 1, 1) := by decide +kernel
theorem dX5_give_2 : decode cX5_give 2 = .ok (.iload_n 2, 1) := by decide +kernel
theorem dX5_give_3 : decode cX5_give 3 = .ok (.invokevirtual 159, 3) := by decide +kernel
theorem dX5_give_6 : decode cX5_give 6 = .ok (.ifCond .eq 13, 3) := by decide +kernel
theorem dX5_give_9 : decode cX5_give 9 = .ok (.iload_n 3, 1) := by decide +kernel
theorem dX5_give_10 : decode cX5_give 10 = .ok (.iconst 1, 1) := by decide +kernel
theorem dX5_give_11 : decode cX5_give 11 = .ok (.bipush 99, 2) := by decide +kernel
theorem dX5_give_13 : decode cX5_give 13 = .ok (.invokestatic 61, 3) := by decide +kernel
theorem dX5_give_16 : decode cX5_give 16 = .ok (.ifCond .ne 5, 3) := by decide +kernel
theorem dX5_give_19 : decode cX5_give 19 = .ok (.iconst (-1), 1) := by decide +kernel
theorem dX5_give_20 : decode cX5_give 20 = .ok (.ireturn, 1) := by decide +kernel
theorem dX5_give_21 : decode cX5_give 21 = .ok (.aload_n 0, 1) := by decide +kernel
theorem dX5_give_22 : decode cX5_give 22 = .ok (.getfield 10, 3) := by decide +kernel
theorem dX5_give_25 : decode cX5_give 25 = .ok (.getfield 104, 3) := by decide +kernel
theorem dX5_give_28 : decode cX5_give 28 = .ok (.iload_n 1, 1) := by decide +kernel
theorem dX5_give_29 : decode cX5_give 29 = .ok (.iaload, 1) := by decide +kernel
theorem dX5_give_30 : decode cX5_give 30 = .ok (.iload_n 3, 1) := by decide +kernel
theorem dX5_give_31 : decode cX5_give 31 = .ok (.if_icmp .ge 6, 3) := by decide +kernel
theorem dX5_give_34 : decode cX5_give 34 = .ok (.bipush (-2), 2) := by decide +kernel
theorem dX5_give_36 : decode cX5_give 36 = .ok (.ireturn, 1) := by decide +kernel
theorem dX5_give_37 : decode cX5_give 37 = .ok (.aload_n 0, 1) := by decide +kernel
theorem dX5_give_38 : decode cX5_give 38 = .ok (.getfield 19, 3) := by decide +kernel
theorem dX5_give_41 : decode cX5_give 41 = .ok (.aload_n 0, 1) := by decide +kernel
theorem dX5_give_42 : decode cX5_give 42 = .ok (.getfield 10, 3) := by decide +kernel
theorem dX5_give_45 : decode cX5_give 45 = .ok (.invokevirtual 149, 3) := by decide +kernel
theorem dX5_give_48 : decode cX5_give 48 = .ok (.aload_n 0, 1) := by decide +kernel
theorem dX5_give_49 : decode cX5_give 49 = .ok (.getfield 10, 3) := by decide +kernel
theorem dX5_give_52 : decode cX5_give 52 = .ok (.getfield 104, 3) := by decide +kernel
theorem dX5_give_55 : decode cX5_give 55 = .ok (.iload_n 1, 1) := by decide +kernel
theorem dX5_give_56 : decode cX5_give 56 = .ok (.dup2, 1) := by decide +kernel
theorem dX5_give_57 : decode cX5_give 57 = .ok (.iaload, 1) := by decide +kernel
theorem dX5_give_58 : decode cX5_give 58 = .ok (.iload_n 3, 1) := by decide +kernel
theorem dX5_give_59 : decode cX5_give 59 = .ok (.isub, 1) := by decide +kernel
theorem dX5_give_60 : decode cX5_give 60 = .ok (.iastore, 1) := by decide +kernel
theorem dX5_give_61 : decode cX5_give 61 = .ok (.aload_n 0, 1) := by decide +kernel
theorem dX5_give_62 : decode cX5_give 62 = .ok (.getfield 10, 3) := by decide +kernel
theorem dX5_give_65 : decode cX5_give 65 = .ok (.getfield 104, 3) := by decide +kernel
theorem dX5_give_68 : decode cX5_give 68 = .ok (.iload_n 2, 1) := by decide +kernel
theorem dX5_give_69 : decode cX5_give 69 = .ok (.bipush 99, 2) := by decide +kernel
theorem dX5_give_71 : decode cX5_give 71 = .ok (.aload_n 0, 1) := by decide +kernel
theorem dX5_give_72 : decode cX5_give 72 = .ok (.getfield 10, 3) := by decide +kernel
theorem dX5_give_75 : decode cX5_give 75 = .ok (.getfield 104, 3) := by decide +kernel
theorem dX5_give_78 : decode cX5_give 78 = .ok (.iload_n 2, 1) := by decide +kernel
theorem dX5_give_79 : decode cX5_give 79 = .ok (.iaload, 1) := by decide +kernel
theorem dX5_give_80 : decode cX5_give 80 = .ok (.iload_n 3, 1) := by decide +kernel
theorem dX5_give_81 : decode cX5_give 81 = .ok (.iadd, 1) := by decide +kernel
theorem dX5_give_82 : decode cX5_give 82 = .ok (.invokestatic 163, 3) := by decide +kernel
theorem dX5_give_85 : decode cX5_give 85 = .ok (.iastore, 1) := by decide +kernel
theorem dX5_give_86 : decode cX5_give 86 = .ok (.aload_n 0, 1) := by decide +kernel
theorem dX5_give_87 : decode cX5_give 87 = .ok (.getfield 10, 3) := by decide +kernel
theorem dX5_give_90 : decode cX5_give 90 = .ok (.getfield 104, 3) := by decide +kernel
theorem dX5_give_93 : decode cX5_give 93 = .ok (.iload_n 2, 1) := by decide +kernel
theorem dX5_give_94 : decode cX5_give 94 = .ok (.iaload, 1) := by decide +kernel
theorem dX5_give_95 : decode cX5_give 95 = .ok (.ireturn, 1) := by decide +kernel
theorem dX5_drift_0 : decode cX5_drift 0 = .ok (.iload_n 1, 1) := by decide +kernel
theorem dX5_drift_1 : decode cX5_drift 1 = .ok (.iconst 1, 1) := by decide +kernel
theorem dX5_drift_2 : decode cX5_drift 2 = .ok (.bipush 32, 2) := by decide +kernel
theorem dX5_drift_4 : decode cX5_drift 4 = .ok (.invokestatic 61, 3) := by decide +kernel
theorem dX5_drift_7 : decode cX5_drift 7 = .ok (.ifCond .ne 5, 3) := by decide +kernel
theorem dX5_drift_10 : decode cX5_drift 10 = .ok (.iconst (-1), 1) := by decide +kernel
theorem dX5_drift_11 : decode cX5_drift 11 = .ok (.ireturn, 1) := by decide +kernel
theorem dX5_drift_12 : decode cX5_drift 12 = .ok (.aload_n 0, 1) := by decide +kernel
theorem dX5_drift_13 : decode cX5_drift 13 = .ok (.getfield 10, 3) := by decide +kernel
theorem dX5_drift_16 : decode cX5_drift 16 = .ok (.invokevirtual 139, 3) := by decide +kernel
theorem dX5_drift_19 : decode cX5_drift 19 = .ok (.ifCond .ge 6, 3) := by decide +kernel
theorem dX5_drift_22 : decode cX5_drift 22 = .ok (.bipush (-2), 2) := by decide +kernel
theorem dX5_drift_24 : decode cX5_drift 24 = .ok (.ireturn, 1) := by decide +kernel
theorem dX5_drift_25 : decode cX5_drift 25 = .ok (.iconst 0, 1) := by decide +kernel
theorem dX5_drift_26 : decode cX5_drift 26 = .ok (.istore_n 2, 1) := by decide +kernel
theorem dX5_drift_27 : decode cX5_drift 27 = .ok (.iconst 0, 1) := by decide +kernel
theorem dX5_drift_28 : decode cX5_drift 28 = .ok (.istore_n 3, 1) := by decide +kernel
theorem dX5_drift_29 : decode cX5_drift 29 = .ok (.iload_n 3, 1) := by decide +kernel
theorem dX5_drift_30 : decode cX5_drift 30 = .ok (.iload_n 1, 1) := by decide +kernel
theorem dX5_drift_31 : decode cX5_drift 31 = .ok (.if_icmp .ge 79, 3) := by decide +kernel
theorem dX5_drift_34 : decode cX5_drift 34 = .ok (.aload_n 0, 1) := by decide +kernel
theorem dX5_drift_35 : decode cX5_drift 35 = .ok (.getfield 10, 3) := by decide +kernel
theorem dX5_drift_38 : decode cX5_drift 38 = .ok (.invokevirtual 139, 3) := by decide +kernel
theorem dX5_drift_41 : decode cX5_drift 41 = .ok (.istore 4, 2) := by decide +kernel
theorem dX5_drift_43 : decode cX5_drift 43 = .ok (.iload 4, 2) := by decide +kernel
theorem dX5_drift_45 : decode cX5_drift 45 = .ok (.ifCond .ge 6, 3) := by decide +kernel
theorem dX5_drift_48 : decode cX5_drift 48 = .ok (.goto 62, 3) := by decide +kernel
theorem dX5_drift_51 : decode cX5_drift 51 = .ok (.aload_n 0, 1) := by decide +kernel
theorem dX5_drift_52 : decode cX5_drift 52 = .ok (.getfield 19, 3) := by decide +kernel
theorem dX5_drift_55 : decode cX5_drift 55 = .ok (.aload_n 0, 1) := by decide +kernel
theorem dX5_drift_56 : decode cX5_drift 56 = .ok (.getfield 10, 3) := by decide +kernel
theorem dX5_drift_59 : decode cX5_drift 59 = .ok (.invokevirtual 149, 3) := by decide +kernel
theorem dX5_drift_62 : decode cX5_drift 62 = .ok (.aload_n 0, 1) := by decide +kernel
theorem dX5_drift_63 : decode cX5_drift 63 = .ok (.getfield 10, 3) := by decide +kernel
theorem dX5_drift_66 : decode cX5_drift 66 = .ok (.invokevirtual 169, 3) := by decide +kernel
theorem dX5_drift_69 : decode cX5_drift 69 = .ok (.istore 5, 2) := by decide +kernel
theorem dX5_drift_71 : decode cX5_drift 71 = .ok (.aload_n 0, 1) := by decide +kernel
theorem dX5_drift_72 : decode cX5_drift 72 = .ok (.getfield 10, 3) := by decide +kernel
theorem dX5_drift_75 : decode cX5_drift 75 = .ok (.iload 4, 2) := by decide +kernel
theorem dX5_drift_77 : decode cX5_drift 77 = .ok (.iload 5, 2) := by decide +kernel
theorem dX5_drift_79 : decode cX5_drift 79 = .ok (.ifCond .eq 8, 3) := by decide +kernel
theorem dX5_drift_82 : decode cX5_drift 82 = .ok (.bipush 30, 2) := by decide +kernel
theorem dX5_drift_84 : decode cX5_drift 84 = .ok (.goto 4, 3) := by decide +kernel
theorem dX5_drift_87 : decode cX5_drift 87 = .ok (.iconst 0, 1) := by decide +kernel
theorem dX5_drift_88 : decode cX5_drift 88 = .ok (.invokevirtual 152, 3) := by decide +kernel
theorem dX5_drift_91 : decode cX5_drift 91 = .ok (.iload_n 2, 1) := by decide +kernel
theorem dX5_drift_92 : decode cX5_drift 92 = .ok (.iload 5, 2) := by decide +kernel
theorem dX5_drift_94 : decode cX5_drift 94 = .ok (.ifCond .eq 7, 3) := by decide +kernel
theorem dX5_drift_97 : decode cX5_drift 97 = .ok (.iconst 1, 1) := by decide +kernel
theorem dX5_drift_98 : decode cX5_drift 98 = .ok (.goto 4, 3) := by decide +kernel
theorem dX5_drift_101 : decode cX5_drift 101 = .ok (.iconst 0, 1) := by decide +kernel
theorem dX5_drift_102 : decode cX5_drift 102 = .ok (.iadd, 1) := by decide +kernel
theorem dX5_drift_103 : decode cX5_drift 103 = .ok (.istore_n 2, 1) := by decide +kernel
theorem dX5_drift_104 : decode cX5_drift 104 = .ok (.iinc 3 1, 3) := by decide +kernel
theorem dX5_drift_107 : decode cX5_drift 107 = .ok (.goto (-78), 3) := by decide +kernel
theorem dX5_drift_110 : decode cX5_drift 110 = .ok (.iload_n 2, 1) := by decide +kernel
theorem dX5_drift_111 : decode cX5_drift 111 = .ok (.ireturn, 1) := by decide +kernel
theorem dX5_undo_0 : decode cX5_undo 0 = .ok (.aload_n 0, 1) := by decide +kernel
theorem dX5_undo_1 : decode cX5_undo 1 = .ok (.getfield 19, 3) := by decide +kernel
theorem dX5_undo_4 : decode cX5_undo 4 = .ok (.getfield 146, 3) := by decide +kernel
theorem dX5_undo_7 : decode cX5_undo 7 = .ok (.ifCond .ne 6, 3) := by decide +kernel
theorem dX5_undo_10 : decode cX5_undo 10 = .ok (.bipush (-4), 2) := by decide +kernel
theorem dX5_undo_12 : decode cX5_undo 12 = .ok (.ireturn, 1) := by decide +kernel
theorem dX5_undo_13 : decode cX5_undo 13 = .ok (.aload_n 0, 1) := by decide +kernel
theorem dX5_undo_14 : decode cX5_undo 14 = .ok (.getfield 19, 3) := by decide +kernel
theorem dX5_undo_17 : decode cX5_undo 17 = .ok (.aload_n 0, 1) := by decide +kernel
theorem dX5_undo_18 : decode cX5_undo 18 = .ok (.getfield 10, 3) := by decide +kernel
theorem dX5_undo_21 : decode cX5_undo 21 = .ok (.invokevirtual 172, 3) := by decide +kernel
theorem dX5_undo_24 : decode cX5_undo 24 = .ok (.aload_n 0, 1) := by decide +kernel
theorem dX5_undo_25 : decode cX5_undo 25 = .ok (.getfield 19, 3) := by decide +kernel
theorem dX5_undo_28 : decode cX5_undo 28 = .ok (.getfield 146, 3) := by decide +kernel
theorem dX5_undo_31 : decode cX5_undo 31 = .ok (.ireturn, 1) := by decide +kernel
theorem dX5_seed_0 : decode cX5_seed 0 = .ok (.iload_n 1, 1) := by decide +kernel
theorem dX5_seed_1 : decode cX5_seed 1 = .ok (.ifCond .ge 5, 3) := by decide +kernel
theorem dX5_seed_4 : decode cX5_seed 4 = .ok (.iconst (-1), 1) := by decide +kernel
theorem dX5_seed_5 : decode cX5_seed 5 = .ok (.ireturn, 1) := by decide +kernel
theorem dX5_seed_6 : decode cX5_seed 6 = .ok (.aload_n 0, 1) := by decide +kernel
theorem dX5_seed_7 : decode cX5_seed 7 = .ok (.getfield 10, 3) := by decide +kernel
theorem dX5_seed_10 : decode cX5_seed 10 = .ok (.getfield 175, 3) := by decide +kernel
theorem dX5_seed_13 : decode cX5_seed 13 = .ok (.istore_n 2, 1) := by decide +kernel
theorem dX5_seed_14 : decode cX5_seed 14 = .ok (.aload_n 0, 1) := by decide +kernel
theorem dX5_seed_15 : decode cX5_seed 15 = .ok (.getfield 10, 3) := by decide +kernel
theorem dX5_seed_18 : decode cX5_seed 18 = .ok (.iload_n 1, 1) := by decide +kernel
theorem dX5_seed_19 : decode cX5_seed 19 = .ok (.putfield 175, 3) := by decide +kernel
theorem dX5_seed_22 : decode cX5_seed 22 = .ok (.iload_n 2, 1) := by decide +kernel
theorem dX5_seed_23 : decode cX5_seed 23 = .ok (.ireturn, 1) := by decide +kernel
theorem dX5_ahead_0 : decode cX5_ahead 0 = .ok (.aload_n 0, 1) := by decide +kernel
theorem dX5_ahead_1 : decode cX5_ahead 1 = .ok (.iload_n 1, 1) := by decide +kernel
theorem dX5_ahead_2 : decode cX5_ahead 2 = .ok (.invokevirtual 91, 3) := by decide +kernel
theorem dX5_ahead_5 : decode cX5_ahead 5 = .ok (.ifCond .eq 10, 3) := by decide +kernel
theorem dX5_ahead_8 : decode cX5_ahead 8 = .ok (.iload_n 2, 1) := by decide +kernel
theorem dX5_ahead_9 : decode cX5_ahead 9 = .ok (.invokestatic 178, 3) := by decide +kernel
theorem dX5_ahead_12 : decode cX5_ahead 12 = .ok (.ifCond .ne 5, 3) := by decide +kernel
theorem dX5_ahead_15 : decode cX5_ahead 15 = .ok (.iconst (-1), 1) := by decide +kernel
theorem dX5_ahead_16 : decode cX5_ahead 16 = .ok (.ireturn, 1) := by decide +kernel
theorem dX5_ahead_17 : decode cX5_ahead 17 = .ok (.aload_n 0, 1) := by decide +kernel
theorem dX5_ahead_18 : decode cX5_ahead 18 = .ok (.getfield 36, 3) := by decide +kernel
theorem dX5_ahead_21 : decode cX5_ahead 21 = .ok (.aload_n 0, 1) := by decide +kernel
theorem dX5_ahead_22 : decode cX5_ahead 22 = .ok (.getfield 10, 3) := by decide +kernel
theorem dX5_ahead_25 : decode cX5_ahead 25 = .ok (.invokevirtual 181, 3) := by decide +kernel
theorem dX5_ahead_28 : decode cX5_ahead 28 = .ok (.aload_n 0, 1) := by decide +kernel
theorem dX5_ahead_29 : decode cX5_ahead 29 = .ok (.getfield 36, 3) := by decide +kernel
theorem dX5_ahead_32 : decode cX5_ahead 32 = .ok (.iload_n 1, 1) := by decide +kernel
theorem dX5_ahead_33 : decode cX5_ahead 33 = .ok (.iconst 0, 1) := by decide +kernel
theorem dX5_ahead_34 : decode cX5_ahead 34 = .ok (.invokevirtual 184, 3) := by decide +kernel
theorem dX5_ahead_37 : decode cX5_ahead 37 = .ok (.istore_n 3, 1) := by decide +kernel
theorem dX5_ahead_38 : decode cX5_ahead 38 = .ok (.iload_n 2, 1) := by decide +kernel
theorem dX5_ahead_39 : decode cX5_ahead 39 = .ok (.ifCond .ne 7, 3) := by decide +kernel
theorem dX5_ahead_42 : decode cX5_ahead 42 = .ok (.iload_n 3, 1) := by decide +kernel
theorem dX5_ahead_43 : decode cX5_ahead 43 = .ok (.goto 15, 3) := by decide +kernel
theorem dX5_ahead_46 : decode cX5_ahead 46 = .ok (.aload_n 0, 1) := by decide +kernel
theorem dX5_ahead_47 : decode cX5_ahead 47 = .ok (.getfield 36, 3) := by decide +kernel
theorem dX5_ahead_50 : decode cX5_ahead 50 = .ok (.getfield 187, 3) := by decide +kernel
theorem dX5_ahead_53 : decode cX5_ahead 53 = .ok (.getfield 104, 3) := by decide +kernel
theorem dX5_ahead_56 : decode cX5_ahead 56 = .ok (.iload_n 1, 1) := by decide +kernel
theorem dX5_ahead_57 : decode cX5_ahead 57 = .ok (.iaload, 1) := by decide +kernel
theorem dX5_ahead_58 : decode cX5_ahead 58 = .ok (.ireturn, 1) := by decide +kernel
theorem dX5_comes_0 : decode cX5_comes 0 = .ok (.aload_n 0, 1) := by decide +kernel
theorem dX5_comes_1 : decode cX5_comes 1 = .ok (.iload_n 1, 1) := by decide +kernel
theorem dX5_comes_2 : decode cX5_comes 2 = .ok (.invokevirtual 91, 3) := by decide +kernel
theorem dX5_comes_5 : decode cX5_comes 5 = .ok (.ifCond .eq 18, 3) := by decide +kernel
theorem dX5_comes_8 : decode cX5_comes 8 = .ok (.iload_n 2, 1) := by decide +kernel
theorem dX5_comes_9 : decode cX5_comes 9 = .ok (.iconst 0, 1) := by decide +kernel
theorem dX5_comes_10 : decode cX5_comes 10 = .ok (.aload_n 0, 1) := by decide +kernel
theorem dX5_comes_11 : decode cX5_comes 11 = .ok (.getfield 10, 3) := by decide +kernel
theorem dX5_comes_14 : decode cX5_comes 14 = .ok (.getfield 65, 3) := by decide +kernel
theorem dX5_comes_17 : decode cX5_comes 17 = .ok (.invokestatic 61, 3) := by decide +kernel
theorem dX5_comes_20 : decode cX5_comes 20 = .ok (.ifCond .ne 5, 3) := by decide +kernel
theorem dX5_comes_23 : decode cX5_comes 23 = .ok (.iconst (-1), 1) := by decide +kernel
theorem dX5_comes_24 : decode cX5_comes 24 = .ok (.ireturn, 1) := by decide +kernel
theorem dX5_comes_25 : decode cX5_comes 25 = .ok (.iload_n 2, 1) := by decide +kernel
theorem dX5_comes_26 : decode cX5_comes 26 = .ok (.aload_n 0, 1) := by decide +kernel
theorem dX5_comes_27 : decode cX5_comes 27 = .ok (.getfield 10, 3) := by decide +kernel
theorem dX5_comes_30 : decode cX5_comes 30 = .ok (.getfield 98, 3) := by decide +kernel
theorem dX5_comes_33 : decode cX5_comes 33 = .ok (.iload_n 1, 1) := by decide +kernel
theorem dX5_comes_34 : decode cX5_comes 34 = .ok (.iaload, 1) := by decide +kernel
theorem dX5_comes_35 : decode cX5_comes 35 = .ok (.if_icmp .ge 6, 3) := by decide +kernel
theorem dX5_comes_38 : decode cX5_comes 38 = .ok (.bipush (-4), 2) := by decide +kernel
theorem dX5_comes_40 : decode cX5_comes 40 = .ok (.ireturn, 1) := by decide +kernel
theorem dX5_comes_41 : decode cX5_comes 41 = .ok (.aload_n 0, 1) := by decide +kernel
theorem dX5_comes_42 : decode cX5_comes 42 = .ok (.getfield 36, 3) := by decide +kernel
theorem dX5_comes_45 : decode cX5_comes 45 = .ok (.aload_n 0, 1) := by decide +kernel
theorem dX5_comes_46 : decode cX5_comes 46 = .ok (.getfield 10, 3) := by decide +kernel
theorem dX5_comes_49 : decode cX5_comes 49 = .ok (.invokevirtual 181, 3) := by decide +kernel
theorem dX5_comes_52 : decode cX5_comes 52 = .ok (.aload_n 0, 1) := by decide +kernel
theorem dX5_comes_53 : decode cX5_comes 53 = .ok (.getfield 36, 3) := by decide +kernel
theorem dX5_comes_56 : decode cX5_comes 56 = .ok (.iload_n 1, 1) := by decide +kernel
theorem dX5_comes_57 : decode cX5_comes 57 = .ok (.iconst 0, 1) := by decide +kernel
theorem dX5_comes_58 : decode cX5_comes 58 = .ok (.invokevirtual 184, 3) := by decide +kernel
theorem dX5_comes_61 : decode cX5_comes 61 = .ok (.pop, 1) := by decide +kernel
theorem dX5_comes_62 : decode cX5_comes 62 = .ok (.aload_n 0, 1) := by decide +kernel
theorem dX5_comes_63 : decode cX5_comes 63 = .ok (.getfield 36, 3) := by decide +kernel
theorem dX5_comes_66 : decode cX5_comes 66 = .ok (.iload_n 1, 1) := by decide +kernel
theorem dX5_comes_67 : decode cX5_comes 67 = .ok (.iload_n 2, 1) := by decide +kernel
theorem dX5_comes_68 : decode cX5_comes 68 = .ok (.invokevirtual 190, 3) := by decide +kernel
theorem dX5_comes_71 : decode cX5_comes 71 = .ok (.ireturn, 1) := by decide +kernel
theorem dX5_first_0 : decode cX5_first 0 = .ok (.aload_n 0, 1) := by decide +kernel
theorem dX5_first_1 : decode cX5_first 1 = .ok (.getfield 36, 3) := by decide +kernel
theorem dX5_first_4 : decode cX5_first 4 = .ok (.aload_n 0, 1) := by decide +kernel
theorem dX5_first_5 : decode cX5_first 5 = .ok (.getfield 10, 3) := by decide +kernel
theorem dX5_first_8 : decode cX5_first 8 = .ok (.invokevirtual 181, 3) := by decide +kernel
theorem dX5_first_11 : decode cX5_first 11 = .ok (.aload_n 0, 1) := by decide +kernel
theorem dX5_first_12 : decode cX5_first 12 = .ok (.getfield 36, 3) := by decide +kernel
theorem dX5_first_15 : decode cX5_first 15 = .ok (.invokevirtual 193, 3) := by decide +kernel
theorem dX5_first_18 : decode cX5_first 18 = .ok (.ireturn, 1) := by decide +kernel
theorem dX5_caught_0 : decode cX5_caught 0 = .ok (.aload_n 0, 1) := by decide +kernel
theorem dX5_caught_1 : decode cX5_caught 1 = .ok (.iload_n 1, 1) := by decide +kernel
theorem dX5_caught_2 : decode cX5_caught 2 = .ok (.iload_n 2, 1) := by decide +kernel
theorem dX5_caught_3 : decode cX5_caught 3 = .ok (.invokevirtual 159, 3) := by decide +kernel
theorem dX5_caught_6 : decode cX5_caught 6 = .ok (.ifCond .ne 5, 3) := by decide +kernel
theorem dX5_caught_9 : decode cX5_caught 9 = .ok (.iconst (-1), 1) := by decide +kernel
theorem dX5_caught_10 : decode cX5_caught 10 = .ok (.ireturn, 1) := by decide +kernel
theorem dX5_caught_11 : decode cX5_caught 11 = .ok (.aload_n 0, 1) := by decide +kernel
theorem dX5_caught_12 : decode cX5_caught 12 = .ok (.getfield 36, 3) := by decide +kernel
theorem dX5_caught_15 : decode cX5_caught 15 = .ok (.aload_n 0, 1) := by decide +kernel
theorem dX5_caught_16 : decode cX5_caught 16 = .ok (.getfield 10, 3) := by decide +kernel
theorem dX5_caught_19 : decode cX5_caught 19 = .ok (.invokevirtual 181, 3) := by decide +kernel
theorem dX5_caught_22 : decode cX5_caught 22 = .ok (.aload_n 0, 1) := by decide +kernel
theorem dX5_caught_23 : decode cX5_caught 23 = .ok (.getfield 36, 3) := by decide +kernel
theorem dX5_caught_26 : decode cX5_caught 26 = .ok (.iload_n 1, 1) := by decide +kernel
theorem dX5_caught_27 : decode cX5_caught 27 = .ok (.iconst 0, 1) := by decide +kernel
theorem dX5_caught_28 : decode cX5_caught 28 = .ok (.invokevirtual 184, 3) := by decide +kernel
theorem dX5_caught_31 : decode cX5_caught 31 = .ok (.pop, 1) := by decide +kernel
theorem dX5_caught_32 : decode cX5_caught 32 = .ok (.aload_n 0, 1) := by decide +kernel
theorem dX5_caught_33 : decode cX5_caught 33 = .ok (.getfield 36, 3) := by decide +kernel
theorem dX5_caught_36 : decode cX5_caught 36 = .ok (.iload_n 2, 1) := by decide +kernel
theorem dX5_caught_37 : decode cX5_caught 37 = .ok (.iconst 0, 1) := by decide +kernel
theorem dX5_caught_38 : decode cX5_caught 38 = .ok (.invokevirtual 184, 3) := by decide +kernel
theorem dX5_caught_41 : decode cX5_caught 41 = .ok (.pop, 1) := by decide +kernel
theorem dX5_caught_42 : decode cX5_caught 42 = .ok (.iconst 1, 1) := by decide +kernel
theorem dX5_caught_43 : decode cX5_caught 43 = .ok (.aload_n 0, 1) := by decide +kernel
theorem dX5_caught_44 : decode cX5_caught 44 = .ok (.getfield 10, 3) := by decide +kernel
theorem dX5_caught_47 : decode cX5_caught 47 = .ok (.getfield 98, 3) := by decide +kernel
theorem dX5_caught_50 : decode cX5_caught 50 = .ok (.iload_n 1, 1) := by decide +kernel
theorem dX5_caught_51 : decode cX5_caught 51 = .ok (.iaload, 1) := by decide +kernel
theorem dX5_caught_52 : decode cX5_caught 52 = .ok (.aload_n 0, 1) := by decide +kernel
theorem dX5_caught_53 : decode cX5_caught 53 = .ok (.getfield 10, 3) := by decide +kernel
theorem dX5_caught_56 : decode cX5_caught 56 = .ok (.getfield 98, 3) := by decide +kernel
theorem dX5_caught_59 : decode cX5_caught 59 = .ok (.iload_n 2, 1) := by decide +kernel
theorem dX5_caught_60 : decode cX5_caught 60 = .ok (.iaload, 1) := by decide +kernel
theorem dX5_caught_61 : decode cX5_caught 61 = .ok (.invokestatic 196, 3) := by decide +kernel
theorem dX5_caught_64 : decode cX5_caught 64 = .ok (.invokestatic 196, 3) := by decide +kernel
theorem dX5_caught_67 : decode cX5_caught 67 = .ok (.istore_n 3, 1) := by decide +kernel
theorem dX5_caught_68 : decode cX5_caught 68 = .ok (.iload_n 3, 1) := by decide +kernel
theorem dX5_caught_69 : decode cX5_caught 69 = .ok (.istore 4, 2) := by decide +kernel
theorem dX5_caught_71 : decode cX5_caught 71 = .ok (.iload 4, 2) := by decide +kernel
theorem dX5_caught_73 : decode cX5_caught 73 = .ok (.aload_n 0, 1) := by decide +kernel
theorem dX5_caught_74 : decode cX5_caught 74 = .ok (.getfield 10, 3) := by decide +kernel
theorem dX5_caught_77 : decode cX5_caught 77 = .ok (.getfield 65, 3) := by decide +kernel
theorem dX5_caught_80 : decode cX5_caught 80 = .ok (.if_icmp .gt 35, 3) := by decide +kernel
theorem dX5_caught_83 : decode cX5_caught 83 = .ok (.aload_n 0, 1) := by decide +kernel
theorem dX5_caught_84 : decode cX5_caught 84 = .ok (.getfield 36, 3) := by decide +kernel
theorem dX5_caught_87 : decode cX5_caught 87 = .ok (.iload_n 2, 1) := by decide +kernel
theorem dX5_caught_88 : decode cX5_caught 88 = .ok (.iload 4, 2) := by decide +kernel
theorem dX5_caught_90 : decode cX5_caught 90 = .ok (.invokevirtual 190, 3) := by decide +kernel
theorem dX5_caught_93 : decode cX5_caught 93 = .ok (.aload_n 0, 1) := by decide +kernel
theorem dX5_caught_94 : decode cX5_caught 94 = .ok (.getfield 36, 3) := by decide +kernel
theorem dX5_caught_97 : decode cX5_caught 97 = .ok (.iload_n 1, 1) := by decide +kernel
theorem dX5_caught_98 : decode cX5_caught 98 = .ok (.iload 4, 2) := by decide +kernel
theorem dX5_caught_100 : decode cX5_caught 100 = .ok (.invokevirtual 190, 3) := by decide +kernel
theorem dX5_caught_103 : decode cX5_caught 103 = .ok (.if_icmp .gt 6, 3) := by decide +kernel
theorem dX5_caught_106 : decode cX5_caught 106 = .ok (.iload 4, 2) := by decide +kernel
theorem dX5_caught_108 : decode cX5_caught 108 = .ok (.ireturn, 1) := by decide +kernel
theorem dX5_caught_109 : decode cX5_caught 109 = .ok (.iinc 4 1, 3) := by decide +kernel
theorem dX5_caught_112 : decode cX5_caught 112 = .ok (.goto (-41), 3) := by decide +kernel
theorem dX5_caught_115 : decode cX5_caught 115 = .ok (.bipush (-4), 2) := by decide +kernel
theorem dX5_caught_117 : decode cX5_caught 117 = .ok (.ireturn, 1) := by decide +kernel
theorem dX5_best_0 : decode cX5_best 0 = .ok (.aload_n 0, 1) := by decide +kernel
theorem dX5_best_1 : decode cX5_best 1 = .ok (.iload_n 1, 1) := by decide +kernel
theorem dX5_best_2 : decode cX5_best 2 = .ok (.invokevirtual 91, 3) := by decide +kernel
theorem dX5_best_5 : decode cX5_best 5 = .ok (.ifCond .eq 10, 3) := by decide +kernel
theorem dX5_best_8 : decode cX5_best 8 = .ok (.iload_n 2, 1) := by decide +kernel
theorem dX5_best_9 : decode cX5_best 9 = .ok (.invokestatic 178, 3) := by decide +kernel
theorem dX5_best_12 : decode cX5_best 12 = .ok (.ifCond .ne 5, 3) := by decide +kernel
theorem dX5_best_15 : decode cX5_best 15 = .ok (.iconst (-1), 1) := by decide +kernel
theorem dX5_best_16 : decode cX5_best 16 = .ok (.ireturn, 1) := by decide +kernel
theorem dX5_best_17 : decode cX5_best 17 = .ok (.aload_n 0, 1) := by decide +kernel
theorem dX5_best_18 : decode cX5_best 18 = .ok (.iload_n 1, 1) := by decide +kernel
theorem dX5_best_19 : decode cX5_best 19 = .ok (.invokevirtual 199, 3) := by decide +kernel
theorem dX5_best_22 : decode cX5_best 22 = .ok (.istore_n 3, 1) := by decide +kernel
theorem dX5_best_23 : decode cX5_best 23 = .ok (.iload_n 2, 1) := by decide +kernel
theorem dX5_best_24 : decode cX5_best 24 = .ok (.ifCond .ne 7, 3) := by decide +kernel
theorem dX5_best_27 : decode cX5_best 27 = .ok (.iload_n 3, 1) := by decide +kernel
theorem dX5_best_28 : decode cX5_best 28 = .ok (.goto 9, 3) := by decide +kernel
theorem dX5_best_31 : decode cX5_best 31 = .ok (.aload_n 0, 1) := by decide +kernel
theorem dX5_best_32 : decode cX5_best 32 = .ok (.iload_n 1, 1) := by decide +kernel
theorem dX5_best_33 : decode cX5_best 33 = .ok (.iload_n 3, 1) := by decide +kernel
theorem dX5_best_34 : decode cX5_best 34 = .ok (.invokevirtual 202, 3) := by decide +kernel
theorem dX5_best_37 : decode cX5_best 37 = .ok (.ireturn, 1) := by decide +kernel
theorem dX5_earlier_0 : decode cX5_earlier 0 = .ok (.aload_n 0, 1) := by decide +kernel
theorem dX5_earlier_1 : decode cX5_earlier 1 = .ok (.iload_n 1, 1) := by decide +kernel
theorem dX5_earlier_2 : decode cX5_earlier 2 = .ok (.iload_n 2, 1) := by decide +kernel
theorem dX5_earlier_3 : decode cX5_earlier 3 = .ok (.invokevirtual 159, 3) := by decide +kernel
theorem dX5_earlier_6 : decode cX5_earlier 6 = .ok (.ifCond .ne 5, 3) := by decide +kernel
theorem dX5_earlier_9 : decode cX5_earlier 9 = .ok (.iconst (-1), 1) := by decide +kernel
theorem dX5_earlier_10 : decode cX5_earlier 10 = .ok (.ireturn, 1) := by decide +kernel
theorem dX5_earlier_11 : decode cX5_earlier 11 = .ok (.sipush 300, 3) := by decide +kernel
theorem dX5_earlier_14 : decode cX5_earlier 14 = .ok (.aload_n 0, 1) := by decide +kernel
theorem dX5_earlier_15 : decode cX5_earlier 15 = .ok (.getfield 10, 3) := by decide +kernel
theorem dX5_earlier_18 : decode cX5_earlier 18 = .ok (.getfield 101, 3) := by decide +kernel
theorem dX5_earlier_21 : decode cX5_earlier 21 = .ok (.iload_n 1, 1) := by decide +kernel
theorem dX5_earlier_22 : decode cX5_earlier 22 = .ok (.iaload, 1) := by decide +kernel
theorem dX5_earlier_23 : decode cX5_earlier 23 = .ok (.invokestatic 163, 3) := by decide +kernel
theorem dX5_earlier_26 : decode cX5_earlier 26 = .ok (.istore_n 3, 1) := by decide +kernel
theorem dX5_earlier_27 : decode cX5_earlier 27 = .ok (.iconst 0, 1) := by decide +kernel
theorem dX5_earlier_28 : decode cX5_earlier 28 = .ok (.istore 4, 2) := by decide +kernel
theorem dX5_earlier_30 : decode cX5_earlier 30 = .ok (.iload 4, 2) := by decide +kernel
theorem dX5_earlier_32 : decode cX5_earlier 32 = .ok (.iload_n 3, 1) := by decide +kernel
theorem dX5_earlier_33 : decode cX5_earlier 33 = .ok (.if_icmp .gt 61, 3) := by decide +kernel
theorem dX5_earlier_36 : decode cX5_earlier 36 = .ok (.aload_n 0, 1) := by decide +kernel
theorem dX5_earlier_37 : decode cX5_earlier 37 = .ok (.getfield 36, 3) := by decide +kernel
theorem dX5_earlier_40 : decode cX5_earlier 40 = .ok (.aload_n 0, 1) := by decide +kernel
theorem dX5_earlier_41 : decode cX5_earlier 41 = .ok (.getfield 10, 3) := by decide +kernel
theorem dX5_earlier_44 : decode cX5_earlier 44 = .ok (.invokevirtual 181, 3) := by decide +kernel
theorem dX5_earlier_47 : decode cX5_earlier 47 = .ok (.aload_n 0, 1) := by decide +kernel
theorem dX5_earlier_48 : decode cX5_earlier 48 = .ok (.getfield 36, 3) := by decide +kernel
theorem dX5_earlier_51 : decode cX5_earlier 51 = .ok (.getfield 187, 3) := by decide +kernel
theorem dX5_earlier_54 : decode cX5_earlier 54 = .ok (.getfield 101, 3) := by decide +kernel
theorem dX5_earlier_57 : decode cX5_earlier 57 = .ok (.iload_n 1, 1) := by decide +kernel
theorem dX5_earlier_58 : decode cX5_earlier 58 = .ok (.dup2, 1) := by decide +kernel
theorem dX5_earlier_59 : decode cX5_earlier 59 = .ok (.iaload, 1) := by decide +kernel
theorem dX5_earlier_60 : decode cX5_earlier 60 = .ok (.iload 4, 2) := by decide +kernel
theorem dX5_earlier_62 : decode cX5_earlier 62 = .ok (.isub, 1) := by decide +kernel
theorem dX5_earlier_63 : decode cX5_earlier 63 = .ok (.iastore, 1) := by decide +kernel
theorem dX5_earlier_64 : decode cX5_earlier 64 = .ok (.aload_n 0, 1) := by decide +kernel
theorem dX5_earlier_65 : decode cX5_earlier 65 = .ok (.getfield 36, 3) := by decide +kernel
theorem dX5_earlier_68 : decode cX5_earlier 68 = .ok (.iload_n 1, 1) := by decide +kernel
theorem dX5_earlier_69 : decode cX5_earlier 69 = .ok (.iconst 0, 1) := by decide +kernel
theorem dX5_earlier_70 : decode cX5_earlier 70 = .ok (.invokevirtual 184, 3) := by decide +kernel
theorem dX5_earlier_73 : decode cX5_earlier 73 = .ok (.aload_n 0, 1) := by decide +kernel
theorem dX5_earlier_74 : decode cX5_earlier 74 = .ok (.getfield 36, 3) := by decide +kernel
theorem dX5_earlier_77 : decode cX5_earlier 77 = .ok (.iload_n 2, 1) := by decide +kernel
theorem dX5_earlier_78 : decode cX5_earlier 78 = .ok (.iconst 0, 1) := by decide +kernel
theorem dX5_earlier_79 : decode cX5_earlier 79 = .ok (.invokevirtual 184, 3) := by decide +kernel
theorem dX5_earlier_82 : decode cX5_earlier 82 = .ok (.if_icmp .ge 6, 3) := by decide +kernel
theorem dX5_earlier_85 : decode cX5_earlier 85 = .ok (.iload 4, 2) := by decide +kernel
theorem dX5_earlier_87 : decode cX5_earlier 87 = .ok (.ireturn, 1) := by decide +kernel
theorem dX5_earlier_88 : decode cX5_earlier 88 = .ok (.iinc 4 1, 3) := by decide +kernel
theorem dX5_earlier_91 : decode cX5_earlier 91 = .ok (.goto (-61), 3) := by decide +kernel
theorem dX5_earlier_94 : decode cX5_earlier 94 = .ok (.bipush (-4), 2) := by decide +kernel
theorem dX5_earlier_96 : decode cX5_earlier 96 = .ok (.ireturn, 1) := by decide +kernel
theorem dX5_purse_0 : decode cX5_purse 0 = .ok (.aload_n 0, 1) := by decide +kernel
theorem dX5_purse_1 : decode cX5_purse 1 = .ok (.iload_n 1, 1) := by decide +kernel
theorem dX5_purse_2 : decode cX5_purse 2 = .ok (.invokevirtual 91, 3) := by decide +kernel
theorem dX5_purse_5 : decode cX5_purse 5 = .ok (.ifCond .eq 14, 3) := by decide +kernel
theorem dX5_purse_8 : decode cX5_purse 8 = .ok (.iload_n 2, 1) := by decide +kernel
theorem dX5_purse_9 : decode cX5_purse 9 = .ok (.iconst 0, 1) := by decide +kernel
theorem dX5_purse_10 : decode cX5_purse 10 = .ok (.sipush 9999, 3) := by decide +kernel
theorem dX5_purse_13 : decode cX5_purse 13 = .ok (.invokestatic 61, 3) := by decide +kernel
theorem dX5_purse_16 : decode cX5_purse 16 = .ok (.ifCond .ne 5, 3) := by decide +kernel
theorem dX5_purse_19 : decode cX5_purse 19 = .ok (.iconst (-1), 1) := by decide +kernel
theorem dX5_purse_20 : decode cX5_purse 20 = .ok (.ireturn, 1) := by decide +kernel
theorem dX5_purse_21 : decode cX5_purse 21 = .ok (.iconst 0, 1) := by decide +kernel
theorem dX5_purse_22 : decode cX5_purse 22 = .ok (.istore_n 3, 1) := by decide +kernel
theorem dX5_purse_23 : decode cX5_purse 23 = .ok (.iload_n 3, 1) := by decide +kernel
theorem dX5_purse_24 : decode cX5_purse 24 = .ok (.bipush 99, 2) := by decide +kernel
theorem dX5_purse_26 : decode cX5_purse 26 = .ok (.if_icmp .gt 48, 3) := by decide +kernel
theorem dX5_purse_29 : decode cX5_purse 29 = .ok (.aload_n 0, 1) := by decide +kernel
theorem dX5_purse_30 : decode cX5_purse 30 = .ok (.getfield 36, 3) := by decide +kernel
theorem dX5_purse_33 : decode cX5_purse 33 = .ok (.aload_n 0, 1) := by decide +kernel
theorem dX5_purse_34 : decode cX5_purse 34 = .ok (.getfield 10, 3) := by decide +kernel
theorem dX5_purse_37 : decode cX5_purse 37 = .ok (.invokevirtual 181, 3) := by decide +kernel
theorem dX5_purse_40 : decode cX5_purse 40 = .ok (.aload_n 0, 1) := by decide +kernel
theorem dX5_purse_41 : decode cX5_purse 41 = .ok (.getfield 36, 3) := by decide +kernel
theorem dX5_purse_44 : decode cX5_purse 44 = .ok (.getfield 187, 3) := by decide +kernel
theorem dX5_purse_47 : decode cX5_purse 47 = .ok (.getfield 104, 3) := by decide +kernel
theorem dX5_purse_50 : decode cX5_purse 50 = .ok (.iload_n 1, 1) := by decide +kernel
theorem dX5_purse_51 : decode cX5_purse 51 = .ok (.iload_n 3, 1) := by decide +kernel
theorem dX5_purse_52 : decode cX5_purse 52 = .ok (.iastore, 1) := by decide +kernel
theorem dX5_purse_53 : decode cX5_purse 53 = .ok (.aload_n 0, 1) := by decide +kernel
theorem dX5_purse_54 : decode cX5_purse 54 = .ok (.getfield 36, 3) := by decide +kernel
theorem dX5_purse_57 : decode cX5_purse 57 = .ok (.iload_n 1, 1) := by decide +kernel
theorem dX5_purse_58 : decode cX5_purse 58 = .ok (.iconst 0, 1) := by decide +kernel
theorem dX5_purse_59 : decode cX5_purse 59 = .ok (.invokevirtual 184, 3) := by decide +kernel
theorem dX5_purse_62 : decode cX5_purse 62 = .ok (.iload_n 2, 1) := by decide +kernel
theorem dX5_purse_63 : decode cX5_purse 63 = .ok (.if_icmp .gt 5, 3) := by decide +kernel
theorem dX5_purse_66 : decode cX5_purse 66 = .ok (.iload_n 3, 1) := by decide +kernel
theorem dX5_purse_67 : decode cX5_purse 67 = .ok (.ireturn, 1) := by decide +kernel
theorem dX5_purse_68 : decode cX5_purse 68 = .ok (.iinc 3 1, 3) := by decide +kernel
theorem dX5_purse_71 : decode cX5_purse 71 = .ok (.goto (-48), 3) := by decide +kernel
theorem dX5_purse_74 : decode cX5_purse 74 = .ok (.bipush (-4), 2) := by decide +kernel
theorem dX5_purse_76 : decode cX5_purse 76 = .ok (.ireturn, 1) := by decide +kernel
theorem dX5_loosened_0 : decode cX5_loosened 0 = .ok (.aload_n 0, 1) := by decide +kernel
theorem dX5_loosened_1 : decode cX5_loosened 1 = .ok (.iload_n 1, 1) := by decide +kernel
theorem dX5_loosened_2 : decode cX5_loosened 2 = .ok (.invokevirtual 91, 3) := by decide +kernel
theorem dX5_loosened_5 : decode cX5_loosened 5 = .ok (.ifCond .eq 10, 3) := by decide +kernel
theorem dX5_loosened_8 : decode cX5_loosened 8 = .ok (.iload_n 2, 1) := by decide +kernel
theorem dX5_loosened_9 : decode cX5_loosened 9 = .ok (.invokestatic 178, 3) := by decide +kernel
theorem dX5_loosened_12 : decode cX5_loosened 12 = .ok (.ifCond .ne 5, 3) := by decide +kernel
theorem dX5_loosened_15 : decode cX5_loosened 15 = .ok (.iconst (-1), 1) := by decide +kernel
theorem dX5_loosened_16 : decode cX5_loosened 16 = .ok (.ireturn, 1) := by decide +kernel
theorem dX5_loosened_17 : decode cX5_loosened 17 = .ok (.bipush (-4), 2) := by decide +kernel
theorem dX5_loosened_19 : decode cX5_loosened 19 = .ok (.istore_n 3, 1) := by decide +kernel
theorem dX5_loosened_20 : decode cX5_loosened 20 = .ok (.bipush (-4), 2) := by decide +kernel
theorem dX5_loosened_22 : decode cX5_loosened 22 = .ok (.istore 4, 2) := by decide +kernel
theorem dX5_loosened_24 : decode cX5_loosened 24 = .ok (.aload_n 0, 1) := by decide +kernel
theorem dX5_loosened_25 : decode cX5_loosened 25 = .ok (.getfield 10, 3) := by decide +kernel
theorem dX5_loosened_28 : decode cX5_loosened 28 = .ok (.getfield 98, 3) := by decide +kernel
theorem dX5_loosened_31 : decode cX5_loosened 31 = .ok (.iload_n 1, 1) := by decide +kernel
theorem dX5_loosened_32 : decode cX5_loosened 32 = .ok (.iaload, 1) := by decide +kernel
theorem dX5_loosened_33 : decode cX5_loosened 33 = .ok (.istore 5, 2) := by decide +kernel
theorem dX5_loosened_35 : decode cX5_loosened 35 = .ok (.iload 5, 2) := by decide +kernel
theorem dX5_loosened_37 : decode cX5_loosened 37 = .ok (.aload_n 0, 1) := by decide +kernel
theorem dX5_loosened_38 : decode cX5_loosened 38 = .ok (.getfield 10, 3) := by decide +kernel
theorem dX5_loosened_41 : decode cX5_loosened 41 = .ok (.getfield 65, 3) := by decide +kernel
theorem dX5_loosened_44 : decode cX5_loosened 44 = .ok (.if_icmp .ge 48, 3) := by decide +kernel
theorem dX5_loosened_47 : decode cX5_loosened 47 = .ok (.aload_n 0, 1) := by decide +kernel
theorem dX5_loosened_48 : decode cX5_loosened 48 = .ok (.getfield 36, 3) := by decide +kernel
theorem dX5_loosened_51 : decode cX5_loosened 51 = .ok (.aload_n 0, 1) := by decide +kernel
theorem dX5_loosened_52 : decode cX5_loosened 52 = .ok (.getfield 10, 3) := by decide +kernel
theorem dX5_loosened_55 : decode cX5_loosened 55 = .ok (.invokevirtual 181, 3) := by decide +kernel
theorem dX5_loosened_58 : decode cX5_loosened 58 = .ok (.aload_n 0, 1) := by decide +kernel
theorem dX5_loosened_59 : decode cX5_loosened 59 = .ok (.getfield 36, 3) := by decide +kernel
theorem dX5_loosened_62 : decode cX5_loosened 62 = .ok (.iload_n 1, 1) := by decide +kernel
theorem dX5_loosened_63 : decode cX5_loosened 63 = .ok (.iconst 1, 1) := by decide +kernel
theorem dX5_loosened_64 : decode cX5_loosened 64 = .ok (.iload 5, 2) := by decide +kernel
theorem dX5_loosened_66 : decode cX5_loosened 66 = .ok (.ishl, 1) := by decide +kernel
theorem dX5_loosened_67 : decode cX5_loosened 67 = .ok (.invokevirtual 184, 3) := by decide +kernel
theorem dX5_loosened_70 : decode cX5_loosened 70 = .ok (.istore 6, 2) := by decide +kernel
theorem dX5_loosened_72 : decode cX5_loosened 72 = .ok (.iload 6, 2) := by decide +kernel
theorem dX5_loosened_74 : decode cX5_loosened 74 = .ok (.iload 4, 2) := by decide +kernel
theorem dX5_loosened_76 : decode cX5_loosened 76 = .ok (.if_icmp .le 10, 3) := by decide +kernel
theorem dX5_loosened_79 : decode cX5_loosened 79 = .ok (.iload 6, 2) := by decide +kernel
theorem dX5_loosened_81 : decode cX5_loosened 81 = .ok (.istore 4, 2) := by decide +kernel
theorem dX5_loosened_83 : decode cX5_loosened 83 = .ok (.iload 5, 2) := by decide +kernel
theorem dX5_loosened_85 : decode cX5_loosened 85 = .ok (.istore_n 3, 1) := by decide +kernel
theorem dX5_loosened_86 : decode cX5_loosened 86 = .ok (.iinc 5 1, 3) := by decide +kernel
theorem dX5_loosened_89 : decode cX5_loosened 89 = .ok (.goto (-54), 3) := by decide +kernel
theorem dX5_loosened_92 : decode cX5_loosened 92 = .ok (.iload_n 2, 1) := by decide +kernel
theorem dX5_loosened_93 : decode cX5_loosened 93 = .ok (.ifCond .ne 7, 3) := by decide +kernel
theorem dX5_loosened_96 : decode cX5_loosened 96 = .ok (.iload_n 3, 1) := by decide +kernel
theorem dX5_loosened_97 : decode cX5_loosened 97 = .ok (.goto 5, 3) := by decide +kernel
theorem dX5_loosened_100 : decode cX5_loosened 100 = .ok (.iload 4, 2) := by decide +kernel
theorem dX5_loosened_102 : decode cX5_loosened 102 = .ok (.ireturn, 1) := by decide +kernel
theorem dX5_duel_0 : decode cX5_duel 0 = .ok (.aload_n 0, 1) := by decide +kernel
theorem dX5_duel_1 : decode cX5_duel 1 = .ok (.iload_n 1, 1) := by decide +kernel
theorem dX5_duel_2 : decode cX5_duel 2 = .ok (.iload_n 2, 1) := by decide +kernel
theorem dX5_duel_3 : decode cX5_duel 3 = .ok (.invokevirtual 159, 3) := by decide +kernel
theorem dX5_duel_6 : decode cX5_duel 6 = .ok (.ifCond .eq 10, 3) := by decide +kernel
theorem dX5_duel_9 : decode cX5_duel 9 = .ok (.iload_n 3, 1) := by decide +kernel
theorem dX5_duel_10 : decode cX5_duel 10 = .ok (.invokestatic 178, 3) := by decide +kernel
theorem dX5_duel_13 : decode cX5_duel 13 = .ok (.ifCond .ne 5, 3) := by decide +kernel
theorem dX5_duel_16 : decode cX5_duel 16 = .ok (.iconst (-1), 1) := by decide +kernel
theorem dX5_duel_17 : decode cX5_duel 17 = .ok (.ireturn, 1) := by decide +kernel
theorem dX5_duel_18 : decode cX5_duel 18 = .ok (.aload_n 0, 1) := by decide +kernel
theorem dX5_duel_19 : decode cX5_duel 19 = .ok (.iload_n 1, 1) := by decide +kernel
theorem dX5_duel_20 : decode cX5_duel 20 = .ok (.iload_n 2, 1) := by decide +kernel
theorem dX5_duel_21 : decode cX5_duel 21 = .ok (.invokevirtual 205, 3) := by decide +kernel
theorem dX5_duel_24 : decode cX5_duel 24 = .ok (.iconst 0, 1) := by decide +kernel
theorem dX5_duel_25 : decode cX5_duel 25 = .ok (.istore 4, 2) := by decide +kernel
theorem dX5_duel_27 : decode cX5_duel 27 = .ok (.bipush (-4), 2) := by decide +kernel
theorem dX5_duel_29 : decode cX5_duel 29 = .ok (.istore 5, 2) := by decide +kernel
theorem dX5_duel_31 : decode cX5_duel 31 = .ok (.iconst 0, 1) := by decide +kernel
theorem dX5_duel_32 : decode cX5_duel 32 = .ok (.istore 6, 2) := by decide +kernel
theorem dX5_duel_34 : decode cX5_duel 34 = .ok (.iload 6, 2) := by decide +kernel
theorem dX5_duel_36 : decode cX5_duel 36 = .ok (.aload_n 0, 1) := by decide +kernel
theorem dX5_duel_37 : decode cX5_duel 37 = .ok (.getfield 10, 3) := by decide +kernel
theorem dX5_duel_40 : decode cX5_duel 40 = .ok (.getfield 65, 3) := by decide +kernel
theorem dX5_duel_43 : decode cX5_duel 43 = .ok (.if_icmp .gt 64, 3) := by decide +kernel
theorem dX5_duel_46 : decode cX5_duel 46 = .ok (.iconst 0, 1) := by decide +kernel
theorem dX5_duel_47 : decode cX5_duel 47 = .ok (.istore 7, 2) := by decide +kernel
theorem dX5_duel_49 : decode cX5_duel 49 = .ok (.iload 7, 2) := by decide +kernel
theorem dX5_duel_51 : decode cX5_duel 51 = .ok (.aload_n 0, 1) := by decide +kernel
theorem dX5_duel_52 : decode cX5_duel 52 = .ok (.getfield 10, 3) := by decide +kernel
theorem dX5_duel_55 : decode cX5_duel 55 = .ok (.getfield 65, 3) := by decide +kernel
theorem dX5_duel_58 : decode cX5_duel 58 = .ok (.if_icmp .gt 43, 3) := by decide +kernel
theorem dX5_duel_61 : decode cX5_duel 61 = .ok (.aload_n 0, 1) := by decide +kernel
theorem dX5_duel_62 : decode cX5_duel 62 = .ok (.iload 6, 2) := by decide +kernel
theorem dX5_duel_64 : decode cX5_duel 64 = .ok (.iload 7, 2) := by decide +kernel
theorem dX5_duel_66 : decode cX5_duel 66 = .ok (.invokevirtual 208, 3) := by decide +kernel
theorem dX5_duel_69 : decode cX5_duel 69 = .ok (.ifCond .eq 26, 3) := by decide +kernel
theorem dX5_duel_72 : decode cX5_duel 72 = .ok (.iload 4, 2) := by decide +kernel
theorem dX5_duel_74 : decode cX5_duel 74 = .ok (.ifCond .ne 14, 3) := by decide +kernel
theorem dX5_duel_77 : decode cX5_duel 77 = .ok (.bipush 100, 2) := by decide +kernel
theorem dX5_duel_79 : decode cX5_duel 79 = .ok (.iload 6, 2) := by decide +kernel
theorem dX5_duel_81 : decode cX5_duel 81 = .ok (.imul, 1) := by decide +kernel
theorem dX5_duel_82 : decode cX5_duel 82 = .ok (.iload 7, 2) := by decide +kernel
theorem dX5_duel_84 : decode cX5_duel 84 = .ok (.iadd, 1) := by decide +kernel
theorem dX5_duel_85 : decode cX5_duel 85 = .ok (.goto 5, 3) := by decide +kernel
theorem dX5_duel_88 : decode cX5_duel 88 = .ok (.iload 5, 2) := by decide +kernel
theorem dX5_duel_90 : decode cX5_duel 90 = .ok (.istore 5, 2) := by decide +kernel
theorem dX5_duel_92 : decode cX5_duel 92 = .ok (.iinc 4 1, 3) := by decide +kernel
theorem dX5_duel_95 : decode cX5_duel 95 = .ok (.iinc 7 1, 3) := by decide +kernel
theorem dX5_duel_98 : decode cX5_duel 98 = .ok (.goto (-49), 3) := by decide +kernel
theorem dX5_duel_101 : decode cX5_duel 101 = .ok (.iinc 6 1, 3) := by decide +kernel
theorem dX5_duel_104 : decode cX5_duel 104 = .ok (.goto (-70), 3) := by decide +kernel
theorem dX5_duel_107 : decode cX5_duel 107 = .ok (.iload_n 3, 1) := by decide +kernel
theorem dX5_duel_108 : decode cX5_duel 108 = .ok (.ifCond .ne 8, 3) := by decide +kernel
theorem dX5_duel_111 : decode cX5_duel 111 = .ok (.iload 4, 2) := by decide +kernel
theorem dX5_duel_113 : decode cX5_duel 113 = .ok (.goto 5, 3) := by decide +kernel
theorem dX5_duel_116 : decode cX5_duel 116 = .ok (.iload 5, 2) := by decide +kernel
theorem dX5_duel_118 : decode cX5_duel 118 = .ok (.ireturn, 1) := by decide +kernel
theorem dX5_luck_0 : decode cX5_luck 0 = .ok (.aload_n 0, 1) := by decide +kernel
theorem dX5_luck_1 : decode cX5_luck 1 = .ok (.iload_n 1, 1) := by decide +kernel
theorem dX5_luck_2 : decode cX5_luck 2 = .ok (.invokevirtual 91, 3) := by decide +kernel
theorem dX5_luck_5 : decode cX5_luck 5 = .ok (.ifCond .eq 20, 3) := by decide +kernel
theorem dX5_luck_8 : decode cX5_luck 8 = .ok (.iload_n 2, 1) := by decide +kernel
theorem dX5_luck_9 : decode cX5_luck 9 = .ok (.iconst 0, 1) := by decide +kernel
theorem dX5_luck_10 : decode cX5_luck 10 = .ok (.bipush 10, 2) := by decide +kernel
theorem dX5_luck_12 : decode cX5_luck 12 = .ok (.invokestatic 61, 3) := by decide +kernel
theorem dX5_luck_15 : decode cX5_luck 15 = .ok (.ifCond .eq 10, 3) := by decide +kernel
theorem dX5_luck_18 : decode cX5_luck 18 = .ok (.iload_n 3, 1) := by decide +kernel
theorem dX5_luck_19 : decode cX5_luck 19 = .ok (.invokestatic 178, 3) := by decide +kernel
theorem dX5_luck_22 : decode cX5_luck 22 = .ok (.ifCond .ne 5, 3) := by decide +kernel
theorem dX5_luck_25 : decode cX5_luck 25 = .ok (.iconst (-1), 1) := by decide +kernel
theorem dX5_luck_26 : decode cX5_luck 26 = .ok (.ireturn, 1) := by decide +kernel
theorem dX5_luck_27 : decode cX5_luck 27 = .ok (.aload_n 0, 1) := by decide +kernel
theorem dX5_luck_28 : decode cX5_luck 28 = .ok (.getfield 10, 3) := by decide +kernel
theorem dX5_luck_31 : decode cX5_luck 31 = .ok (.getfield 65, 3) := by decide +kernel
theorem dX5_luck_34 : decode cX5_luck 34 = .ok (.aload_n 0, 1) := by decide +kernel
theorem dX5_luck_35 : decode cX5_luck 35 = .ok (.getfield 10, 3) := by decide +kernel
theorem dX5_luck_38 : decode cX5_luck 38 = .ok (.getfield 98, 3) := by decide +kernel
theorem dX5_luck_41 : decode cX5_luck 41 = .ok (.iload_n 1, 1) := by decide +kernel
theorem dX5_luck_42 : decode cX5_luck 42 = .ok (.iaload, 1) := by decide +kernel
theorem dX5_luck_43 : decode cX5_luck 43 = .ok (.isub, 1) := by decide +kernel
theorem dX5_luck_44 : decode cX5_luck 44 = .ok (.istore 4, 2) := by decide +kernel
theorem dX5_luck_46 : decode cX5_luck 46 = .ok (.iconst 0, 1) := by decide +kernel
theorem dX5_luck_47 : decode cX5_luck 47 = .ok (.istore 5, 2) := by decide +kernel
theorem dX5_luck_49 : decode cX5_luck 49 = .ok (.iconst 1, 1) := by decide +kernel
theorem dX5_luck_50 : decode cX5_luck 50 = .ok (.istore 6, 2) := by decide +kernel
theorem dX5_luck_52 : decode cX5_luck 52 = .ok (.iconst 0, 1) := by decide +kernel
theorem dX5_luck_53 : decode cX5_luck 53 = .ok (.istore 7, 2) := by decide +kernel
theorem dX5_luck_55 : decode cX5_luck 55 = .ok (.iload 7, 2) := by decide +kernel
theorem dX5_luck_57 : decode cX5_luck 57 = .ok (.iload 4, 2) := by decide +kernel
theorem dX5_luck_59 : decode cX5_luck 59 = .ok (.if_icmp .ge 16, 3) := by decide +kernel
theorem dX5_luck_62 : decode cX5_luck 62 = .ok (.iload 6, 2) := by decide +kernel
theorem dX5_luck_64 : decode cX5_luck 64 = .ok (.bipush 10, 2) := by decide +kernel
theorem dX5_luck_66 : decode cX5_luck 66 = .ok (.imul, 1) := by decide +kernel
theorem dX5_luck_67 : decode cX5_luck 67 = .ok (.istore 6, 2) := by decide +kernel
theorem dX5_luck_69 : decode cX5_luck 69 = .ok (.iinc 7 1, 3) := by decide +kernel
theorem dX5_luck_72 : decode cX5_luck 72 = .ok (.goto (-17), 3) := by decide +kernel
theorem dX5_luck_75 : decode cX5_luck 75 = .ok (.iconst 0, 1) := by decide +kernel
theorem dX5_luck_76 : decode cX5_luck 76 = .ok (.istore 7, 2) := by decide +kernel
theorem dX5_luck_78 : decode cX5_luck 78 = .ok (.iload 7, 2) := by decide +kernel
theorem dX5_luck_80 : decode cX5_luck 80 = .ok (.iconst 1, 1) := by decide +kernel
theorem dX5_luck_81 : decode cX5_luck 81 = .ok (.iload 4, 2) := by decide +kernel
theorem dX5_luck_83 : decode cX5_luck 83 = .ok (.ishl, 1) := by decide +kernel
theorem dX5_luck_84 : decode cX5_luck 84 = .ok (.if_icmp .ge 51, 3) := by decide +kernel
theorem dX5_luck_87 : decode cX5_luck 87 = .ok (.iload 7, 2) := by decide +kernel
theorem dX5_luck_89 : decode cX5_luck 89 = .ok (.iload 4, 2) := by decide +kernel
theorem dX5_luck_91 : decode cX5_luck 91 = .ok (.iload_n 2, 1) := by decide +kernel
theorem dX5_luck_92 : decode cX5_luck 92 = .ok (.invokestatic 211, 3) := by decide +kernel
theorem dX5_luck_95 : decode cX5_luck 95 = .ok (.istore 8, 2) := by decide +kernel
theorem dX5_luck_97 : decode cX5_luck 97 = .ok (.iload 8, 2) := by decide +kernel
theorem dX5_luck_99 : decode cX5_luck 99 = .ok (.ifCond .le 30, 3) := by decide +kernel
theorem dX5_luck_102 : decode cX5_luck 102 = .ok (.aload_n 0, 1) := by decide +kernel
theorem dX5_luck_103 : decode cX5_luck 103 = .ok (.iload_n 1, 1) := by decide +kernel
theorem dX5_luck_104 : decode cX5_luck 104 = .ok (.iload 7, 2) := by decide +kernel
theorem dX5_luck_106 : decode cX5_luck 106 = .ok (.aload_n 0, 1) := by decide +kernel
theorem dX5_luck_107 : decode cX5_luck 107 = .ok (.getfield 10, 3) := by decide +kernel
theorem dX5_luck_110 : decode cX5_luck 110 = .ok (.getfield 98, 3) := by decide +kernel
theorem dX5_luck_113 : decode cX5_luck 113 = .ok (.iload_n 1, 1) := by decide +kernel
theorem dX5_luck_114 : decode cX5_luck 114 = .ok (.iaload, 1) := by decide +kernel
theorem dX5_luck_115 : decode cX5_luck 115 = .ok (.ishl, 1) := by decide +kernel
theorem dX5_luck_116 : decode cX5_luck 116 = .ok (.invokevirtual 214, 3) := by decide +kernel
theorem dX5_luck_119 : decode cX5_luck 119 = .ok (.ifCond .eq 10, 3) := by decide +kernel
theorem dX5_luck_122 : decode cX5_luck 122 = .ok (.iload 5, 2) := by decide +kernel
theorem dX5_luck_124 : decode cX5_luck 124 = .ok (.iload 8, 2) := by decide +kernel
theorem dX5_luck_126 : decode cX5_luck 126 = .ok (.iadd, 1) := by decide +kernel
theorem dX5_luck_127 : decode cX5_luck 127 = .ok (.istore 5, 2) := by decide +kernel
theorem dX5_luck_129 : decode cX5_luck 129 = .ok (.iinc 7 1, 3) := by decide +kernel
theorem dX5_luck_132 : decode cX5_luck 132 = .ok (.goto (-54), 3) := by decide +kernel
theorem dX5_luck_135 : decode cX5_luck 135 = .ok (.iconst 1, 1) := by decide +kernel
theorem dX5_luck_136 : decode cX5_luck 136 = .ok (.iload 5, 2) := by decide +kernel
theorem dX5_luck_138 : decode cX5_luck 138 = .ok (.iload 6, 2) := by decide +kernel
theorem dX5_luck_140 : decode cX5_luck 140 = .ok (.invokestatic 217, 3) := by decide +kernel
theorem dX5_luck_143 : decode cX5_luck 143 = .ok (.invokestatic 196, 3) := by decide +kernel
theorem dX5_luck_146 : decode cX5_luck 146 = .ok (.istore 7, 2) := by decide +kernel
theorem dX5_luck_148 : decode cX5_luck 148 = .ok (.iload_n 3, 1) := by decide +kernel
theorem dX5_luck_149 : decode cX5_luck 149 = .ok (.ifCond .ne 8, 3) := by decide +kernel
theorem dX5_luck_152 : decode cX5_luck 152 = .ok (.iload 5, 2) := by decide +kernel
theorem dX5_luck_154 : decode cX5_luck 154 = .ok (.goto 5, 3) := by decide +kernel
theorem dX5_luck_157 : decode cX5_luck 157 = .ok (.iload 6, 2) := by decide +kernel
theorem dX5_luck_159 : decode cX5_luck 159 = .ok (.iload 7, 2) := by decide +kernel
theorem dX5_luck_161 : decode cX5_luck 161 = .ok (.idiv, 1) := by decide +kernel
theorem dX5_luck_162 : decode cX5_luck 162 = .ok (.ireturn, 1) := by decide +kernel
theorem dX5_image_0 : decode cX5_image 0 = .ok (.aload_n 0, 1) := by decide +kernel
theorem dX5_image_1 : decode cX5_image 1 = .ok (.getfield 23, 3) := by decide +kernel
theorem dX5_image_4 : decode cX5_image 4 = .ok (.aload_n 0, 1) := by decide +kernel
theorem dX5_image_5 : decode cX5_image 5 = .ok (.getfield 10, 3) := by decide +kernel
theorem dX5_image_8 : decode cX5_image 8 = .ok (.invokevirtual 220, 3) := by decide +kernel
theorem dX5_image_11 : decode cX5_image 11 = .ok (.aload_n 0, 1) := by decide +kernel
theorem dX5_image_12 : decode cX5_image 12 = .ok (.getfield 26, 3) := by decide +kernel
theorem dX5_image_15 : decode cX5_image 15 = .ok (.aload_n 0, 1) := by decide +kernel
theorem dX5_image_16 : decode cX5_image 16 = .ok (.getfield 19, 3) := by decide +kernel
theorem dX5_image_19 : decode cX5_image 19 = .ok (.invokevirtual 223, 3) := by decide +kernel
theorem dX5_image_22 : decode cX5_image 22 = .ok (.aload_n 0, 1) := by decide +kernel
theorem dX5_image_23 : decode cX5_image 23 = .ok (.iconst 1, 1) := by decide +kernel
theorem dX5_image_24 : decode cX5_image 24 = .ok (.putfield 29, 3) := by decide +kernel
theorem dX5_image_27 : decode cX5_image 27 = .ok (.iconst 1, 1) := by decide +kernel
theorem dX5_image_28 : decode cX5_image 28 = .ok (.ireturn, 1) := by decide +kernel
theorem dX5_restore_0 : decode cX5_restore 0 = .ok (.aload_n 0, 1) := by decide +kernel
theorem dX5_restore_1 : decode cX5_restore 1 = .ok (.getfield 29, 3) := by decide +kernel
theorem dX5_restore_4 : decode cX5_restore 4 = .ok (.ifCond .ne 6, 3) := by decide +kernel
theorem dX5_restore_7 : decode cX5_restore 7 = .ok (.bipush (-4), 2) := by decide +kernel
theorem dX5_restore_9 : decode cX5_restore 9 = .ok (.ireturn, 1) := by decide +kernel
theorem dX5_restore_10 : decode cX5_restore 10 = .ok (.aload_n 0, 1) := by decide +kernel
theorem dX5_restore_11 : decode cX5_restore 11 = .ok (.getfield 10, 3) := by decide +kernel
theorem dX5_restore_14 : decode cX5_restore 14 = .ok (.aload_n 0, 1) := by decide +kernel
theorem dX5_restore_15 : decode cX5_restore 15 = .ok (.getfield 23, 3) := by decide +kernel
theorem dX5_restore_18 : decode cX5_restore 18 = .ok (.invokevirtual 220, 3) := by decide +kernel
theorem dX5_restore_21 : decode cX5_restore 21 = .ok (.aload_n 0, 1) := by decide +kernel
theorem dX5_restore_22 : decode cX5_restore 22 = .ok (.getfield 19, 3) := by decide +kernel
theorem dX5_restore_25 : decode cX5_restore 25 = .ok (.aload_n 0, 1) := by decide +kernel
theorem dX5_restore_26 : decode cX5_restore 26 = .ok (.getfield 26, 3) := by decide +kernel
theorem dX5_restore_29 : decode cX5_restore 29 = .ok (.invokevirtual 223, 3) := by decide +kernel
theorem dX5_restore_32 : decode cX5_restore 32 = .ok (.iconst 1, 1) := by decide +kernel
theorem dX5_restore_33 : decode cX5_restore 33 = .ok (.ireturn, 1) := by decide +kernel
theorem dX5_passed_0 : decode cX5_passed 0 = .ok (.aload_n 0, 1) := by decide +kernel
theorem dX5_passed_1 : decode cX5_passed 1 = .ok (.iload_n 1, 1) := by decide +kernel
theorem dX5_passed_2 : decode cX5_passed 2 = .ok (.iload_n 2, 1) := by decide +kernel
theorem dX5_passed_3 : decode cX5_passed 3 = .ok (.iload_n 3, 1) := by decide +kernel
theorem dX5_passed_4 : decode cX5_passed 4 = .ok (.iload 4, 2) := by decide +kernel
theorem dX5_passed_6 : decode cX5_passed 6 = .ok (.iload 5, 2) := by decide +kernel
theorem dX5_passed_8 : decode cX5_passed 8 = .ok (.invokevirtual 226, 3) := by decide +kernel
theorem dX5_passed_11 : decode cX5_passed 11 = .ok (.istore 6, 2) := by decide +kernel
theorem dX5_passed_13 : decode cX5_passed 13 = .ok (.iload 6, 2) := by decide +kernel
theorem dX5_passed_15 : decode cX5_passed 15 = .ok (.ifCond .ge 6, 3) := by decide +kernel
theorem dX5_passed_18 : decode cX5_passed 18 = .ok (.iload 6, 2) := by decide +kernel
theorem dX5_passed_20 : decode cX5_passed 20 = .ok (.ireturn, 1) := by decide +kernel
theorem dX5_passed_21 : decode cX5_passed 21 = .ok (.iconst 0, 1) := by decide +kernel
theorem dX5_passed_22 : decode cX5_passed 22 = .ok (.istore 7, 2) := by decide +kernel
theorem dX5_passed_24 : decode cX5_passed 24 = .ok (.iconst 0, 1) := by decide +kernel
theorem dX5_passed_25 : decode cX5_passed 25 = .ok (.istore 8, 2) := by decide +kernel
theorem dX5_passed_27 : decode cX5_passed 27 = .ok (.iload 8, 2) := by decide +kernel
theorem dX5_passed_29 : decode cX5_passed 29 = .ok (.iconst 5, 1) := by decide +kernel
theorem dX5_passed_30 : decode cX5_passed 30 = .ok (.if_icmp .ge 71, 3) := by decide +kernel
theorem dX5_passed_33 : decode cX5_passed 33 = .ok (.aload_n 0, 1) := by decide +kernel
theorem dX5_passed_34 : decode cX5_passed 34 = .ok (.getfield 36, 3) := by decide +kernel
theorem dX5_passed_37 : decode cX5_passed 37 = .ok (.aload_n 0, 1) := by decide +kernel
theorem dX5_passed_38 : decode cX5_passed 38 = .ok (.getfield 10, 3) := by decide +kernel
theorem dX5_passed_41 : decode cX5_passed 41 = .ok (.invokevirtual 181, 3) := by decide +kernel
theorem dX5_passed_44 : decode cX5_passed 44 = .ok (.aload_n 0, 1) := by decide +kernel
theorem dX5_passed_45 : decode cX5_passed 45 = .ok (.getfield 36, 3) := by decide +kernel
theorem dX5_passed_48 : decode cX5_passed 48 = .ok (.getfield 187, 3) := by decide +kernel
theorem dX5_passed_51 : decode cX5_passed 51 = .ok (.getfield 95, 3) := by decide +kernel
theorem dX5_passed_54 : decode cX5_passed 54 = .ok (.iload_n 1, 1) := by decide +kernel
theorem dX5_passed_55 : decode cX5_passed 55 = .ok (.iload 8, 2) := by decide +kernel
theorem dX5_passed_57 : decode cX5_passed 57 = .ok (.iastore, 1) := by decide +kernel
theorem dX5_passed_58 : decode cX5_passed 58 = .ok (.aload_n 0, 1) := by decide +kernel
theorem dX5_passed_59 : decode cX5_passed 59 = .ok (.getfield 36, 3) := by decide +kernel
theorem dX5_passed_62 : decode cX5_passed 62 = .ok (.iload_n 1, 1) := by decide +kernel
theorem dX5_passed_63 : decode cX5_passed 63 = .ok (.iconst 0, 1) := by decide +kernel
theorem dX5_passed_64 : decode cX5_passed 64 = .ok (.invokevirtual 184, 3) := by decide +kernel
theorem dX5_passed_67 : decode cX5_passed 67 = .ok (.pop, 1) := by decide +kernel
theorem dX5_passed_68 : decode cX5_passed 68 = .ok (.aload_n 0, 1) := by decide +kernel
theorem dX5_passed_69 : decode cX5_passed 69 = .ok (.iload_n 1, 1) := by decide +kernel
theorem dX5_passed_70 : decode cX5_passed 70 = .ok (.aload_n 0, 1) := by decide +kernel
theorem dX5_passed_71 : decode cX5_passed 71 = .ok (.getfield 50, 3) := by decide +kernel
theorem dX5_passed_74 : decode cX5_passed 74 = .ok (.iload_n 2, 1) := by decide +kernel
theorem dX5_passed_75 : decode cX5_passed 75 = .ok (.aaload, 1) := by decide +kernel
theorem dX5_passed_76 : decode cX5_passed 76 = .ok (.iload 4, 2) := by decide +kernel
theorem dX5_passed_78 : decode cX5_passed 78 = .ok (.iload 5, 2) := by decide +kernel
theorem dX5_passed_80 : decode cX5_passed 80 = .ok (.invokevirtual 230, 3) := by decide +kernel
theorem dX5_passed_83 : decode cX5_passed 83 = .ok (.ifCond .eq 12, 3) := by decide +kernel
theorem dX5_passed_86 : decode cX5_passed 86 = .ok (.iload 7, 2) := by decide +kernel
theorem dX5_passed_88 : decode cX5_passed 88 = .ok (.iconst 1, 1) := by decide +kernel
theorem dX5_passed_89 : decode cX5_passed 89 = .ok (.iload 8, 2) := by decide +kernel
theorem dX5_passed_91 : decode cX5_passed 91 = .ok (.ishl, 1) := by decide +kernel
theorem dX5_passed_92 : decode cX5_passed 92 = .ok (.ior, 1) := by decide +kernel
theorem dX5_passed_93 : decode cX5_passed 93 = .ok (.istore 7, 2) := by decide +kernel
theorem dX5_passed_95 : decode cX5_passed 95 = .ok (.iinc 8 1, 3) := by decide +kernel
theorem dX5_passed_98 : decode cX5_passed 98 = .ok (.goto (-71), 3) := by decide +kernel
theorem dX5_passed_101 : decode cX5_passed 101 = .ok (.iload 7, 2) := by decide +kernel
theorem dX5_passed_103 : decode cX5_passed 103 = .ok (.ireturn, 1) := by decide +kernel
theorem dX5_film_0 : decode cX5_film 0 = .ok (.aload_n 0, 1) := by decide +kernel
theorem dX5_film_1 : decode cX5_film 1 = .ok (.iload_n 1, 1) := by decide +kernel
theorem dX5_film_2 : decode cX5_film 2 = .ok (.iload_n 3, 1) := by decide +kernel
theorem dX5_film_3 : decode cX5_film 3 = .ok (.iload 4, 2) := by decide +kernel
theorem dX5_film_5 : decode cX5_film 5 = .ok (.iload 5, 2) := by decide +kernel
theorem dX5_film_7 : decode cX5_film 7 = .ok (.iload_n 2, 1) := by decide +kernel
theorem dX5_film_8 : decode cX5_film 8 = .ok (.invokevirtual 226, 3) := by decide +kernel
theorem dX5_film_11 : decode cX5_film 11 = .ok (.istore 6, 2) := by decide +kernel
theorem dX5_film_13 : decode cX5_film 13 = .ok (.iload 6, 2) := by decide +kernel
theorem dX5_film_15 : decode cX5_film 15 = .ok (.ifCond .ge 6, 3) := by decide +kernel
theorem dX5_film_18 : decode cX5_film 18 = .ok (.iload 6, 2) := by decide +kernel
theorem dX5_film_20 : decode cX5_film 20 = .ok (.ireturn, 1) := by decide +kernel
theorem dX5_film_21 : decode cX5_film 21 = .ok (.aload_n 0, 1) := by decide +kernel
theorem dX5_film_22 : decode cX5_film 22 = .ok (.getfield 36, 3) := by decide +kernel
theorem dX5_film_25 : decode cX5_film 25 = .ok (.aload_n 0, 1) := by decide +kernel
theorem dX5_film_26 : decode cX5_film 26 = .ok (.getfield 10, 3) := by decide +kernel
theorem dX5_film_29 : decode cX5_film 29 = .ok (.invokevirtual 181, 3) := by decide +kernel
theorem dX5_film_32 : decode cX5_film 32 = .ok (.aload_n 0, 1) := by decide +kernel
theorem dX5_film_33 : decode cX5_film 33 = .ok (.getfield 36, 3) := by decide +kernel
theorem dX5_film_36 : decode cX5_film 36 = .ok (.iload_n 1, 1) := by decide +kernel
theorem dX5_film_37 : decode cX5_film 37 = .ok (.iconst 0, 1) := by decide +kernel
theorem dX5_film_38 : decode cX5_film 38 = .ok (.invokevirtual 184, 3) := by decide +kernel
theorem dX5_film_41 : decode cX5_film 41 = .ok (.pop, 1) := by decide +kernel
theorem dX5_film_42 : decode cX5_film 42 = .ok (.aload_n 0, 1) := by decide +kernel
theorem dX5_film_43 : decode cX5_film 43 = .ok (.getfield 10, 3) := by decide +kernel
theorem dX5_film_46 : decode cX5_film 46 = .ok (.getfield 98, 3) := by decide +kernel
theorem dX5_film_49 : decode cX5_film 49 = .ok (.iload_n 1, 1) := by decide +kernel
theorem dX5_film_50 : decode cX5_film 50 = .ok (.iaload, 1) := by decide +kernel
theorem dX5_film_51 : decode cX5_film 51 = .ok (.iconst 1, 1) := by decide +kernel
theorem dX5_film_52 : decode cX5_film 52 = .ok (.iadd, 1) := by decide +kernel
theorem dX5_film_53 : decode cX5_film 53 = .ok (.istore 7, 2) := by decide +kernel
theorem dX5_film_55 : decode cX5_film 55 = .ok (.iconst 0, 1) := by decide +kernel
theorem dX5_film_56 : decode cX5_film 56 = .ok (.istore 8, 2) := by decide +kernel
theorem dX5_film_58 : decode cX5_film 58 = .ok (.iload 8, 2) := by decide +kernel
theorem dX5_film_60 : decode cX5_film 60 = .ok (.iload_n 2, 1) := by decide +kernel
theorem dX5_film_61 : decode cX5_film 61 = .ok (.if_icmp .ge 37, 3) := by decide +kernel
theorem dX5_film_64 : decode cX5_film 64 = .ok (.aload_n 0, 1) := by decide +kernel
theorem dX5_film_65 : decode cX5_film 65 = .ok (.getfield 50, 3) := by decide +kernel
theorem dX5_film_68 : decode cX5_film 68 = .ok (.iload_n 3, 1) := by decide +kernel
theorem dX5_film_69 : decode cX5_film 69 = .ok (.aaload, 1) := by decide +kernel
theorem dX5_film_70 : decode cX5_film 70 = .ok (.iload 5, 2) := by decide +kernel
theorem dX5_film_72 : decode cX5_film 72 = .ok (.iload 8, 2) := by decide +kernel
theorem dX5_film_74 : decode cX5_film 74 = .ok (.iadd, 1) := by decide +kernel
theorem dX5_film_75 : decode cX5_film 75 = .ok (.aload_n 0, 1) := by decide +kernel
theorem dX5_film_76 : decode cX5_film 76 = .ok (.getfield 36, 3) := by decide +kernel
theorem dX5_film_79 : decode cX5_film 79 = .ok (.iload_n 1, 1) := by decide +kernel
theorem dX5_film_80 : decode cX5_film 80 = .ok (.iload 7, 2) := by decide +kernel
theorem dX5_film_82 : decode cX5_film 82 = .ok (.iload 8, 2) := by decide +kernel
theorem dX5_film_84 : decode cX5_film 84 = .ok (.iadd, 1) := by decide +kernel
theorem dX5_film_85 : decode cX5_film 85 = .ok (.invokevirtual 190, 3) := by decide +kernel
theorem dX5_film_88 : decode cX5_film 88 = .ok (.i2l, 1) := by decide +kernel
theorem dX5_film_89 : decode cX5_film 89 = .ok (.invokevirtual 234, 3) := by decide +kernel
theorem dX5_film_92 : decode cX5_film 92 = .ok (.iinc 8 1, 3) := by decide +kernel
theorem dX5_film_95 : decode cX5_film 95 = .ok (.goto (-37), 3) := by decide +kernel
theorem dX5_film_98 : decode cX5_film 98 = .ok (.iload_n 2, 1) := by decide +kernel
theorem dX5_film_99 : decode cX5_film 99 = .ok (.ireturn, 1) := by decide +kernel
theorem dX5_sheet_0 : decode cX5_sheet 0 = .ok (.iload_n 1, 1) := by decide +kernel
theorem dX5_sheet_1 : decode cX5_sheet 1 = .ok (.invokestatic 238, 3) := by decide +kernel
theorem dX5_sheet_4 : decode cX5_sheet 4 = .ok (.ifCond .eq 16, 3) := by decide +kernel
theorem dX5_sheet_7 : decode cX5_sheet 7 = .ok (.iload_n 2, 1) := by decide +kernel
theorem dX5_sheet_8 : decode cX5_sheet 8 = .ok (.invokestatic 241, 3) := by decide +kernel
theorem dX5_sheet_11 : decode cX5_sheet 11 = .ok (.ifCond .eq 9, 3) := by decide +kernel
theorem dX5_sheet_14 : decode cX5_sheet 14 = .ok (.iload_n 3, 1) := by decide +kernel
theorem dX5_sheet_15 : decode cX5_sheet 15 = .ok (.bipush 24, 2) := by decide +kernel
theorem dX5_sheet_17 : decode cX5_sheet 17 = .ok (.if_icmp .le 5, 3) := by decide +kernel
theorem dX5_sheet_20 : decode cX5_sheet 20 = .ok (.iconst (-1), 1) := by decide +kernel
theorem dX5_sheet_21 : decode cX5_sheet 21 = .ok (.ireturn, 1) := by decide +kernel
theorem dX5_sheet_22 : decode cX5_sheet 22 = .ok (.iload_n 3, 1) := by decide +kernel
theorem dX5_sheet_23 : decode cX5_sheet 23 = .ok (.ifCond .ge 6, 3) := by decide +kernel
theorem dX5_sheet_26 : decode cX5_sheet 26 = .ok (.bipush (-14), 2) := by decide +kernel
theorem dX5_sheet_28 : decode cX5_sheet 28 = .ok (.ireturn, 1) := by decide +kernel
theorem dX5_sheet_29 : decode cX5_sheet 29 = .ok (.aload_n 0, 1) := by decide +kernel
theorem dX5_sheet_30 : decode cX5_sheet 30 = .ok (.getfield 50, 3) := by decide +kernel
theorem dX5_sheet_33 : decode cX5_sheet 33 = .ok (.iload_n 1, 1) := by decide +kernel
theorem dX5_sheet_34 : decode cX5_sheet 34 = .ok (.aaload, 1) := by decide +kernel
theorem dX5_sheet_35 : decode cX5_sheet 35 = .ok (.iload_n 2, 1) := by decide +kernel
theorem dX5_sheet_36 : decode cX5_sheet 36 = .ok (.iload_n 3, 1) := by decide +kernel
theorem dX5_sheet_37 : decode cX5_sheet 37 = .ok (.invokevirtual 244, 3) := by decide +kernel
theorem dX5_sheet_40 : decode cX5_sheet 40 = .ok (.iload_n 3, 1) := by decide +kernel
theorem dX5_sheet_41 : decode cX5_sheet 41 = .ok (.ireturn, 1) := by decide +kernel
theorem dX5_drop_0 : decode cX5_drop 0 = .ok (.iload_n 1, 1) := by decide +kernel
theorem dX5_drop_1 : decode cX5_drop 1 = .ok (.invokestatic 238, 3) := by decide +kernel
theorem dX5_drop_4 : decode cX5_drop 4 = .ok (.ifCond .ne 5, 3) := by decide +kernel
theorem dX5_drop_7 : decode cX5_drop 7 = .ok (.iconst (-1), 1) := by decide +kernel
theorem dX5_drop_8 : decode cX5_drop 8 = .ok (.ireturn, 1) := by decide +kernel
theorem dX5_drop_9 : decode cX5_drop 9 = .ok (.aload_n 0, 1) := by decide +kernel
theorem dX5_drop_10 : decode cX5_drop 10 = .ok (.getfield 50, 3) := by decide +kernel
theorem dX5_drop_13 : decode cX5_drop 13 = .ok (.iload_n 1, 1) := by decide +kernel
theorem dX5_drop_14 : decode cX5_drop 14 = .ok (.aaload, 1) := by decide +kernel
theorem dX5_drop_15 : decode cX5_drop 15 = .ok (.invokevirtual 247, 3) := by decide +kernel
theorem dX5_drop_18 : decode cX5_drop 18 = .ok (.ifCond .eq 8, 3) := by decide +kernel
theorem dX5_drop_21 : decode cX5_drop 21 = .ok (.bipush (-11), 2) := by decide +kernel
theorem dX5_drop_23 : decode cX5_drop 23 = .ok (.goto 12, 3) := by decide +kernel
theorem dX5_drop_26 : decode cX5_drop 26 = .ok (.aload_n 0, 1) := by decide +kernel
theorem dX5_drop_27 : decode cX5_drop 27 = .ok (.getfield 50, 3) := by decide +kernel
theorem dX5_drop_30 : decode cX5_drop 30 = .ok (.iload_n 1, 1) := by decide +kernel
theorem dX5_drop_31 : decode cX5_drop 31 = .ok (.aaload, 1) := by decide +kernel
theorem dX5_drop_32 : decode cX5_drop 32 = .ok (.invokevirtual 250, 3) := by decide +kernel
theorem dX5_drop_35 : decode cX5_drop 35 = .ok (.ireturn, 1) := by decide +kernel
theorem dX5_item_0 : decode cX5_item 0 = .ok (.iload_n 1, 1) := by decide +kernel
theorem dX5_item_1 : decode cX5_item 1 = .ok (.invokestatic 238, 3) := by decide +kernel
theorem dX5_item_4 : decode cX5_item 4 = .ok (.ifCond .eq 10, 3) := by decide +kernel
theorem dX5_item_7 : decode cX5_item 7 = .ok (.iload_n 2, 1) := by decide +kernel
theorem dX5_item_8 : decode cX5_item 8 = .ok (.invokestatic 241, 3) := by decide +kernel
theorem dX5_item_11 : decode cX5_item 11 = .ok (.ifCond .ne 5, 3) := by decide +kernel
theorem dX5_item_14 : decode cX5_item 14 = .ok (.iconst (-1), 1) := by decide +kernel
theorem dX5_item_15 : decode cX5_item 15 = .ok (.ireturn, 1) := by decide +kernel
theorem dX5_item_16 : decode cX5_item 16 = .ok (.aload_n 0, 1) := by decide +kernel
theorem dX5_item_17 : decode cX5_item 17 = .ok (.getfield 50, 3) := by decide +kernel
theorem dX5_item_20 : decode cX5_item 20 = .ok (.iload_n 1, 1) := by decide +kernel
theorem dX5_item_21 : decode cX5_item 21 = .ok (.aaload, 1) := by decide +kernel
theorem dX5_item_22 : decode cX5_item 22 = .ok (.iload_n 2, 1) := by decide +kernel
theorem dX5_item_23 : decode cX5_item 23 = .ok (.iload_n 3, 1) := by decide +kernel
theorem dX5_item_24 : decode cX5_item 24 = .ok (.iconst 1, 1) := by decide +kernel
theorem dX5_item_25 : decode cX5_item 25 = .ok (.invokevirtual 253, 3) := by decide +kernel
theorem dX5_item_28 : decode cX5_item 28 = .ok (.istore 6, 2) := by decide +kernel
theorem dX5_item_30 : decode cX5_item 30 = .ok (.iload 6, 2) := by decide +kernel
theorem dX5_item_32 : decode cX5_item 32 = .ok (.ifCond .ge 6, 3) := by decide +kernel
theorem dX5_item_35 : decode cX5_item 35 = .ok (.iload 6, 2) := by decide +kernel
theorem dX5_item_37 : decode cX5_item 37 = .ok (.ireturn, 1) := by decide +kernel
theorem dX5_item_38 : decode cX5_item 38 = .ok (.aload_n 0, 1) := by decide +kernel
theorem dX5_item_39 : decode cX5_item 39 = .ok (.getfield 50, 3) := by decide +kernel
theorem dX5_item_42 : decode cX5_item 42 = .ok (.iload_n 1, 1) := by decide +kernel
theorem dX5_item_43 : decode cX5_item 43 = .ok (.aaload, 1) := by decide +kernel
theorem dX5_item_44 : decode cX5_item 44 = .ok (.iload_n 3, 1) := by decide +kernel
theorem dX5_item_45 : decode cX5_item 45 = .ok (.lload 4, 2) := by decide +kernel
theorem dX5_item_47 : decode cX5_item 47 = .ok (.invokevirtual 234, 3) := by decide +kernel
theorem dX5_item_50 : decode cX5_item 50 = .ok (.iconst 1, 1) := by decide +kernel
theorem dX5_item_51 : decode cX5_item 51 = .ok (.ireturn, 1) := by decide +kernel
theorem dX5_copy_0 : decode cX5_copy 0 = .ok (.iload_n 1, 1) := by decide +kernel
theorem dX5_copy_1 : decode cX5_copy 1 = .ok (.invokestatic 238, 3) := by decide +kernel
theorem dX5_copy_4 : decode cX5_copy 4 = .ok (.ifCond .eq 10, 3) := by decide +kernel
theorem dX5_copy_7 : decode cX5_copy 7 = .ok (.iload_n 3, 1) := by decide +kernel
theorem dX5_copy_8 : decode cX5_copy 8 = .ok (.invokestatic 238, 3) := by decide +kernel
theorem dX5_copy_11 : decode cX5_copy 11 = .ok (.ifCond .ne 5, 3) := by decide +kernel
theorem dX5_copy_14 : decode cX5_copy 14 = .ok (.iconst (-1), 1) := by decide +kernel
theorem dX5_copy_15 : decode cX5_copy 15 = .ok (.ireturn, 1) := by decide +kernel
theorem dX5_copy_16 : decode cX5_copy 16 = .ok (.aload_n 0, 1) := by decide +kernel
theorem dX5_copy_17 : decode cX5_copy 17 = .ok (.getfield 50, 3) := by decide +kernel
theorem dX5_copy_20 : decode cX5_copy 20 = .ok (.iload_n 1, 1) := by decide +kernel
theorem dX5_copy_21 : decode cX5_copy 21 = .ok (.aaload, 1) := by decide +kernel
theorem dX5_copy_22 : decode cX5_copy 22 = .ok (.astore 6, 2) := by decide +kernel
theorem dX5_copy_24 : decode cX5_copy 24 = .ok (.aload_n 0, 1) := by decide +kernel
theorem dX5_copy_25 : decode cX5_copy 25 = .ok (.getfield 50, 3) := by decide +kernel
theorem dX5_copy_28 : decode cX5_copy 28 = .ok (.iload_n 3, 1) := by decide +kernel
theorem dX5_copy_29 : decode cX5_copy 29 = .ok (.aaload, 1) := by decide +kernel
theorem dX5_copy_30 : decode cX5_copy 30 = .ok (.astore 7, 2) := by decide +kernel
theorem dX5_copy_32 : decode cX5_copy 32 = .ok (.aload 6, 2) := by decide +kernel
theorem dX5_copy_34 : decode cX5_copy 34 = .ok (.invokevirtual 247, 3) := by decide +kernel
theorem dX5_copy_37 : decode cX5_copy 37 = .ok (.ifCond .ne 11, 3) := by decide +kernel
theorem dX5_copy_40 : decode cX5_copy 40 = .ok (.aload 7, 2) := by decide +kernel
theorem dX5_copy_42 : decode cX5_copy 42 = .ok (.invokevirtual 247, 3) := by decide +kernel
theorem dX5_copy_45 : decode cX5_copy 45 = .ok (.ifCond .eq 6, 3) := by decide +kernel
theorem dX5_copy_48 : decode cX5_copy 48 = .ok (.bipush (-11), 2) := by decide +kernel
theorem dX5_copy_50 : decode cX5_copy 50 = .ok (.ireturn, 1) := by decide +kernel
theorem dX5_copy_51 : decode cX5_copy 51 = .ok (.aload 6, 2) := by decide +kernel
theorem dX5_copy_53 : decode cX5_copy 53 = .ok (.getfield 256, 3) := by decide +kernel
theorem dX5_copy_56 : decode cX5_copy 56 = .ok (.aload 7, 2) := by decide +kernel
theorem dX5_copy_58 : decode cX5_copy 58 = .ok (.getfield 256, 3) := by decide +kernel
theorem dX5_copy_61 : decode cX5_copy 61 = .ok (.if_icmp .eq 6, 3) := by decide +kernel
theorem dX5_copy_64 : decode cX5_copy 64 = .ok (.bipush (-12), 2) := by decide +kernel
theorem dX5_copy_66 : decode cX5_copy 66 = .ok (.ireturn, 1) := by decide +kernel
theorem dX5_copy_67 : decode cX5_copy 67 = .ok (.aload 6, 2) := by decide +kernel
theorem dX5_copy_69 : decode cX5_copy 69 = .ok (.iload_n 2, 1) := by decide +kernel
theorem dX5_copy_70 : decode cX5_copy 70 = .ok (.iload 5, 2) := by decide +kernel
theorem dX5_copy_72 : decode cX5_copy 72 = .ok (.invokevirtual 259, 3) := by decide +kernel
theorem dX5_copy_75 : decode cX5_copy 75 = .ok (.ifCond .eq 15, 3) := by decide +kernel
theorem dX5_copy_78 : decode cX5_copy 78 = .ok (.aload 7, 2) := by decide +kernel
theorem dX5_copy_80 : decode cX5_copy 80 = .ok (.iload 4, 2) := by decide +kernel
theorem dX5_copy_82 : decode cX5_copy 82 = .ok (.iload 5, 2) := by decide +kernel
theorem dX5_copy_84 : decode cX5_copy 84 = .ok (.invokevirtual 259, 3) := by decide +kernel
theorem dX5_copy_87 : decode cX5_copy 87 = .ok (.ifCond .ne 6, 3) := by decide +kernel
theorem dX5_copy_90 : decode cX5_copy 90 = .ok (.bipush (-13), 2) := by decide +kernel
theorem dX5_copy_92 : decode cX5_copy 92 = .ok (.ireturn, 1) := by decide +kernel
theorem dX5_copy_93 : decode cX5_copy 93 = .ok (.aload 6, 2) := by decide +kernel
theorem dX5_copy_95 : decode cX5_copy 95 = .ok (.getfield 262, 3) := by decide +kernel
theorem dX5_copy_98 : decode cX5_copy 98 = .ok (.iload_n 2, 1) := by decide +kernel
theorem dX5_copy_99 : decode cX5_copy 99 = .ok (.aload 7, 2) := by decide +kernel
theorem dX5_copy_101 : decode cX5_copy 101 = .ok (.getfield 262, 3) := by decide +kernel
theorem dX5_copy_104 : decode cX5_copy 104 = .ok (.iload 4, 2) := by decide +kernel
theorem dX5_copy_106 : decode cX5_copy 106 = .ok (.iload 5, 2) := by decide +kernel
theorem dX5_copy_108 : decode cX5_copy 108 = .ok (.invokestatic 266, 3) := by decide +kernel
theorem dX5_copy_111 : decode cX5_copy 111 = .ok (.iload 5, 2) := by decide +kernel
theorem dX5_copy_113 : decode cX5_copy 113 = .ok (.ireturn, 1) := by decide +kernel
theorem dX5_within_0 : decode cX5_within 0 = .ok (.iload_n 0, 1) := by decide +kernel
theorem dX5_within_1 : decode cX5_within 1 = .ok (.iload_n 1, 1) := by decide +kernel
theorem dX5_within_2 : decode cX5_within 2 = .ok (.if_icmp .lt 12, 3) := by decide +kernel
theorem dX5_within_5 : decode cX5_within 5 = .ok (.iload_n 0, 1) := by decide +kernel
theorem dX5_within_6 : decode cX5_within 6 = .ok (.iload_n 2, 1) := by decide +kernel
theorem dX5_within_7 : decode cX5_within 7 = .ok (.if_icmp .gt 7, 3) := by decide +kernel
theorem dX5_within_10 : decode cX5_within 10 = .ok (.iconst 1, 1) := by decide +kernel
theorem dX5_within_11 : decode cX5_within 11 = .ok (.goto 4, 3) := by decide +kernel
theorem dX5_within_14 : decode cX5_within 14 = .ok (.iconst 0, 1) := by decide +kernel
theorem dX5_within_15 : decode cX5_within 15 = .ok (.ireturn, 1) := by decide +kernel
theorem dX5_isZeroOrOne_0 : decode cX5_isZeroOrOne 0 = .ok (.iload_n 0, 1) := by decide +kernel
theorem dX5_isZeroOrOne_1 : decode cX5_isZeroOrOne 1 = .ok (.iconst 0, 1) := by decide +kernel
theorem dX5_isZeroOrOne_2 : decode cX5_isZeroOrOne 2 = .ok (.iconst 1, 1) := by decide +kernel
theorem dX5_isZeroOrOne_3 : decode cX5_isZeroOrOne 3 = .ok (.invokestatic 61, 3) := by decide +kernel
theorem dX5_isZeroOrOne_6 : decode cX5_isZeroOrOne 6 = .ok (.ireturn, 1) := by decide +kernel
theorem dX5_isSheet_0 : decode cX5_isSheet 0 = .ok (.iload_n 0, 1) := by decide +kernel
theorem dX5_isSheet_1 : decode cX5_isSheet 1 = .ok (.iconst 0, 1) := by decide +kernel
theorem dX5_isSheet_2 : decode cX5_isSheet 2 = .ok (.iconst 3, 1) := by decide +kernel
theorem dX5_isSheet_3 : decode cX5_isSheet 3 = .ok (.invokestatic 61, 3) := by decide +kernel
theorem dX5_isSheet_6 : decode cX5_isSheet 6 = .ok (.ireturn, 1) := by decide +kernel
theorem dX5_isLane_0 : decode cX5_isLane 0 = .ok (.iload_n 0, 1) := by decide +kernel
theorem dX5_isLane_1 : decode cX5_isLane 1 = .ok (.iconst 0, 1) := by decide +kernel
theorem dX5_isLane_2 : decode cX5_isLane 2 = .ok (.iconst 3, 1) := by decide +kernel
theorem dX5_isLane_3 : decode cX5_isLane 3 = .ok (.invokestatic 61, 3) := by decide +kernel
theorem dX5_isLane_6 : decode cX5_isLane 6 = .ok (.ireturn, 1) := by decide +kernel
theorem dX5_isRider_0 : decode cX5_isRider 0 = .ok (.iload_n 1, 1) := by decide +kernel
theorem dX5_isRider_1 : decode cX5_isRider 1 = .ok (.iconst 0, 1) := by decide +kernel
theorem dX5_isRider_2 : decode cX5_isRider 2 = .ok (.aload_n 0, 1) := by decide +kernel
theorem dX5_isRider_3 : decode cX5_isRider 3 = .ok (.getfield 10, 3) := by decide +kernel
theorem dX5_isRider_6 : decode cX5_isRider 6 = .ok (.getfield 76, 3) := by decide +kernel
theorem dX5_isRider_9 : decode cX5_isRider 9 = .ok (.iconst 1, 1) := by decide +kernel
theorem dX5_isRider_10 : decode cX5_isRider 10 = .ok (.isub, 1) := by decide +kernel
theorem dX5_isRider_11 : decode cX5_isRider 11 = .ok (.invokestatic 61, 3) := by decide +kernel
theorem dX5_isRider_14 : decode cX5_isRider 14 = .ok (.ireturn, 1) := by decide +kernel
theorem dX5_areTwo_0 : decode cX5_areTwo 0 = .ok (.aload_n 0, 1) := by decide +kernel
theorem dX5_areTwo_1 : decode cX5_areTwo 1 = .ok (.iload_n 1, 1) := by decide +kernel
theorem dX5_areTwo_2 : decode cX5_areTwo 2 = .ok (.invokevirtual 91, 3) := by decide +kernel
theorem dX5_areTwo_5 : decode cX5_areTwo 5 = .ok (.ifCond .eq 20, 3) := by decide +kernel
theorem dX5_areTwo_8 : decode cX5_areTwo 8 = .ok (.aload_n 0, 1) := by decide +kernel
theorem dX5_areTwo_9 : decode cX5_areTwo 9 = .ok (.iload_n 2, 1) := by decide +kernel
theorem dX5_areTwo_10 : decode cX5_areTwo 10 = .ok (.invokevirtual 91, 3) := by decide +kernel
theorem dX5_areTwo_13 : decode cX5_areTwo 13 = .ok (.ifCond .eq 12, 3) := by decide +kernel
theorem dX5_areTwo_16 : decode cX5_areTwo 16 = .ok (.iload_n 1, 1) := by decide +kernel
theorem dX5_areTwo_17 : decode cX5_areTwo 17 = .ok (.iload_n 2, 1) := by decide +kernel
theorem dX5_areTwo_18 : decode cX5_areTwo 18 = .ok (.if_icmp .eq 7, 3) := by decide +kernel
theorem dX5_areTwo_21 : decode cX5_areTwo 21 = .ok (.iconst 1, 1) := by decide +kernel
theorem dX5_areTwo_22 : decode cX5_areTwo 22 = .ok (.goto 4, 3) := by decide +kernel
theorem dX5_areTwo_25 : decode cX5_areTwo 25 = .ok (.iconst 0, 1) := by decide +kernel
theorem dX5_areTwo_26 : decode cX5_areTwo 26 = .ok (.ireturn, 1) := by decide +kernel
theorem dX5_has_0 : decode cX5_has 0 = .ok (.iload_n 0, 1) := by decide +kernel
theorem dX5_has_1 : decode cX5_has 1 = .ok (.iload_n 1, 1) := by decide +kernel
theorem dX5_has_2 : decode cX5_has 2 = .ok (.ishr, 1) := by decide +kernel
theorem dX5_has_3 : decode cX5_has 3 = .ok (.iconst 1, 1) := by decide +kernel
theorem dX5_has_4 : decode cX5_has 4 = .ok (.iand, 1) := by decide +kernel
theorem dX5_has_5 : decode cX5_has 5 = .ok (.ifCond .eq 7, 3) := by decide +kernel
theorem dX5_has_8 : decode cX5_has 8 = .ok (.iconst 1, 1) := by decide +kernel
theorem dX5_has_9 : decode cX5_has 9 = .ok (.goto 4, 3) := by decide +kernel
theorem dX5_has_12 : decode cX5_has 12 = .ok (.iconst 0, 1) := by decide +kernel
theorem dX5_has_13 : decode cX5_has 13 = .ok (.ireturn, 1) := by decide +kernel
theorem dX5_sumOf_0 : decode cX5_sumOf 0 = .ok (.iconst 0, 1) := by decide +kernel
theorem dX5_sumOf_1 : decode cX5_sumOf 1 = .ok (.istore_n 2, 1) := by decide +kernel
theorem dX5_sumOf_2 : decode cX5_sumOf 2 = .ok (.iconst 0, 1) := by decide +kernel
theorem dX5_sumOf_3 : decode cX5_sumOf 3 = .ok (.istore_n 3, 1) := by decide +kernel
theorem dX5_sumOf_4 : decode cX5_sumOf 4 = .ok (.iload_n 3, 1) := by decide +kernel
theorem dX5_sumOf_5 : decode cX5_sumOf 5 = .ok (.iload_n 1, 1) := by decide +kernel
theorem dX5_sumOf_6 : decode cX5_sumOf 6 = .ok (.if_icmp .ge 15, 3) := by decide +kernel
theorem dX5_sumOf_9 : decode cX5_sumOf 9 = .ok (.iload_n 2, 1) := by decide +kernel
theorem dX5_sumOf_10 : decode cX5_sumOf 10 = .ok (.aload_n 0, 1) := by decide +kernel
theorem dX5_sumOf_11 : decode cX5_sumOf 11 = .ok (.iload_n 3, 1) := by decide +kernel
theorem dX5_sumOf_12 : decode cX5_sumOf 12 = .ok (.iaload, 1) := by decide +kernel
theorem dX5_sumOf_13 : decode cX5_sumOf 13 = .ok (.iadd, 1) := by decide +kernel
theorem dX5_sumOf_14 : decode cX5_sumOf 14 = .ok (.istore_n 2, 1) := by decide +kernel
theorem dX5_sumOf_15 : decode cX5_sumOf 15 = .ok (.iinc 3 1, 3) := by decide +kernel
theorem dX5_sumOf_18 : decode cX5_sumOf 18 = .ok (.goto (-14), 3) := by decide +kernel
theorem dX5_sumOf_21 : decode cX5_sumOf 21 = .ok (.iload_n 2, 1) := by decide +kernel
theorem dX5_sumOf_22 : decode cX5_sumOf 22 = .ok (.ireturn, 1) := by decide +kernel
theorem dX5_stageTakes_0 : decode cX5_stageTakes 0 = .ok (.aload_n 0, 1) := by decide +kernel
theorem dX5_stageTakes_1 : decode cX5_stageTakes 1 = .ok (.getfield 10, 3) := by decide +kernel
theorem dX5_stageTakes_4 : decode cX5_stageTakes 4 = .ok (.iload_n 1, 1) := by decide +kernel
theorem dX5_stageTakes_5 : decode cX5_stageTakes 5 = .ok (.invokevirtual 156, 3) := by decide +kernel
theorem dX5_stageTakes_8 : decode cX5_stageTakes 8 = .ok (.ifCond .eq 6, 3) := by decide +kernel
theorem dX5_stageTakes_11 : decode cX5_stageTakes 11 = .ok (.bipush (-4), 2) := by decide +kernel
theorem dX5_stageTakes_13 : decode cX5_stageTakes 13 = .ok (.ireturn, 1) := by decide +kernel
theorem dX5_stageTakes_14 : decode cX5_stageTakes 14 = .ok (.aload_n 0, 1) := by decide +kernel
theorem dX5_stageTakes_15 : decode cX5_stageTakes 15 = .ok (.getfield 10, 3) := by decide +kernel
theorem dX5_stageTakes_18 : decode cX5_stageTakes 18 = .ok (.getfield 95, 3) := by decide +kernel
theorem dX5_stageTakes_21 : decode cX5_stageTakes 21 = .ok (.iload_n 1, 1) := by decide +kernel
theorem dX5_stageTakes_22 : decode cX5_stageTakes 22 = .ok (.iaload, 1) := by decide +kernel
theorem dX5_stageTakes_23 : decode cX5_stageTakes 23 = .ok (.aload_n 0, 1) := by decide +kernel
theorem dX5_stageTakes_24 : decode cX5_stageTakes 24 = .ok (.getfield 10, 3) := by decide +kernel
theorem dX5_stageTakes_27 : decode cX5_stageTakes 27 = .ok (.getfield 82, 3) := by decide +kernel
theorem dX5_stageTakes_30 : decode cX5_stageTakes 30 = .ok (.aload_n 0, 1) := by decide +kernel
theorem dX5_stageTakes_31 : decode cX5_stageTakes 31 = .ok (.getfield 10, 3) := by decide +kernel
theorem dX5_stageTakes_34 : decode cX5_stageTakes 34 = .ok (.getfield 98, 3) := by decide +kernel
theorem dX5_stageTakes_37 : decode cX5_stageTakes 37 = .ok (.iload_n 1, 1) := by decide +kernel
theorem dX5_stageTakes_38 : decode cX5_stageTakes 38 = .ok (.iaload, 1) := by decide +kernel
theorem dX5_stageTakes_39 : decode cX5_stageTakes 39 = .ok (.iaload, 1) := by decide +kernel
theorem dX5_stageTakes_40 : decode cX5_stageTakes 40 = .ok (.iload_n 2, 1) := by decide +kernel
theorem dX5_stageTakes_41 : decode cX5_stageTakes 41 = .ok (.invokestatic 272, 3) := by decide +kernel
theorem dX5_stageTakes_44 : decode cX5_stageTakes 44 = .ok (.ireturn, 1) := by decide +kernel
theorem dX5_minutesFor_0 : decode cX5_minutesFor 0 = .ok (.iload_n 2, 1) := by decide +kernel
theorem dX5_minutesFor_1 : decode cX5_minutesFor 1 = .ok (.ifCond .eq 8, 3) := by decide +kernel
theorem dX5_minutesFor_4 : decode cX5_minutesFor 4 = .ok (.bipush 6, 2) := by decide +kernel
theorem dX5_minutesFor_6 : decode cX5_minutesFor 6 = .ok (.goto 5, 3) := by decide +kernel
theorem dX5_minutesFor_9 : decode cX5_minutesFor 9 = .ok (.bipush 10, 2) := by decide +kernel
theorem dX5_minutesFor_11 : decode cX5_minutesFor 11 = .ok (.istore_n 3, 1) := by decide +kernel
theorem dX5_minutesFor_12 : decode cX5_minutesFor 12 = .ok (.iload_n 1, 1) := by decide +kernel
theorem dX5_minutesFor_13 : decode cX5_minutesFor 13 = .ok (.iload_n 3, 1) := by decide +kernel
theorem dX5_minutesFor_14 : decode cX5_minutesFor 14 = .ok (.imul, 1) := by decide +kernel
theorem dX5_minutesFor_15 : decode cX5_minutesFor 15 = .ok (.istore 4, 2) := by decide +kernel
theorem dX5_minutesFor_17 : decode cX5_minutesFor 17 = .ok (.iload 4, 2) := by decide +kernel
theorem dX5_minutesFor_19 : decode cX5_minutesFor 19 = .ok (.iload 4, 2) := by decide +kernel
theorem dX5_minutesFor_21 : decode cX5_minutesFor 21 = .ok (.iconst 2, 1) := by decide +kernel
theorem dX5_minutesFor_22 : decode cX5_minutesFor 22 = .ok (.idiv, 1) := by decide +kernel
theorem dX5_minutesFor_23 : decode cX5_minutesFor 23 = .ok (.iadd, 1) := by decide +kernel
theorem dX5_minutesFor_24 : decode cX5_minutesFor 24 = .ok (.istore 5, 2) := by decide +kernel
theorem dX5_minutesFor_26 : decode cX5_minutesFor 26 = .ok (.iload_n 0, 1) := by decide +kernel
theorem dX5_minutesFor_27 : decode cX5_minutesFor 27 = .ok (.tableswitch 56 1 4 #[29, 34, 37, 49], 29) := by decide +kernel
theorem dX5_minutesFor_56 : decode cX5_minutesFor 56 = .ok (.iload 4, 2) := by decide +kernel
theorem dX5_minutesFor_58 : decode cX5_minutesFor 58 = .ok (.iconst 5, 1) := by decide +kernel
theorem dX5_minutesFor_59 : decode cX5_minutesFor 59 = .ok (.iadd, 1) := by decide +kernel
theorem dX5_minutesFor_60 : decode cX5_minutesFor 60 = .ok (.ireturn, 1) := by decide +kernel
theorem dX5_minutesFor_61 : decode cX5_minutesFor 61 = .ok (.iload 5, 2) := by decide +kernel
theorem dX5_minutesFor_63 : decode cX5_minutesFor 63 = .ok (.ireturn, 1) := by decide +kernel
theorem dX5_minutesFor_64 : decode cX5_minutesFor 64 = .ok (.iload_n 2, 1) := by decide +kernel
theorem dX5_minutesFor_65 : decode cX5_minutesFor 65 = .ok (.ifCond .eq 8, 3) := by decide +kernel
theorem dX5_minutesFor_68 : decode cX5_minutesFor 68 = .ok (.iload 4, 2) := by decide +kernel
theorem dX5_minutesFor_70 : decode cX5_minutesFor 70 = .ok (.goto 5, 3) := by decide +kernel
theorem dX5_minutesFor_73 : decode cX5_minutesFor 73 = .ok (.iload 5, 2) := by decide +kernel
theorem dX5_minutesFor_75 : decode cX5_minutesFor 75 = .ok (.ireturn, 1) := by decide +kernel
theorem dX5_minutesFor_76 : decode cX5_minutesFor 76 = .ok (.iload 4, 2) := by decide +kernel
theorem dX5_minutesFor_78 : decode cX5_minutesFor 78 = .ok (.iload_n 3, 1) := by decide +kernel
theorem dX5_minutesFor_79 : decode cX5_minutesFor 79 = .ok (.isub, 1) := by decide +kernel
theorem dX5_minutesFor_80 : decode cX5_minutesFor 80 = .ok (.iconst 5, 1) := by decide +kernel
theorem dX5_minutesFor_81 : decode cX5_minutesFor 81 = .ok (.iadd, 1) := by decide +kernel
theorem dX5_minutesFor_82 : decode cX5_minutesFor 82 = .ok (.ireturn, 1) := by decide +kernel
theorem dX5_minutesFor_83 : decode cX5_minutesFor 83 = .ok (.iload 4, 2) := by decide +kernel
theorem dX5_minutesFor_85 : decode cX5_minutesFor 85 = .ok (.ireturn, 1) := by decide +kernel
theorem dX5_minuteBuying_0 : decode cX5_minuteBuying 0 = .ok (.aload_n 0, 1) := by decide +kernel
theorem dX5_minuteBuying_1 : decode cX5_minuteBuying 1 = .ok (.getfield 36, 3) := by decide +kernel
theorem dX5_minuteBuying_4 : decode cX5_minuteBuying 4 = .ok (.aload_n 0, 1) := by decide +kernel
theorem dX5_minuteBuying_5 : decode cX5_minuteBuying 5 = .ok (.getfield 10, 3) := by decide +kernel
theorem dX5_minuteBuying_8 : decode cX5_minuteBuying 8 = .ok (.invokevirtual 181, 3) := by decide +kernel
theorem dX5_minuteBuying_11 : decode cX5_minuteBuying 11 = .ok (.aload_n 0, 1) := by decide +kernel
theorem dX5_minuteBuying_12 : decode cX5_minuteBuying 12 = .ok (.getfield 36, 3) := by decide +kernel
theorem dX5_minuteBuying_15 : decode cX5_minuteBuying 15 = .ok (.getfield 187, 3) := by decide +kernel
theorem dX5_minuteBuying_18 : decode cX5_minuteBuying 18 = .ok (.getfield 107, 3) := by decide +kernel
theorem dX5_minuteBuying_21 : decode cX5_minuteBuying 21 = .ok (.iload_n 1, 1) := by decide +kernel
theorem dX5_minuteBuying_22 : decode cX5_minuteBuying 22 = .ok (.iload_n 2, 1) := by decide +kernel
theorem dX5_minuteBuying_23 : decode cX5_minuteBuying 23 = .ok (.iastore, 1) := by decide +kernel
theorem dX5_minuteBuying_24 : decode cX5_minuteBuying 24 = .ok (.aload_n 0, 1) := by decide +kernel
theorem dX5_minuteBuying_25 : decode cX5_minuteBuying 25 = .ok (.getfield 36, 3) := by decide +kernel
theorem dX5_minuteBuying_28 : decode cX5_minuteBuying 28 = .ok (.iload_n 1, 1) := by decide +kernel
theorem dX5_minuteBuying_29 : decode cX5_minuteBuying 29 = .ok (.iconst 0, 1) := by decide +kernel
theorem dX5_minuteBuying_30 : decode cX5_minuteBuying 30 = .ok (.invokevirtual 184, 3) := by decide +kernel
theorem dX5_minuteBuying_33 : decode cX5_minuteBuying 33 = .ok (.ireturn, 1) := by decide +kernel
theorem dX5_soonestSet_0 : decode cX5_soonestSet 0 = .ok (.aload_n 0, 1) := by decide +kernel
theorem dX5_soonestSet_1 : decode cX5_soonestSet 1 = .ok (.getfield 10, 3) := by decide +kernel
theorem dX5_soonestSet_4 : decode cX5_soonestSet 4 = .ok (.getfield 98, 3) := by decide +kernel
theorem dX5_soonestSet_7 : decode cX5_soonestSet 7 = .ok (.iload_n 1, 1) := by decide +kernel
theorem dX5_soonestSet_8 : decode cX5_soonestSet 8 = .ok (.iaload, 1) := by decide +kernel
theorem dX5_soonestSet_9 : decode cX5_soonestSet 9 = .ok (.istore_n 2, 1) := by decide +kernel
theorem dX5_soonestSet_10 : decode cX5_soonestSet 10 = .ok (.iconst 0, 1) := by decide +kernel
theorem dX5_soonestSet_11 : decode cX5_soonestSet 11 = .ok (.istore_n 3, 1) := by decide +kernel
theorem dX5_soonestSet_12 : decode cX5_soonestSet 12 = .ok (.aload_n 0, 1) := by decide +kernel
theorem dX5_soonestSet_13 : decode cX5_soonestSet 13 = .ok (.iload_n 1, 1) := by decide +kernel
theorem dX5_soonestSet_14 : decode cX5_soonestSet 14 = .ok (.iconst 0, 1) := by decide +kernel
theorem dX5_soonestSet_15 : decode cX5_soonestSet 15 = .ok (.invokevirtual 202, 3) := by decide +kernel
theorem dX5_soonestSet_18 : decode cX5_soonestSet 18 = .ok (.istore 4, 2) := by decide +kernel
theorem dX5_soonestSet_20 : decode cX5_soonestSet 20 = .ok (.iconst 1, 1) := by decide +kernel
theorem dX5_soonestSet_21 : decode cX5_soonestSet 21 = .ok (.istore 5, 2) := by decide +kernel
theorem dX5_soonestSet_23 : decode cX5_soonestSet 23 = .ok (.iload 5, 2) := by decide +kernel
theorem dX5_soonestSet_25 : decode cX5_soonestSet 25 = .ok (.iconst 1, 1) := by decide +kernel
theorem dX5_soonestSet_26 : decode cX5_soonestSet 26 = .ok (.aload_n 0, 1) := by decide +kernel
theorem dX5_soonestSet_27 : decode cX5_soonestSet 27 = .ok (.getfield 10, 3) := by decide +kernel
theorem dX5_soonestSet_30 : decode cX5_soonestSet 30 = .ok (.getfield 65, 3) := by decide +kernel
theorem dX5_soonestSet_33 : decode cX5_soonestSet 33 = .ok (.iload_n 2, 1) := by decide +kernel
theorem dX5_soonestSet_34 : decode cX5_soonestSet 34 = .ok (.isub, 1) := by decide +kernel
theorem dX5_soonestSet_35 : decode cX5_soonestSet 35 = .ok (.ishl, 1) := by decide +kernel
theorem dX5_soonestSet_36 : decode cX5_soonestSet 36 = .ok (.if_icmp .ge 69, 3) := by decide +kernel
theorem dX5_soonestSet_39 : decode cX5_soonestSet 39 = .ok (.iload 5, 2) := by decide +kernel
theorem dX5_soonestSet_41 : decode cX5_soonestSet 41 = .ok (.iload_n 2, 1) := by decide +kernel
theorem dX5_soonestSet_42 : decode cX5_soonestSet 42 = .ok (.ishl, 1) := by decide +kernel
theorem dX5_soonestSet_43 : decode cX5_soonestSet 43 = .ok (.istore 6, 2) := by decide +kernel
theorem dX5_soonestSet_45 : decode cX5_soonestSet 45 = .ok (.aload_n 0, 1) := by decide +kernel
theorem dX5_soonestSet_46 : decode cX5_soonestSet 46 = .ok (.iload_n 1, 1) := by decide +kernel
theorem dX5_soonestSet_47 : decode cX5_soonestSet 47 = .ok (.iload 6, 2) := by decide +kernel
theorem dX5_soonestSet_49 : decode cX5_soonestSet 49 = .ok (.invokevirtual 202, 3) := by decide +kernel
theorem dX5_soonestSet_52 : decode cX5_soonestSet 52 = .ok (.istore 7, 2) := by decide +kernel
theorem dX5_soonestSet_54 : decode cX5_soonestSet 54 = .ok (.iload 6, 2) := by decide +kernel
theorem dX5_soonestSet_56 : decode cX5_soonestSet 56 = .ok (.invokestatic 276, 3) := by decide +kernel
theorem dX5_soonestSet_59 : decode cX5_soonestSet 59 = .ok (.iload_n 3, 1) := by decide +kernel
theorem dX5_soonestSet_60 : decode cX5_soonestSet 60 = .ok (.invokestatic 276, 3) := by decide +kernel
theorem dX5_soonestSet_63 : decode cX5_soonestSet 63 = .ok (.if_icmp .ge 7, 3) := by decide +kernel
theorem dX5_soonestSet_66 : decode cX5_soonestSet 66 = .ok (.iconst 1, 1) := by decide +kernel
theorem dX5_soonestSet_67 : decode cX5_soonestSet 67 = .ok (.goto 4, 3) := by decide +kernel
theorem dX5_soonestSet_70 : decode cX5_soonestSet 70 = .ok (.iconst 0, 1) := by decide +kernel
theorem dX5_soonestSet_71 : decode cX5_soonestSet 71 = .ok (.istore 8, 2) := by decide +kernel
theorem dX5_soonestSet_73 : decode cX5_soonestSet 73 = .ok (.iload 7, 2) := by decide +kernel
theorem dX5_soonestSet_75 : decode cX5_soonestSet 75 = .ok (.iload 4, 2) := by decide +kernel
theorem dX5_soonestSet_77 : decode cX5_soonestSet 77 = .ok (.if_icmp .lt 15, 3) := by decide +kernel
theorem dX5_soonestSet_80 : decode cX5_soonestSet 80 = .ok (.iload 7, 2) := by decide +kernel
theorem dX5_soonestSet_82 : decode cX5_soonestSet 82 = .ok (.iload 4, 2) := by decide +kernel
theorem dX5_soonestSet_84 : decode cX5_soonestSet 84 = .ok (.if_icmp .ne 15, 3) := by decide +kernel
theorem dX5_soonestSet_87 : decode cX5_soonestSet 87 = .ok (.iload 8, 2) := by decide +kernel
theorem dX5_soonestSet_89 : decode cX5_soonestSet 89 = .ok (.ifCond .eq 10, 3) := by decide +kernel
theorem dX5_soonestSet_92 : decode cX5_soonestSet 92 = .ok (.iload 7, 2) := by decide +kernel
theorem dX5_soonestSet_94 : decode cX5_soonestSet 94 = .ok (.istore 4, 2) := by decide +kernel
theorem dX5_soonestSet_96 : decode cX5_soonestSet 96 = .ok (.iload 6, 2) := by decide +kernel
theorem dX5_soonestSet_98 : decode cX5_soonestSet 98 = .ok (.istore_n 3, 1) := by decide +kernel
theorem dX5_soonestSet_99 : decode cX5_soonestSet 99 = .ok (.iinc 5 1, 3) := by decide +kernel
theorem dX5_soonestSet_102 : decode cX5_soonestSet 102 = .ok (.goto (-79), 3) := by decide +kernel
theorem dX5_soonestSet_105 : decode cX5_soonestSet 105 = .ok (.iload_n 3, 1) := by decide +kernel
theorem dX5_soonestSet_106 : decode cX5_soonestSet 106 = .ok (.ireturn, 1) := by decide +kernel
theorem dX5_fillDuel_0 : decode cX5_fillDuel 0 = .ok (.iconst 0, 1) := by decide +kernel
theorem dX5_fillDuel_1 : decode cX5_fillDuel 1 = .ok (.istore_n 3, 1) := by decide +kernel
theorem dX5_fillDuel_2 : decode cX5_fillDuel 2 = .ok (.iload_n 3, 1) := by decide +kernel
theorem dX5_fillDuel_3 : decode cX5_fillDuel 3 = .ok (.aload_n 0, 1) := by decide +kernel
theorem dX5_fillDuel_4 : decode cX5_fillDuel 4 = .ok (.getfield 10, 3) := by decide +kernel
theorem dX5_fillDuel_7 : decode cX5_fillDuel 7 = .ok (.getfield 65, 3) := by decide +kernel
theorem dX5_fillDuel_10 : decode cX5_fillDuel 10 = .ok (.if_icmp .gt 118, 3) := by decide +kernel
theorem dX5_fillDuel_13 : decode cX5_fillDuel 13 = .ok (.iconst 0, 1) := by decide +kernel
theorem dX5_fillDuel_14 : decode cX5_fillDuel 14 = .ok (.istore 4, 2) := by decide +kernel
theorem dX5_fillDuel_16 : decode cX5_fillDuel 16 = .ok (.iload 4, 2) := by decide +kernel
theorem dX5_fillDuel_18 : decode cX5_fillDuel 18 = .ok (.aload_n 0, 1) := by decide +kernel
theorem dX5_fillDuel_19 : decode cX5_fillDuel 19 = .ok (.getfield 10, 3) := by decide +kernel
theorem dX5_fillDuel_22 : decode cX5_fillDuel 22 = .ok (.getfield 65, 3) := by decide +kernel
theorem dX5_fillDuel_25 : decode cX5_fillDuel 25 = .ok (.if_icmp .gt 97, 3) := by decide +kernel
theorem dX5_fillDuel_28 : decode cX5_fillDuel 28 = .ok (.aload_n 0, 1) := by decide +kernel
theorem dX5_fillDuel_29 : decode cX5_fillDuel 29 = .ok (.getfield 36, 3) := by decide +kernel
theorem dX5_fillDuel_32 : decode cX5_fillDuel 32 = .ok (.aload_n 0, 1) := by decide +kernel
theorem dX5_fillDuel_33 : decode cX5_fillDuel 33 = .ok (.getfield 10, 3) := by decide +kernel
theorem dX5_fillDuel_36 : decode cX5_fillDuel 36 = .ok (.invokevirtual 181, 3) := by decide +kernel
theorem dX5_fillDuel_39 : decode cX5_fillDuel 39 = .ok (.aload_n 0, 1) := by decide +kernel
theorem dX5_fillDuel_40 : decode cX5_fillDuel 40 = .ok (.getfield 36, 3) := by decide +kernel
theorem dX5_fillDuel_43 : decode cX5_fillDuel 43 = .ok (.getfield 187, 3) := by decide +kernel
theorem dX5_fillDuel_46 : decode cX5_fillDuel 46 = .ok (.getfield 107, 3) := by decide +kernel
theorem dX5_fillDuel_49 : decode cX5_fillDuel 49 = .ok (.iload_n 1, 1) := by decide +kernel
theorem dX5_fillDuel_50 : decode cX5_fillDuel 50 = .ok (.iconst 1, 1) := by decide +kernel
theorem dX5_fillDuel_51 : decode cX5_fillDuel 51 = .ok (.iload_n 3, 1) := by decide +kernel
theorem dX5_fillDuel_52 : decode cX5_fillDuel 52 = .ok (.ishl, 1) := by decide +kernel
theorem dX5_fillDuel_53 : decode cX5_fillDuel 53 = .ok (.iconst 1, 1) := by decide +kernel
theorem dX5_fillDuel_54 : decode cX5_fillDuel 54 = .ok (.ishr, 1) := by decide +kernel
theorem dX5_fillDuel_55 : decode cX5_fillDuel 55 = .ok (.iastore, 1) := by decide +kernel
theorem dX5_fillDuel_56 : decode cX5_fillDuel 56 = .ok (.aload_n 0, 1) := by decide +kernel
theorem dX5_fillDuel_57 : decode cX5_fillDuel 57 = .ok (.getfield 36, 3) := by decide +kernel
theorem dX5_fillDuel_60 : decode cX5_fillDuel 60 = .ok (.getfield 187, 3) := by decide +kernel
theorem dX5_fillDuel_63 : decode cX5_fillDuel 63 = .ok (.getfield 107, 3) := by decide +kernel
theorem dX5_fillDuel_66 : decode cX5_fillDuel 66 = .ok (.iload_n 2, 1) := by decide +kernel
theorem dX5_fillDuel_67 : decode cX5_fillDuel 67 = .ok (.iconst 1, 1) := by decide +kernel
theorem dX5_fillDuel_68 : decode cX5_fillDuel 68 = .ok (.iload 4, 2) := by decide +kernel
theorem dX5_fillDuel_70 : decode cX5_fillDuel 70 = .ok (.ishl, 1) := by decide +kernel
theorem dX5_fillDuel_71 : decode cX5_fillDuel 71 = .ok (.iconst 1, 1) := by decide +kernel
theorem dX5_fillDuel_72 : decode cX5_fillDuel 72 = .ok (.ishr, 1) := by decide +kernel
theorem dX5_fillDuel_73 : decode cX5_fillDuel 73 = .ok (.iastore, 1) := by decide +kernel
theorem dX5_fillDuel_74 : decode cX5_fillDuel 74 = .ok (.aload_n 0, 1) := by decide +kernel
theorem dX5_fillDuel_75 : decode cX5_fillDuel 75 = .ok (.getfield 54, 3) := by decide +kernel
theorem dX5_fillDuel_78 : decode cX5_fillDuel 78 = .ok (.iload_n 3, 1) := by decide +kernel
theorem dX5_fillDuel_79 : decode cX5_fillDuel 79 = .ok (.bipush 9, 2) := by decide +kernel
theorem dX5_fillDuel_81 : decode cX5_fillDuel 81 = .ok (.imul, 1) := by decide +kernel
theorem dX5_fillDuel_82 : decode cX5_fillDuel 82 = .ok (.iload 4, 2) := by decide +kernel
theorem dX5_fillDuel_84 : decode cX5_fillDuel 84 = .ok (.iadd, 1) := by decide +kernel
theorem dX5_fillDuel_85 : decode cX5_fillDuel 85 = .ok (.aload_n 0, 1) := by decide +kernel
theorem dX5_fillDuel_86 : decode cX5_fillDuel 86 = .ok (.getfield 36, 3) := by decide +kernel
theorem dX5_fillDuel_89 : decode cX5_fillDuel 89 = .ok (.iload_n 1, 1) := by decide +kernel
theorem dX5_fillDuel_90 : decode cX5_fillDuel 90 = .ok (.iconst 0, 1) := by decide +kernel
theorem dX5_fillDuel_91 : decode cX5_fillDuel 91 = .ok (.invokevirtual 184, 3) := by decide +kernel
theorem dX5_fillDuel_94 : decode cX5_fillDuel 94 = .ok (.iastore, 1) := by decide +kernel
theorem dX5_fillDuel_95 : decode cX5_fillDuel 95 = .ok (.aload_n 0, 1) := by decide +kernel
theorem dX5_fillDuel_96 : decode cX5_fillDuel 96 = .ok (.getfield 58, 3) := by decide +kernel
theorem dX5_fillDuel_99 : decode cX5_fillDuel 99 = .ok (.iload_n 3, 1) := by decide +kernel
theorem dX5_fillDuel_100 : decode cX5_fillDuel 100 = .ok (.bipush 9, 2) := by decide +kernel
theorem dX5_fillDuel_102 : decode cX5_fillDuel 102 = .ok (.imul, 1) := by decide +kernel
theorem dX5_fillDuel_103 : decode cX5_fillDuel 103 = .ok (.iload 4, 2) := by decide +kernel
theorem dX5_fillDuel_105 : decode cX5_fillDuel 105 = .ok (.iadd, 1) := by decide +kernel
theorem dX5_fillDuel_106 : decode cX5_fillDuel 106 = .ok (.aload_n 0, 1) := by decide +kernel
theorem dX5_fillDuel_107 : decode cX5_fillDuel 107 = .ok (.getfield 36, 3) := by decide +kernel
theorem dX5_fillDuel_110 : decode cX5_fillDuel 110 = .ok (.iload_n 2, 1) := by decide +kernel
theorem dX5_fillDuel_111 : decode cX5_fillDuel 111 = .ok (.iconst 0, 1) := by decide +kernel
theorem dX5_fillDuel_112 : decode cX5_fillDuel 112 = .ok (.invokevirtual 184, 3) := by decide +kernel
theorem dX5_fillDuel_115 : decode cX5_fillDuel 115 = .ok (.iastore, 1) := by decide +kernel
theorem dX5_fillDuel_116 : decode cX5_fillDuel 116 = .ok (.iinc 4 1, 3) := by decide +kernel
theorem dX5_fillDuel_119 : decode cX5_fillDuel 119 = .ok (.goto (-103), 3) := by decide +kernel
theorem dX5_fillDuel_122 : decode cX5_fillDuel 122 = .ok (.iinc 3 1, 3) := by decide +kernel
theorem dX5_fillDuel_125 : decode cX5_fillDuel 125 = .ok (.goto (-123), 3) := by decide +kernel
theorem dX5_fillDuel_128 : decode cX5_fillDuel 128 = .ok (.return_, 1) := by decide +kernel
theorem dX5_isRest_0 : decode cX5_isRest 0 = .ok (.iload_n 1, 1) := by decide +kernel
theorem dX5_isRest_1 : decode cX5_isRest 1 = .ok (.bipush 9, 2) := by decide +kernel
theorem dX5_isRest_3 : decode cX5_isRest 3 = .ok (.imul, 1) := by decide +kernel
theorem dX5_isRest_4 : decode cX5_isRest 4 = .ok (.iload_n 2, 1) := by decide +kernel
theorem dX5_isRest_5 : decode cX5_isRest 5 = .ok (.iadd, 1) := by decide +kernel
theorem dX5_isRest_6 : decode cX5_isRest 6 = .ok (.istore_n 3, 1) := by decide +kernel
theorem dX5_isRest_7 : decode cX5_isRest 7 = .ok (.iconst 0, 1) := by decide +kernel
theorem dX5_isRest_8 : decode cX5_isRest 8 = .ok (.istore 4, 2) := by decide +kernel
theorem dX5_isRest_10 : decode cX5_isRest 10 = .ok (.iload 4, 2) := by decide +kernel
theorem dX5_isRest_12 : decode cX5_isRest 12 = .ok (.aload_n 0, 1) := by decide +kernel
theorem dX5_isRest_13 : decode cX5_isRest 13 = .ok (.getfield 10, 3) := by decide +kernel
theorem dX5_isRest_16 : decode cX5_isRest 16 = .ok (.getfield 65, 3) := by decide +kernel
theorem dX5_isRest_19 : decode cX5_isRest 19 = .ok (.if_icmp .gt 53, 3) := by decide +kernel
theorem dX5_isRest_22 : decode cX5_isRest 22 = .ok (.aload_n 0, 1) := by decide +kernel
theorem dX5_isRest_23 : decode cX5_isRest 23 = .ok (.getfield 54, 3) := by decide +kernel
theorem dX5_isRest_26 : decode cX5_isRest 26 = .ok (.iload 4, 2) := by decide +kernel
theorem dX5_isRest_28 : decode cX5_isRest 28 = .ok (.bipush 9, 2) := by decide +kernel
theorem dX5_isRest_30 : decode cX5_isRest 30 = .ok (.imul, 1) := by decide +kernel
theorem dX5_isRest_31 : decode cX5_isRest 31 = .ok (.iload_n 2, 1) := by decide +kernel
theorem dX5_isRest_32 : decode cX5_isRest 32 = .ok (.iadd, 1) := by decide +kernel
theorem dX5_isRest_33 : decode cX5_isRest 33 = .ok (.iaload, 1) := by decide +kernel
theorem dX5_isRest_34 : decode cX5_isRest 34 = .ok (.aload_n 0, 1) := by decide +kernel
theorem dX5_isRest_35 : decode cX5_isRest 35 = .ok (.getfield 54, 3) := by decide +kernel
theorem dX5_isRest_38 : decode cX5_isRest 38 = .ok (.iload_n 3, 1) := by decide +kernel
theorem dX5_isRest_39 : decode cX5_isRest 39 = .ok (.iaload, 1) := by decide +kernel
theorem dX5_isRest_40 : decode cX5_isRest 40 = .ok (.if_icmp .lt 24, 3) := by decide +kernel
theorem dX5_isRest_43 : decode cX5_isRest 43 = .ok (.aload_n 0, 1) := by decide +kernel
theorem dX5_isRest_44 : decode cX5_isRest 44 = .ok (.getfield 58, 3) := by decide +kernel
theorem dX5_isRest_47 : decode cX5_isRest 47 = .ok (.iload_n 1, 1) := by decide +kernel
theorem dX5_isRest_48 : decode cX5_isRest 48 = .ok (.bipush 9, 2) := by decide +kernel
theorem dX5_isRest_50 : decode cX5_isRest 50 = .ok (.imul, 1) := by decide +kernel
theorem dX5_isRest_51 : decode cX5_isRest 51 = .ok (.iload 4, 2) := by decide +kernel
theorem dX5_isRest_53 : decode cX5_isRest 53 = .ok (.iadd, 1) := by decide +kernel
theorem dX5_isRest_54 : decode cX5_isRest 54 = .ok (.iaload, 1) := by decide +kernel
theorem dX5_isRest_55 : decode cX5_isRest 55 = .ok (.aload_n 0, 1) := by decide +kernel
theorem dX5_isRest_56 : decode cX5_isRest 56 = .ok (.getfield 58, 3) := by decide +kernel
theorem dX5_isRest_59 : decode cX5_isRest 59 = .ok (.iload_n 3, 1) := by decide +kernel
theorem dX5_isRest_60 : decode cX5_isRest 60 = .ok (.iaload, 1) := by decide +kernel
theorem dX5_isRest_61 : decode cX5_isRest 61 = .ok (.if_icmp .ge 5, 3) := by decide +kernel
theorem dX5_isRest_64 : decode cX5_isRest 64 = .ok (.iconst 0, 1) := by decide +kernel
theorem dX5_isRest_65 : decode cX5_isRest 65 = .ok (.ireturn, 1) := by decide +kernel
theorem dX5_isRest_66 : decode cX5_isRest 66 = .ok (.iinc 4 1, 3) := by decide +kernel
theorem dX5_isRest_69 : decode cX5_isRest 69 = .ok (.goto (-59), 3) := by decide +kernel
theorem dX5_isRest_72 : decode cX5_isRest 72 = .ok (.iconst 1, 1) := by decide +kernel
theorem dX5_isRest_73 : decode cX5_isRest 73 = .ok (.ireturn, 1) := by decide +kernel
theorem dX5_isFirstWith_0 : decode cX5_isFirstWith 0 = .ok (.aload_n 0, 1) := by decide +kernel
theorem dX5_isFirstWith_1 : decode cX5_isFirstWith 1 = .ok (.getfield 36, 3) := by decide +kernel
theorem dX5_isFirstWith_4 : decode cX5_isFirstWith 4 = .ok (.aload_n 0, 1) := by decide +kernel
theorem dX5_isFirstWith_5 : decode cX5_isFirstWith 5 = .ok (.getfield 10, 3) := by decide +kernel
theorem dX5_isFirstWith_8 : decode cX5_isFirstWith 8 = .ok (.invokevirtual 181, 3) := by decide +kernel
theorem dX5_isFirstWith_11 : decode cX5_isFirstWith 11 = .ok (.aload_n 0, 1) := by decide +kernel
theorem dX5_isFirstWith_12 : decode cX5_isFirstWith 12 = .ok (.getfield 36, 3) := by decide +kernel
theorem dX5_isFirstWith_15 : decode cX5_isFirstWith 15 = .ok (.iload_n 1, 1) := by decide +kernel
theorem dX5_isFirstWith_16 : decode cX5_isFirstWith 16 = .ok (.iload_n 2, 1) := by decide +kernel
theorem dX5_isFirstWith_17 : decode cX5_isFirstWith 17 = .ok (.invokevirtual 184, 3) := by decide +kernel
theorem dX5_isFirstWith_20 : decode cX5_isFirstWith 20 = .ok (.pop, 1) := by decide +kernel
theorem dX5_isFirstWith_21 : decode cX5_isFirstWith 21 = .ok (.aload_n 0, 1) := by decide +kernel
theorem dX5_isFirstWith_22 : decode cX5_isFirstWith 22 = .ok (.getfield 36, 3) := by decide +kernel
theorem dX5_isFirstWith_25 : decode cX5_isFirstWith 25 = .ok (.invokevirtual 193, 3) := by decide +kernel
theorem dX5_isFirstWith_28 : decode cX5_isFirstWith 28 = .ok (.iload_n 1, 1) := by decide +kernel
theorem dX5_isFirstWith_29 : decode cX5_isFirstWith 29 = .ok (.if_icmp .ne 7, 3) := by decide +kernel
theorem dX5_isFirstWith_32 : decode cX5_isFirstWith 32 = .ok (.iconst 1, 1) := by decide +kernel
theorem dX5_isFirstWith_33 : decode cX5_isFirstWith 33 = .ok (.goto 4, 3) := by decide +kernel
theorem dX5_isFirstWith_36 : decode cX5_isFirstWith 36 = .ok (.iconst 0, 1) := by decide +kernel
theorem dX5_isFirstWith_37 : decode cX5_isFirstWith 37 = .ok (.ireturn, 1) := by decide +kernel
theorem dX5_waysOf_0 : decode cX5_waysOf 0 = .ok (.iconst 1, 1) := by decide +kernel
theorem dX5_waysOf_1 : decode cX5_waysOf 1 = .ok (.istore_n 3, 1) := by decide +kernel
theorem dX5_waysOf_2 : decode cX5_waysOf 2 = .ok (.iconst 0, 1) := by decide +kernel
theorem dX5_waysOf_3 : decode cX5_waysOf 3 = .ok (.istore 4, 2) := by decide +kernel
theorem dX5_waysOf_5 : decode cX5_waysOf 5 = .ok (.iload 4, 2) := by decide +kernel
theorem dX5_waysOf_7 : decode cX5_waysOf 7 = .ok (.iload_n 1, 1) := by decide +kernel
theorem dX5_waysOf_8 : decode cX5_waysOf 8 = .ok (.if_icmp .ge 29, 3) := by decide +kernel
theorem dX5_waysOf_11 : decode cX5_waysOf 11 = .ok (.iload_n 3, 1) := by decide +kernel
theorem dX5_waysOf_12 : decode cX5_waysOf 12 = .ok (.iload_n 0, 1) := by decide +kernel
theorem dX5_waysOf_13 : decode cX5_waysOf 13 = .ok (.iload 4, 2) := by decide +kernel
theorem dX5_waysOf_15 : decode cX5_waysOf 15 = .ok (.invokestatic 281, 3) := by decide +kernel
theorem dX5_waysOf_18 : decode cX5_waysOf 18 = .ok (.ifCond .eq 7, 3) := by decide +kernel
theorem dX5_waysOf_21 : decode cX5_waysOf 21 = .ok (.iload_n 2, 1) := by decide +kernel
theorem dX5_waysOf_22 : decode cX5_waysOf 22 = .ok (.goto 7, 3) := by decide +kernel
theorem dX5_waysOf_25 : decode cX5_waysOf 25 = .ok (.bipush 10, 2) := by decide +kernel
theorem dX5_waysOf_27 : decode cX5_waysOf 27 = .ok (.iload_n 2, 1) := by decide +kernel
theorem dX5_waysOf_28 : decode cX5_waysOf 28 = .ok (.isub, 1) := by decide +kernel
theorem dX5_waysOf_29 : decode cX5_waysOf 29 = .ok (.imul, 1) := by decide +kernel
theorem dX5_waysOf_30 : decode cX5_waysOf 30 = .ok (.istore_n 3, 1) := by decide +kernel
theorem dX5_waysOf_31 : decode cX5_waysOf 31 = .ok (.iinc 4 1, 3) := by decide +kernel
theorem dX5_waysOf_34 : decode cX5_waysOf 34 = .ok (.goto (-29), 3) := by decide +kernel
theorem dX5_waysOf_37 : decode cX5_waysOf 37 = .ok (.iload_n 3, 1) := by decide +kernel
theorem dX5_waysOf_38 : decode cX5_waysOf 38 = .ok (.ireturn, 1) := by decide +kernel
theorem dX5_sharedDivisor_0 : decode cX5_sharedDivisor 0 = .ok (.iload_n 0, 1) := by decide +kernel
theorem dX5_sharedDivisor_1 : decode cX5_sharedDivisor 1 = .ok (.istore_n 2, 1) := by decide +kernel
theorem dX5_sharedDivisor_2 : decode cX5_sharedDivisor 2 = .ok (.iload_n 1, 1) := by decide +kernel
theorem dX5_sharedDivisor_3 : decode cX5_sharedDivisor 3 = .ok (.istore_n 3, 1) := by decide +kernel
theorem dX5_sharedDivisor_4 : decode cX5_sharedDivisor 4 = .ok (.iconst 0, 1) := by decide +kernel
theorem dX5_sharedDivisor_5 : decode cX5_sharedDivisor 5 = .ok (.istore 4, 2) := by decide +kernel
theorem dX5_sharedDivisor_7 : decode cX5_sharedDivisor 7 = .ok (.iload 4, 2) := by decide +kernel
theorem dX5_sharedDivisor_9 : decode cX5_sharedDivisor 9 = .ok (.bipush 64, 2) := by decide +kernel
theorem dX5_sharedDivisor_11 : decode cX5_sharedDivisor 11 = .ok (.if_icmp .ge 23, 3) := by decide +kernel
theorem dX5_sharedDivisor_14 : decode cX5_sharedDivisor 14 = .ok (.iload_n 3, 1) := by decide +kernel
theorem dX5_sharedDivisor_15 : decode cX5_sharedDivisor 15 = .ok (.ifCond .eq 19, 3) := by decide +kernel
theorem dX5_sharedDivisor_18 : decode cX5_sharedDivisor 18 = .ok (.iload_n 2, 1) := by decide +kernel
theorem dX5_sharedDivisor_19 : decode cX5_sharedDivisor 19 = .ok (.iload_n 3, 1) := by decide +kernel
theorem dX5_sharedDivisor_20 : decode cX5_sharedDivisor 20 = .ok (.irem, 1) := by decide +kernel
theorem dX5_sharedDivisor_21 : decode cX5_sharedDivisor 21 = .ok (.istore 5, 2) := by decide +kernel
theorem dX5_sharedDivisor_23 : decode cX5_sharedDivisor 23 = .ok (.iload_n 3, 1) := by decide +kernel
theorem dX5_sharedDivisor_24 : decode cX5_sharedDivisor 24 = .ok (.istore_n 2, 1) := by decide +kernel
theorem dX5_sharedDivisor_25 : decode cX5_sharedDivisor 25 = .ok (.iload 5, 2) := by decide +kernel
theorem dX5_sharedDivisor_27 : decode cX5_sharedDivisor 27 = .ok (.istore_n 3, 1) := by decide +kernel
theorem dX5_sharedDivisor_28 : decode cX5_sharedDivisor 28 = .ok (.iinc 4 1, 3) := by decide +kernel
theorem dX5_sharedDivisor_31 : decode cX5_sharedDivisor 31 = .ok (.goto (-24), 3) := by decide +kernel
theorem dX5_sharedDivisor_34 : decode cX5_sharedDivisor 34 = .ok (.iload_n 2, 1) := by decide +kernel
theorem dX5_sharedDivisor_35 : decode cX5_sharedDivisor 35 = .ok (.ireturn, 1) := by decide +kernel
theorem dX5_rowFault_0 : decode cX5_rowFault 0 = .ok (.aload_n 0, 1) := by decide +kernel
theorem dX5_rowFault_1 : decode cX5_rowFault 1 = .ok (.iload_n 1, 1) := by decide +kernel
theorem dX5_rowFault_2 : decode cX5_rowFault 2 = .ok (.invokevirtual 91, 3) := by decide +kernel
theorem dX5_rowFault_5 : decode cX5_rowFault 5 = .ok (.ifCond .eq 28, 3) := by decide +kernel
theorem dX5_rowFault_8 : decode cX5_rowFault 8 = .ok (.iload_n 2, 1) := by decide +kernel
theorem dX5_rowFault_9 : decode cX5_rowFault 9 = .ok (.invokestatic 238, 3) := by decide +kernel
theorem dX5_rowFault_12 : decode cX5_rowFault 12 = .ok (.ifCond .eq 21, 3) := by decide +kernel
theorem dX5_rowFault_15 : decode cX5_rowFault 15 = .ok (.iload_n 3, 1) := by decide +kernel
theorem dX5_rowFault_16 : decode cX5_rowFault 16 = .ok (.invokestatic 241, 3) := by decide +kernel
theorem dX5_rowFault_19 : decode cX5_rowFault 19 = .ok (.ifCond .eq 14, 3) := by decide +kernel
theorem dX5_rowFault_22 : decode cX5_rowFault 22 = .ok (.iload 5, 2) := by decide +kernel
theorem dX5_rowFault_24 : decode cX5_rowFault 24 = .ok (.iconst 1, 1) := by decide +kernel
theorem dX5_rowFault_25 : decode cX5_rowFault 25 = .ok (.bipush 8, 2) := by decide +kernel
theorem dX5_rowFault_27 : decode cX5_rowFault 27 = .ok (.invokestatic 61, 3) := by decide +kernel
theorem dX5_rowFault_30 : decode cX5_rowFault 30 = .ok (.ifCond .ne 5, 3) := by decide +kernel
theorem dX5_rowFault_33 : decode cX5_rowFault 33 = .ok (.iconst (-1), 1) := by decide +kernel
theorem dX5_rowFault_34 : decode cX5_rowFault 34 = .ok (.ireturn, 1) := by decide +kernel
theorem dX5_rowFault_35 : decode cX5_rowFault 35 = .ok (.aload_n 0, 1) := by decide +kernel
theorem dX5_rowFault_36 : decode cX5_rowFault 36 = .ok (.getfield 50, 3) := by decide +kernel
theorem dX5_rowFault_39 : decode cX5_rowFault 39 = .ok (.iload_n 2, 1) := by decide +kernel
theorem dX5_rowFault_40 : decode cX5_rowFault 40 = .ok (.aaload, 1) := by decide +kernel
theorem dX5_rowFault_41 : decode cX5_rowFault 41 = .ok (.iload_n 3, 1) := by decide +kernel
theorem dX5_rowFault_42 : decode cX5_rowFault 42 = .ok (.iload 4, 2) := by decide +kernel
theorem dX5_rowFault_44 : decode cX5_rowFault 44 = .ok (.iload 5, 2) := by decide +kernel
theorem dX5_rowFault_46 : decode cX5_rowFault 46 = .ok (.invokevirtual 253, 3) := by decide +kernel
theorem dX5_rowFault_49 : decode cX5_rowFault 49 = .ok (.istore 6, 2) := by decide +kernel
theorem dX5_rowFault_51 : decode cX5_rowFault 51 = .ok (.iload 6, 2) := by decide +kernel
theorem dX5_rowFault_53 : decode cX5_rowFault 53 = .ok (.ifCond .ge 6, 3) := by decide +kernel
theorem dX5_rowFault_56 : decode cX5_rowFault 56 = .ok (.iload 6, 2) := by decide +kernel
theorem dX5_rowFault_58 : decode cX5_rowFault 58 = .ok (.ireturn, 1) := by decide +kernel
theorem dX5_rowFault_59 : decode cX5_rowFault 59 = .ok (.iload 5, 2) := by decide +kernel
theorem dX5_rowFault_61 : decode cX5_rowFault 61 = .ok (.aload_n 0, 1) := by decide +kernel
theorem dX5_rowFault_62 : decode cX5_rowFault 62 = .ok (.getfield 10, 3) := by decide +kernel
theorem dX5_rowFault_65 : decode cX5_rowFault 65 = .ok (.getfield 65, 3) := by decide +kernel
theorem dX5_rowFault_68 : decode cX5_rowFault 68 = .ok (.aload_n 0, 1) := by decide +kernel
theorem dX5_rowFault_69 : decode cX5_rowFault 69 = .ok (.getfield 10, 3) := by decide +kernel
theorem dX5_rowFault_72 : decode cX5_rowFault 72 = .ok (.getfield 98, 3) := by decide +kernel
theorem dX5_rowFault_75 : decode cX5_rowFault 75 = .ok (.iload_n 1, 1) := by decide +kernel
theorem dX5_rowFault_76 : decode cX5_rowFault 76 = .ok (.iaload, 1) := by decide +kernel
theorem dX5_rowFault_77 : decode cX5_rowFault 77 = .ok (.isub, 1) := by decide +kernel
theorem dX5_rowFault_78 : decode cX5_rowFault 78 = .ok (.if_icmp .le 8, 3) := by decide +kernel
theorem dX5_rowFault_81 : decode cX5_rowFault 81 = .ok (.bipush (-2), 2) := by decide +kernel
theorem dX5_rowFault_83 : decode cX5_rowFault 83 = .ok (.goto 4, 3) := by decide +kernel
theorem dX5_rowFault_86 : decode cX5_rowFault 86 = .ok (.iconst 0, 1) := by decide +kernel
theorem dX5_rowFault_87 : decode cX5_rowFault 87 = .ok (.ireturn, 1) := by decide +kernel
theorem dX5_isTold_0 : decode cX5_isTold 0 = .ok (.aload_n 0, 1) := by decide +kernel
theorem dX5_isTold_1 : decode cX5_isTold 1 = .ok (.getfield 10, 3) := by decide +kernel
theorem dX5_isTold_4 : decode cX5_isTold 4 = .ok (.getfield 98, 3) := by decide +kernel
theorem dX5_isTold_7 : decode cX5_isTold 7 = .ok (.iload_n 1, 1) := by decide +kernel
theorem dX5_isTold_8 : decode cX5_isTold 8 = .ok (.iaload, 1) := by decide +kernel
theorem dX5_isTold_9 : decode cX5_isTold 9 = .ok (.iconst 1, 1) := by decide +kernel
theorem dX5_isTold_10 : decode cX5_isTold 10 = .ok (.iadd, 1) := by decide +kernel
theorem dX5_isTold_11 : decode cX5_isTold 11 = .ok (.istore 5, 2) := by decide +kernel
theorem dX5_isTold_13 : decode cX5_isTold 13 = .ok (.iconst 0, 1) := by decide +kernel
theorem dX5_isTold_14 : decode cX5_isTold 14 = .ok (.istore 6, 2) := by decide +kernel
theorem dX5_isTold_16 : decode cX5_isTold 16 = .ok (.iload 6, 2) := by decide +kernel
theorem dX5_isTold_18 : decode cX5_isTold 18 = .ok (.iload 4, 2) := by decide +kernel
theorem dX5_isTold_20 : decode cX5_isTold 20 = .ok (.if_icmp .ge 38, 3) := by decide +kernel
theorem dX5_isTold_23 : decode cX5_isTold 23 = .ok (.aload_n 2, 1) := by decide +kernel
theorem dX5_isTold_24 : decode cX5_isTold 24 = .ok (.getfield 262, 3) := by decide +kernel
theorem dX5_isTold_27 : decode cX5_isTold 27 = .ok (.iload_n 3, 1) := by decide +kernel
theorem dX5_isTold_28 : decode cX5_isTold 28 = .ok (.iload 6, 2) := by decide +kernel
theorem dX5_isTold_30 : decode cX5_isTold 30 = .ok (.iadd, 1) := by decide +kernel
theorem dX5_isTold_31 : decode cX5_isTold 31 = .ok (.laload, 1) := by decide +kernel
theorem dX5_isTold_32 : decode cX5_isTold 32 = .ok (.aload_n 0, 1) := by decide +kernel
theorem dX5_isTold_33 : decode cX5_isTold 33 = .ok (.getfield 36, 3) := by decide +kernel
theorem dX5_isTold_36 : decode cX5_isTold 36 = .ok (.iload_n 1, 1) := by decide +kernel
theorem dX5_isTold_37 : decode cX5_isTold 37 = .ok (.iload 5, 2) := by decide +kernel
theorem dX5_isTold_39 : decode cX5_isTold 39 = .ok (.iload 6, 2) := by decide +kernel
theorem dX5_isTold_41 : decode cX5_isTold 41 = .ok (.iadd, 1) := by decide +kernel
theorem dX5_isTold_42 : decode cX5_isTold 42 = .ok (.invokevirtual 190, 3) := by decide +kernel
theorem dX5_isTold_45 : decode cX5_isTold 45 = .ok (.i2l, 1) := by decide +kernel
theorem dX5_isTold_46 : decode cX5_isTold 46 = .ok (.lcmp, 1) := by decide +kernel
theorem dX5_isTold_47 : decode cX5_isTold 47 = .ok (.ifCond .eq 5, 3) := by decide +kernel
theorem dX5_isTold_50 : decode cX5_isTold 50 = .ok (.iconst 0, 1) := by decide +kernel
theorem dX5_isTold_51 : decode cX5_isTold 51 = .ok (.ireturn, 1) := by decide +kernel
theorem dX5_isTold_52 : decode cX5_isTold 52 = .ok (.iinc 6 1, 3) := by decide +kernel
theorem dX5_isTold_55 : decode cX5_isTold 55 = .ok (.goto (-39), 3) := by decide +kernel
theorem dX5_isTold_58 : decode cX5_isTold 58 = .ok (.iconst 1, 1) := by decide +kernel
theorem dX5_isTold_59 : decode cX5_isTold 59 = .ok (.ireturn, 1) := by decide +kernel
end
section
theorem dX6_init_0 : decode cX6_init 0 = .ok (.aload_n 0, 1) := by decide +kernel
theorem dX6_init_1 : decode cX6_init 1 = .ok (.invokespecial 1, 3) := by decide +kernel
theorem dX6_init_4 : decode cX6_init 4 = .ok (.aload_n 0, 1) := by decide +kernel
theorem dX6_init_5 : decode cX6_init 5 = .ok (.sipush 483, 3) := by decide +kernel
theorem dX6_init_8 : decode cX6_init 8 = .ok (.newarray .int, 2) := by decide +kernel
theorem dX6_init_10 : decode cX6_init 10 = .ok (.putfield 7, 3) := by decide +kernel
theorem dX6_init_13 : decode cX6_init 13 = .ok (.aload_n 0, 1) := by decide +kernel
theorem dX6_init_14 : decode cX6_init 14 = .ok (.bipush 90, 2) := by decide +kernel
theorem dX6_init_16 : decode cX6_init 16 = .ok (.newarray .int, 2) := by decide +kernel
theorem dX6_init_18 : decode cX6_init 18 = .ok (.putfield 13, 3) := by decide +kernel
theorem dX6_init_21 : decode cX6_init 21 = .ok (.aload_n 0, 1) := by decide +kernel
theorem dX6_init_22 : decode cX6_init 22 = .ok (.bipush 96, 2) := by decide +kernel
theorem dX6_init_24 : decode cX6_init 24 = .ok (.newarray .long, 2) := by decide +kernel
theorem dX6_init_26 : decode cX6_init 26 = .ok (.putfield 16, 3) := by decide +kernel
theorem dX6_init_29 : decode cX6_init 29 = .ok (.aload_n 0, 1) := by decide +kernel
theorem dX6_init_30 : decode cX6_init 30 = .ok (.iconst 4, 1) := by decide +kernel
theorem dX6_init_31 : decode cX6_init 31 = .ok (.newarray .int, 2) := by decide +kernel
theorem dX6_init_33 : decode cX6_init 33 = .ok (.putfield 20, 3) := by decide +kernel
theorem dX6_init_36 : decode cX6_init 36 = .ok (.aload_n 0, 1) := by decide +kernel
theorem dX6_init_37 : decode cX6_init 37 = .ok (.iconst 4, 1) := by decide +kernel
theorem dX6_init_38 : decode cX6_init 38 = .ok (.newarray .int, 2) := by decide +kernel
theorem dX6_init_40 : decode cX6_init 40 = .ok (.putfield 23, 3) := by decide +kernel
theorem dX6_init_43 : decode cX6_init 43 = .ok (.aload_n 0, 1) := by decide +kernel
theorem dX6_init_44 : decode cX6_init 44 = .ok (.bipush 36, 2) := by decide +kernel
theorem dX6_init_46 : decode cX6_init 46 = .ok (.newarray .int, 2) := by decide +kernel
theorem dX6_init_48 : decode cX6_init 48 = .ok (.putfield 26, 3) := by decide +kernel
theorem dX6_init_51 : decode cX6_init 51 = .ok (.aload_n 0, 1) := by decide +kernel
theorem dX6_init_52 : decode cX6_init 52 = .ok (.bipush 81, 2) := by decide +kernel
theorem dX6_init_54 : decode cX6_init 54 = .ok (.newarray .int, 2) := by decide +kernel
theorem dX6_init_56 : decode cX6_init 56 = .ok (.putfield 29, 3) := by decide +kernel
theorem dX6_init_59 : decode cX6_init 59 = .ok (.aload_n 0, 1) := by decide +kernel
theorem dX6_init_60 : decode cX6_init 60 = .ok (.bipush 81, 2) := by decide +kernel
theorem dX6_init_62 : decode cX6_init 62 = .ok (.newarray .int, 2) := by decide +kernel
theorem dX6_init_64 : decode cX6_init 64 = .ok (.putfield 32, 3) := by decide +kernel
theorem dX6_init_67 : decode cX6_init 67 = .ok (.aload_n 0, 1) := by decide +kernel
theorem dX6_init_68 : decode cX6_init 68 = .ok (.bipush 24, 2) := by decide +kernel
theorem dX6_init_70 : decode cX6_init 70 = .ok (.newarray .long, 2) := by decide +kernel
theorem dX6_init_72 : decode cX6_init 72 = .ok (.putfield 35, 3) := by decide +kernel
theorem dX6_init_75 : decode cX6_init 75 = .ok (.aload_n 0, 1) := by decide +kernel
theorem dX6_init_76 : decode cX6_init 76 = .ok (.getfield 7, 3) := by decide +kernel
theorem dX6_init_79 : decode cX6_init 79 = .ok (.bipush 20, 2) := by decide +kernel
theorem dX6_init_81 : decode cX6_init 81 = .ok (.iconst 1, 1) := by decide +kernel
theorem dX6_init_82 : decode cX6_init 82 = .ok (.iastore, 1) := by decide +kernel
theorem dX6_init_83 : decode cX6_init 83 = .ok (.aload_n 0, 1) := by decide +kernel
theorem dX6_init_84 : decode cX6_init 84 = .ok (.getfield 7, 3) := by decide +kernel
theorem dX6_init_87 : decode cX6_init 87 = .ok (.bipush 23, 2) := by decide +kernel
theorem dX6_init_89 : decode cX6_init 89 = .ok (.iconst 3, 1) := by decide +kernel
theorem dX6_init_90 : decode cX6_init 90 = .ok (.iastore, 1) := by decide +kernel
theorem dX6_init_91 : decode cX6_init 91 = .ok (.iconst 0, 1) := by decide +kernel
theorem dX6_init_92 : decode cX6_init 92 = .ok (.istore_n 1, 1) := by decide +kernel
theorem dX6_init_93 : decode cX6_init 93 = .ok (.iload_n 1, 1) := by decide +kernel
theorem dX6_init_94 : decode cX6_init 94 = .ok (.iconst 4, 1) := by decide +kernel
theorem dX6_init_95 : decode cX6_init 95 = .ok (.if_icmp .ge 16, 3) := by decide +kernel
theorem dX6_init_98 : decode cX6_init 98 = .ok (.aload_n 0, 1) := by decide +kernel
theorem dX6_init_99 : decode cX6_init 99 = .ok (.getfield 23, 3) := by decide +kernel
theorem dX6_init_102 : decode cX6_init 102 = .ok (.iload_n 1, 1) := by decide +kernel
theorem dX6_init_103 : decode cX6_init 103 = .ok (.iconst (-1), 1) := by decide +kernel
theorem dX6_init_104 : decode cX6_init 104 = .ok (.iastore, 1) := by decide +kernel
theorem dX6_init_105 : decode cX6_init 105 = .ok (.iinc 1 1, 3) := by decide +kernel
theorem dX6_init_108 : decode cX6_init 108 = .ok (.goto (-15), 3) := by decide +kernel
theorem dX6_init_111 : decode cX6_init 111 = .ok (.return_, 1) := by decide +kernel
theorem dX6_in_0 : decode cX6_in 0 = .ok (.lload_n 0, 1) := by decide +kernel
theorem dX6_in_1 : decode cX6_in 1 = .ok (.lload_n 2, 1) := by decide +kernel
theorem dX6_in_2 : decode cX6_in 2 = .ok (.lcmp, 1) := by decide +kernel
theorem dX6_in_3 : decode cX6_in 3 = .ok (.ifCond .lt 14, 3) := by decide +kernel
theorem dX6_in_6 : decode cX6_in 6 = .ok (.lload_n 0, 1) := by decide +kernel
theorem dX6_in_7 : decode cX6_in 7 = .ok (.lload 4, 2) := by decide +kernel
theorem dX6_in_9 : decode cX6_in 9 = .ok (.lcmp, 1) := by decide +kernel
theorem dX6_in_10 : decode cX6_in 10 = .ok (.ifCond .gt 7, 3) := by decide +kernel
theorem dX6_in_13 : decode cX6_in 13 = .ok (.iconst 1, 1) := by decide +kernel
theorem dX6_in_14 : decode cX6_in 14 = .ok (.goto 4, 3) := by decide +kernel
theorem dX6_in_17 : decode cX6_in 17 = .ok (.iconst 0, 1) := by decide +kernel
theorem dX6_in_18 : decode cX6_in 18 = .ok (.ireturn, 1) := by decide +kernel
theorem dX6_has_0 : decode cX6_has 0 = .ok (.iload_n 0, 1) := by decide +kernel
theorem dX6_has_1 : decode cX6_has 1 = .ok (.iload_n 1, 1) := by decide +kernel
theorem dX6_has_2 : decode cX6_has 2 = .ok (.ishr, 1) := by decide +kernel
theorem dX6_has_3 : decode cX6_has 3 = .ok (.iconst 1, 1) := by decide +kernel
theorem dX6_has_4 : decode cX6_has 4 = .ok (.iand, 1) := by decide +kernel
theorem dX6_has_5 : decode cX6_has 5 = .ok (.iconst 1, 1) := by decide +kernel
theorem dX6_has_6 : decode cX6_has 6 = .ok (.if_icmp .ne 7, 3) := by decide +kernel
theorem dX6_has_9 : decode cX6_has 9 = .ok (.iconst 1, 1) := by decide +kernel
theorem dX6_has_10 : decode cX6_has 10 = .ok (.goto 4, 3) := by decide +kernel
theorem dX6_has_13 : decode cX6_has 13 = .ok (.iconst 0, 1) := by decide +kernel
theorem dX6_has_14 : decode cX6_has 14 = .ok (.ireturn, 1) := by decide +kernel
theorem dX6_ones_0 : decode cX6_ones 0 = .ok (.iconst 0, 1) := by decide +kernel
theorem dX6_ones_1 : decode cX6_ones 1 = .ok (.istore_n 1, 1) := by decide +kernel
theorem dX6_ones_2 : decode cX6_ones 2 = .ok (.iconst 0, 1) := by decide +kernel
theorem dX6_ones_3 : decode cX6_ones 3 = .ok (.istore_n 2, 1) := by decide +kernel
theorem dX6_ones_4 : decode cX6_ones 4 = .ok (.iload_n 2, 1) := by decide +kernel
theorem dX6_ones_5 : decode cX6_ones 5 = .ok (.bipush 8, 2) := by decide +kernel
theorem dX6_ones_7 : decode cX6_ones 7 = .ok (.if_icmp .ge 17, 3) := by decide +kernel
theorem dX6_ones_10 : decode cX6_ones 10 = .ok (.iload_n 1, 1) := by decide +kernel
theorem dX6_ones_11 : decode cX6_ones 11 = .ok (.iload_n 0, 1) := by decide +kernel
theorem dX6_ones_12 : decode cX6_ones 12 = .ok (.iload_n 2, 1) := by decide +kernel
theorem dX6_ones_13 : decode cX6_ones 13 = .ok (.ishr, 1) := by decide +kernel
theorem dX6_ones_14 : decode cX6_ones 14 = .ok (.iconst 1, 1) := by decide +kernel
theorem dX6_ones_15 : decode cX6_ones 15 = .ok (.iand, 1) := by decide +kernel
theorem dX6_ones_16 : decode cX6_ones 16 = .ok (.iadd, 1) := by decide +kernel
theorem dX6_ones_17 : decode cX6_ones 17 = .ok (.istore_n 1, 1) := by decide +kernel
theorem dX6_ones_18 : decode cX6_ones 18 = .ok (.iinc 2 1, 3) := by decide +kernel
theorem dX6_ones_21 : decode cX6_ones 21 = .ok (.goto (-17), 3) := by decide +kernel
theorem dX6_ones_24 : decode cX6_ones 24 = .ok (.iload_n 1, 1) := by decide +kernel
theorem dX6_ones_25 : decode cX6_ones 25 = .ok (.ireturn, 1) := by decide +kernel
theorem dX6_copyAll_0 : decode cX6_copyAll 0 = .ok (.iconst 0, 1) := by decide +kernel
theorem dX6_copyAll_1 : decode cX6_copyAll 1 = .ok (.istore 4, 2) := by decide +kernel
theorem dX6_copyAll_3 : decode cX6_copyAll 3 = .ok (.iload 4, 2) := by decide +kernel
theorem dX6_copyAll_5 : decode cX6_copyAll 5 = .ok (.iload_n 3, 1) := by decide +kernel
theorem dX6_copyAll_6 : decode cX6_copyAll 6 = .ok (.if_icmp .ge 27, 3) := by decide +kernel
theorem dX6_copyAll_9 : decode cX6_copyAll 9 = .ok (.aload_n 0, 1) := by decide +kernel
theorem dX6_copyAll_10 : decode cX6_copyAll 10 = .ok (.getfield 7, 3) := by decide +kernel
theorem dX6_copyAll_13 : decode cX6_copyAll 13 = .ok (.iload_n 2, 1) := by decide +kernel
theorem dX6_copyAll_14 : decode cX6_copyAll 14 = .ok (.iload 4, 2) := by decide +kernel
theorem dX6_copyAll_16 : decode cX6_copyAll 16 = .ok (.iadd, 1) := by decide +kernel
theorem dX6_copyAll_17 : decode cX6_copyAll 17 = .ok (.aload_n 0, 1) := by decide +kernel
theorem dX6_copyAll_18 : decode cX6_copyAll 18 = .ok (.getfield 7, 3) := by decide +kernel
theorem dX6_copyAll_21 : decode cX6_copyAll 21 = .ok (.iload_n 1, 1) := by decide +kernel
theorem dX6_copyAll_22 : decode cX6_copyAll 22 = .ok (.iload 4, 2) := by decide +kernel
theorem dX6_copyAll_24 : decode cX6_copyAll 24 = .ok (.iadd, 1) := by decide +kernel
theorem dX6_copyAll_25 : decode cX6_copyAll 25 = .ok (.iaload, 1) := by decide +kernel
theorem dX6_copyAll_26 : decode cX6_copyAll 26 = .ok (.iastore, 1) := by decide +kernel
theorem dX6_copyAll_27 : decode cX6_copyAll 27 = .ok (.iinc 4 1, 3) := by decide +kernel
theorem dX6_copyAll_30 : decode cX6_copyAll 30 = .ok (.goto (-27), 3) := by decide +kernel
theorem dX6_copyAll_33 : decode cX6_copyAll 33 = .ok (.return_, 1) := by decide +kernel
theorem dX6_isRider_0 : decode cX6_isRider 0 = .ok (.iload_n 1, 1) := by decide +kernel
theorem dX6_isRider_1 : decode cX6_isRider 1 = .ok (.i2l, 1) := by decide +kernel
theorem dX6_isRider_2 : decode cX6_isRider 2 = .ok (.lconst 0, 1) := by decide +kernel
theorem dX6_isRider_3 : decode cX6_isRider 3 = .ok (.aload_n 0, 1) := by decide +kernel
theorem dX6_isRider_4 : decode cX6_isRider 4 = .ok (.getfield 7, 3) := by decide +kernel
theorem dX6_isRider_7 : decode cX6_isRider 7 = .ok (.bipush 22, 2) := by decide +kernel
theorem dX6_isRider_9 : decode cX6_isRider 9 = .ok (.iaload, 1) := by decide +kernel
theorem dX6_isRider_10 : decode cX6_isRider 10 = .ok (.iconst 1, 1) := by decide +kernel
theorem dX6_isRider_11 : decode cX6_isRider 11 = .ok (.isub, 1) := by decide +kernel
theorem dX6_isRider_12 : decode cX6_isRider 12 = .ok (.i2l, 1) := by decide +kernel
theorem dX6_isRider_13 : decode cX6_isRider 13 = .ok (.invokestatic 38, 3) := by decide +kernel
theorem dX6_isRider_16 : decode cX6_isRider 16 = .ok (.ireturn, 1) := by decide +kernel
theorem dX6_areTwo_0 : decode cX6_areTwo 0 = .ok (.aload_n 0, 1) := by decide +kernel
theorem dX6_areTwo_1 : decode cX6_areTwo 1 = .ok (.iload_n 1, 1) := by decide +kernel
theorem dX6_areTwo_2 : decode cX6_areTwo 2 = .ok (.invokevirtual 42, 3) := by decide +kernel
theorem dX6_areTwo_5 : decode cX6_areTwo 5 = .ok (.ifCond .eq 20, 3) := by decide +kernel
theorem dX6_areTwo_8 : decode cX6_areTwo 8 = .ok (.aload_n 0, 1) := by decide +kernel
theorem dX6_areTwo_9 : decode cX6_areTwo 9 = .ok (.iload_n 2, 1) := by decide +kernel
theorem dX6_areTwo_10 : decode cX6_areTwo 10 = .ok (.invokevirtual 42, 3) := by decide +kernel
theorem dX6_areTwo_13 : decode cX6_areTwo 13 = .ok (.ifCond .eq 12, 3) := by decide +kernel
theorem dX6_areTwo_16 : decode cX6_areTwo 16 = .ok (.iload_n 1, 1) := by decide +kernel
theorem dX6_areTwo_17 : decode cX6_areTwo 17 = .ok (.iload_n 2, 1) := by decide +kernel
theorem dX6_areTwo_18 : decode cX6_areTwo 18 = .ok (.if_icmp .eq 7, 3) := by decide +kernel
theorem dX6_areTwo_21 : decode cX6_areTwo 21 = .ok (.iconst 1, 1) := by decide +kernel
theorem dX6_areTwo_22 : decode cX6_areTwo 22 = .ok (.goto 4, 3) := by decide +kernel
theorem dX6_areTwo_25 : decode cX6_areTwo 25 = .ok (.iconst 0, 1) := by decide +kernel
theorem dX6_areTwo_26 : decode cX6_areTwo 26 = .ok (.ireturn, 1) := by decide +kernel
theorem dX6_stage_0 : decode cX6_stage 0 = .ok (.iload_n 1, 1) := by decide +kernel
theorem dX6_stage_1 : decode cX6_stage 1 = .ok (.i2l, 1) := by decide +kernel
theorem dX6_stage_2 : decode cX6_stage 2 = .ok (.lconst 1, 1) := by decide +kernel
theorem dX6_stage_3 : decode cX6_stage 3 = .ok (.ldc2_w 46, 3) := by decide +kernel
theorem dX6_stage_6 : decode cX6_stage 6 = .ok (.invokestatic 38, 3) := by decide +kernel
theorem dX6_stage_9 : decode cX6_stage 9 = .ok (.ifCond .eq 27, 3) := by decide +kernel
theorem dX6_stage_12 : decode cX6_stage 12 = .ok (.iload_n 2, 1) := by decide +kernel
theorem dX6_stage_13 : decode cX6_stage 13 = .ok (.i2l, 1) := by decide +kernel
theorem dX6_stage_14 : decode cX6_stage 14 = .ok (.lconst 0, 1) := by decide +kernel
theorem dX6_stage_15 : decode cX6_stage 15 = .ok (.ldc2_w 46, 3) := by decide +kernel
theorem dX6_stage_18 : decode cX6_stage 18 = .ok (.invokestatic 38, 3) := by decide +kernel
theorem dX6_stage_21 : decode cX6_stage 21 = .ok (.ifCond .eq 15, 3) := by decide +kernel
theorem dX6_stage_24 : decode cX6_stage 24 = .ok (.iload_n 3, 1) := by decide +kernel
theorem dX6_stage_25 : decode cX6_stage 25 = .ok (.i2l, 1) := by decide +kernel
theorem dX6_stage_26 : decode cX6_stage 26 = .ok (.lconst 0, 1) := by decide +kernel
theorem dX6_stage_27 : decode cX6_stage 27 = .ok (.ldc2_w 48, 3) := by decide +kernel
theorem dX6_stage_30 : decode cX6_stage 30 = .ok (.invokestatic 38, 3) := by decide +kernel
theorem dX6_stage_33 : decode cX6_stage 33 = .ok (.ifCond .ne 5, 3) := by decide +kernel
theorem dX6_stage_36 : decode cX6_stage 36 = .ok (.iconst (-1), 1) := by decide +kernel
theorem dX6_stage_37 : decode cX6_stage 37 = .ok (.ireturn, 1) := by decide +kernel
theorem dX6_stage_38 : decode cX6_stage 38 = .ok (.aload_n 0, 1) := by decide +kernel
theorem dX6_stage_39 : decode cX6_stage 39 = .ok (.getfield 7, 3) := by decide +kernel
theorem dX6_stage_42 : decode cX6_stage 42 = .ok (.bipush 21, 2) := by decide +kernel
theorem dX6_stage_44 : decode cX6_stage 44 = .ok (.iaload, 1) := by decide +kernel
theorem dX6_stage_45 : decode cX6_stage 45 = .ok (.bipush 8, 2) := by decide +kernel
theorem dX6_stage_47 : decode cX6_stage 47 = .ok (.if_icmp .ne 6, 3) := by decide +kernel
theorem dX6_stage_50 : decode cX6_stage 50 = .ok (.bipush (-3), 2) := by decide +kernel
theorem dX6_stage_52 : decode cX6_stage 52 = .ok (.ireturn, 1) := by decide +kernel
theorem dX6_stage_53 : decode cX6_stage 53 = .ok (.aload_n 0, 1) := by decide +kernel
theorem dX6_stage_54 : decode cX6_stage 54 = .ok (.getfield 7, 3) := by decide +kernel
theorem dX6_stage_57 : decode cX6_stage 57 = .ok (.bipush 21, 2) := by decide +kernel
theorem dX6_stage_59 : decode cX6_stage 59 = .ok (.iaload, 1) := by decide +kernel
theorem dX6_stage_60 : decode cX6_stage 60 = .ok (.istore 4, 2) := by decide +kernel
theorem dX6_stage_62 : decode cX6_stage 62 = .ok (.aload_n 0, 1) := by decide +kernel
theorem dX6_stage_63 : decode cX6_stage 63 = .ok (.getfield 7, 3) := by decide +kernel
theorem dX6_stage_66 : decode cX6_stage 66 = .ok (.bipush 24, 2) := by decide +kernel
theorem dX6_stage_68 : decode cX6_stage 68 = .ok (.iload 4, 2) := by decide +kernel
theorem dX6_stage_70 : decode cX6_stage 70 = .ok (.iadd, 1) := by decide +kernel
theorem dX6_stage_71 : decode cX6_stage 71 = .ok (.iload_n 1, 1) := by decide +kernel
theorem dX6_stage_72 : decode cX6_stage 72 = .ok (.iastore, 1) := by decide +kernel
theorem dX6_stage_73 : decode cX6_stage 73 = .ok (.aload_n 0, 1) := by decide +kernel
theorem dX6_stage_74 : decode cX6_stage 74 = .ok (.getfield 7, 3) := by decide +kernel
theorem dX6_stage_77 : decode cX6_stage 77 = .ok (.bipush 32, 2) := by decide +kernel
theorem dX6_stage_79 : decode cX6_stage 79 = .ok (.iload 4, 2) := by decide +kernel
theorem dX6_stage_81 : decode cX6_stage 81 = .ok (.iadd, 1) := by decide +kernel
theorem dX6_stage_82 : decode cX6_stage 82 = .ok (.iload_n 2, 1) := by decide +kernel
theorem dX6_stage_83 : decode cX6_stage 83 = .ok (.iastore, 1) := by decide +kernel
theorem dX6_stage_84 : decode cX6_stage 84 = .ok (.aload_n 0, 1) := by decide +kernel
theorem dX6_stage_85 : decode cX6_stage 85 = .ok (.getfield 7, 3) := by decide +kernel
theorem dX6_stage_88 : decode cX6_stage 88 = .ok (.iconst 0, 1) := by decide +kernel
theorem dX6_stage_89 : decode cX6_stage 89 = .ok (.iload 4, 2) := by decide +kernel
theorem dX6_stage_91 : decode cX6_stage 91 = .ok (.iadd, 1) := by decide +kernel
theorem dX6_stage_92 : decode cX6_stage 92 = .ok (.iload_n 3, 1) := by decide +kernel
theorem dX6_stage_93 : decode cX6_stage 93 = .ok (.iastore, 1) := by decide +kernel
theorem dX6_stage_94 : decode cX6_stage 94 = .ok (.aload_n 0, 1) := by decide +kernel
theorem dX6_stage_95 : decode cX6_stage 95 = .ok (.getfield 7, 3) := by decide +kernel
theorem dX6_stage_98 : decode cX6_stage 98 = .ok (.bipush 21, 2) := by decide +kernel
theorem dX6_stage_100 : decode cX6_stage 100 = .ok (.dup2, 1) := by decide +kernel
theorem dX6_stage_101 : decode cX6_stage 101 = .ok (.iaload, 1) := by decide +kernel
theorem dX6_stage_102 : decode cX6_stage 102 = .ok (.iconst 1, 1) := by decide +kernel
theorem dX6_stage_103 : decode cX6_stage 103 = .ok (.iadd, 1) := by decide +kernel
theorem dX6_stage_104 : decode cX6_stage 104 = .ok (.iastore, 1) := by decide +kernel
theorem dX6_stage_105 : decode cX6_stage 105 = .ok (.aload_n 0, 1) := by decide +kernel
theorem dX6_stage_106 : decode cX6_stage 106 = .ok (.getfield 7, 3) := by decide +kernel
theorem dX6_stage_109 : decode cX6_stage 109 = .ok (.bipush 48, 2) := by decide +kernel
theorem dX6_stage_111 : decode cX6_stage 111 = .ok (.iconst 0, 1) := by decide +kernel
theorem dX6_stage_112 : decode cX6_stage 112 = .ok (.iastore, 1) := by decide +kernel
theorem dX6_stage_113 : decode cX6_stage 113 = .ok (.iload 4, 2) := by decide +kernel
theorem dX6_stage_115 : decode cX6_stage 115 = .ok (.ireturn, 1) := by decide +kernel
theorem dX6_rider_0 : decode cX6_rider 0 = .ok (.iload_n 1, 1) := by decide +kernel
theorem dX6_rider_1 : decode cX6_rider 1 = .ok (.i2l, 1) := by decide +kernel
theorem dX6_rider_2 : decode cX6_rider 2 = .ok (.lconst 0, 1) := by decide +kernel
theorem dX6_rider_3 : decode cX6_rider 3 = .ok (.ldc2_w 48, 3) := by decide +kernel
theorem dX6_rider_6 : decode cX6_rider 6 = .ok (.invokestatic 38, 3) := by decide +kernel
theorem dX6_rider_9 : decode cX6_rider 9 = .ok (.ifCond .eq 27, 3) := by decide +kernel
theorem dX6_rider_12 : decode cX6_rider 12 = .ok (.iload_n 2, 1) := by decide +kernel
theorem dX6_rider_13 : decode cX6_rider 13 = .ok (.i2l, 1) := by decide +kernel
theorem dX6_rider_14 : decode cX6_rider 14 = .ok (.lconst 0, 1) := by decide +kernel
theorem dX6_rider_15 : decode cX6_rider 15 = .ok (.ldc2_w 50, 3) := by decide +kernel
theorem dX6_rider_18 : decode cX6_rider 18 = .ok (.invokestatic 38, 3) := by decide +kernel
theorem dX6_rider_21 : decode cX6_rider 21 = .ok (.ifCond .eq 15, 3) := by decide +kernel
theorem dX6_rider_24 : decode cX6_rider 24 = .ok (.iload_n 3, 1) := by decide +kernel
theorem dX6_rider_25 : decode cX6_rider 25 = .ok (.i2l, 1) := by decide +kernel
theorem dX6_rider_26 : decode cX6_rider 26 = .ok (.lconst 0, 1) := by decide +kernel
theorem dX6_rider_27 : decode cX6_rider 27 = .ok (.ldc2_w 52, 3) := by decide +kernel
theorem dX6_rider_30 : decode cX6_rider 30 = .ok (.invokestatic 38, 3) := by decide +kernel
theorem dX6_rider_33 : decode cX6_rider 33 = .ok (.ifCond .ne 5, 3) := by decide +kernel
theorem dX6_rider_36 : decode cX6_rider 36 = .ok (.iconst (-1), 1) := by decide +kernel
theorem dX6_rider_37 : decode cX6_rider 37 = .ok (.ireturn, 1) := by decide +kernel
theorem dX6_rider_38 : decode cX6_rider 38 = .ok (.aload_n 0, 1) := by decide +kernel
theorem dX6_rider_39 : decode cX6_rider 39 = .ok (.getfield 7, 3) := by decide +kernel
theorem dX6_rider_42 : decode cX6_rider 42 = .ok (.bipush 22, 2) := by decide +kernel
theorem dX6_rider_44 : decode cX6_rider 44 = .ok (.iaload, 1) := by decide +kernel
theorem dX6_rider_45 : decode cX6_rider 45 = .ok (.iconst 4, 1) := by decide +kernel
theorem dX6_rider_46 : decode cX6_rider 46 = .ok (.if_icmp .ne 6, 3) := by decide +kernel
theorem dX6_rider_49 : decode cX6_rider 49 = .ok (.bipush (-3), 2) := by decide +kernel
theorem dX6_rider_51 : decode cX6_rider 51 = .ok (.ireturn, 1) := by decide +kernel
theorem dX6_rider_52 : decode cX6_rider 52 = .ok (.aload_n 0, 1) := by decide +kernel
theorem dX6_rider_53 : decode cX6_rider 53 = .ok (.getfield 7, 3) := by decide +kernel
theorem dX6_rider_56 : decode cX6_rider 56 = .ok (.bipush 22, 2) := by decide +kernel
theorem dX6_rider_58 : decode cX6_rider 58 = .ok (.iaload, 1) := by decide +kernel
theorem dX6_rider_59 : decode cX6_rider 59 = .ok (.istore 4, 2) := by decide +kernel
theorem dX6_rider_61 : decode cX6_rider 61 = .ok (.aload_n 0, 1) := by decide +kernel
theorem dX6_rider_62 : decode cX6_rider 62 = .ok (.getfield 7, 3) := by decide +kernel
theorem dX6_rider_65 : decode cX6_rider 65 = .ok (.bipush 40, 2) := by decide +kernel
theorem dX6_rider_67 : decode cX6_rider 67 = .ok (.iload 4, 2) := by decide +kernel
theorem dX6_rider_69 : decode cX6_rider 69 = .ok (.iadd, 1) := by decide +kernel
theorem dX6_rider_70 : decode cX6_rider 70 = .ok (.iload_n 1, 1) := by decide +kernel
theorem dX6_rider_71 : decode cX6_rider 71 = .ok (.iastore, 1) := by decide +kernel
theorem dX6_rider_72 : decode cX6_rider 72 = .ok (.aload_n 0, 1) := by decide +kernel
theorem dX6_rider_73 : decode cX6_rider 73 = .ok (.getfield 7, 3) := by decide +kernel
theorem dX6_rider_76 : decode cX6_rider 76 = .ok (.bipush 12, 2) := by decide +kernel
theorem dX6_rider_78 : decode cX6_rider 78 = .ok (.iload 4, 2) := by decide +kernel
theorem dX6_rider_80 : decode cX6_rider 80 = .ok (.iadd, 1) := by decide +kernel
theorem dX6_rider_81 : decode cX6_rider 81 = .ok (.iload_n 2, 1) := by decide +kernel
theorem dX6_rider_82 : decode cX6_rider 82 = .ok (.iastore, 1) := by decide +kernel
theorem dX6_rider_83 : decode cX6_rider 83 = .ok (.aload_n 0, 1) := by decide +kernel
theorem dX6_rider_84 : decode cX6_rider 84 = .ok (.getfield 7, 3) := by decide +kernel
theorem dX6_rider_87 : decode cX6_rider 87 = .ok (.bipush 16, 2) := by decide +kernel
theorem dX6_rider_89 : decode cX6_rider 89 = .ok (.iload 4, 2) := by decide +kernel
theorem dX6_rider_91 : decode cX6_rider 91 = .ok (.iadd, 1) := by decide +kernel
theorem dX6_rider_92 : decode cX6_rider 92 = .ok (.iload_n 3, 1) := by decide +kernel
theorem dX6_rider_93 : decode cX6_rider 93 = .ok (.iastore, 1) := by decide +kernel
theorem dX6_rider_94 : decode cX6_rider 94 = .ok (.aload_n 0, 1) := by decide +kernel
theorem dX6_rider_95 : decode cX6_rider 95 = .ok (.getfield 7, 3) := by decide +kernel
theorem dX6_rider_98 : decode cX6_rider 98 = .ok (.bipush 8, 2) := by decide +kernel
theorem dX6_rider_100 : decode cX6_rider 100 = .ok (.iload 4, 2) := by decide +kernel
theorem dX6_rider_102 : decode cX6_rider 102 = .ok (.iadd, 1) := by decide +kernel
theorem dX6_rider_103 : decode cX6_rider 103 = .ok (.iconst 0, 1) := by decide +kernel
theorem dX6_rider_104 : decode cX6_rider 104 = .ok (.iastore, 1) := by decide +kernel
theorem dX6_rider_105 : decode cX6_rider 105 = .ok (.aload_n 0, 1) := by decide +kernel
theorem dX6_rider_106 : decode cX6_rider 106 = .ok (.getfield 7, 3) := by decide +kernel
theorem dX6_rider_109 : decode cX6_rider 109 = .ok (.bipush 44, 2) := by decide +kernel
theorem dX6_rider_111 : decode cX6_rider 111 = .ok (.iload 4, 2) := by decide +kernel
theorem dX6_rider_113 : decode cX6_rider 113 = .ok (.iadd, 1) := by decide +kernel
theorem dX6_rider_114 : decode cX6_rider 114 = .ok (.iconst 0, 1) := by decide +kernel
theorem dX6_rider_115 : decode cX6_rider 115 = .ok (.iastore, 1) := by decide +kernel
theorem dX6_rider_116 : decode cX6_rider 116 = .ok (.aload_n 0, 1) := by decide +kernel
theorem dX6_rider_117 : decode cX6_rider 117 = .ok (.getfield 7, 3) := by decide +kernel
theorem dX6_rider_120 : decode cX6_rider 120 = .ok (.bipush 22, 2) := by decide +kernel
theorem dX6_rider_122 : decode cX6_rider 122 = .ok (.dup2, 1) := by decide +kernel
theorem dX6_rider_123 : decode cX6_rider 123 = .ok (.iaload, 1) := by decide +kernel
theorem dX6_rider_124 : decode cX6_rider 124 = .ok (.iconst 1, 1) := by decide +kernel
theorem dX6_rider_125 : decode cX6_rider 125 = .ok (.iadd, 1) := by decide +kernel
theorem dX6_rider_126 : decode cX6_rider 126 = .ok (.iastore, 1) := by decide +kernel
theorem dX6_rider_127 : decode cX6_rider 127 = .ok (.aload_n 0, 1) := by decide +kernel
theorem dX6_rider_128 : decode cX6_rider 128 = .ok (.getfield 7, 3) := by decide +kernel
theorem dX6_rider_131 : decode cX6_rider 131 = .ok (.bipush 48, 2) := by decide +kernel
theorem dX6_rider_133 : decode cX6_rider 133 = .ok (.iconst 0, 1) := by decide +kernel
theorem dX6_rider_134 : decode cX6_rider 134 = .ok (.iastore, 1) := by decide +kernel
theorem dX6_rider_135 : decode cX6_rider 135 = .ok (.iload 4, 2) := by decide +kernel
theorem dX6_rider_137 : decode cX6_rider 137 = .ok (.ireturn, 1) := by decide +kernel
theorem dX6_of_0 : decode cX6_of 0 = .ok (.iload_n 1, 1) := by decide +kernel
theorem dX6_of_1 : decode cX6_of 1 = .ok (.i2l, 1) := by decide +kernel
theorem dX6_of_2 : decode cX6_of 2 = .ok (.lconst 0, 1) := by decide +kernel
theorem dX6_of_3 : decode cX6_of 3 = .ok (.aload_n 0, 1) := by decide +kernel
theorem dX6_of_4 : decode cX6_of 4 = .ok (.getfield 7, 3) := by decide +kernel
theorem dX6_of_7 : decode cX6_of 7 = .ok (.bipush 21, 2) := by decide +kernel
theorem dX6_of_9 : decode cX6_of 9 = .ok (.iaload, 1) := by decide +kernel
theorem dX6_of_10 : decode cX6_of 10 = .ok (.iconst 1, 1) := by decide +kernel
theorem dX6_of_11 : decode cX6_of 11 = .ok (.isub, 1) := by decide +kernel
theorem dX6_of_12 : decode cX6_of 12 = .ok (.i2l, 1) := by decide +kernel
theorem dX6_of_13 : decode cX6_of 13 = .ok (.invokestatic 38, 3) := by decide +kernel
theorem dX6_of_16 : decode cX6_of 16 = .ok (.ifCond .ne 5, 3) := by decide +kernel
theorem dX6_of_19 : decode cX6_of 19 = .ok (.iconst (-1), 1) := by decide +kernel
theorem dX6_of_20 : decode cX6_of 20 = .ok (.ireturn, 1) := by decide +kernel
theorem dX6_of_21 : decode cX6_of 21 = .ok (.iload_n 2, 1) := by decide +kernel
theorem dX6_of_22 : decode cX6_of 22 = .ok (.ifCond .ne 15, 3) := by decide +kernel
theorem dX6_of_25 : decode cX6_of 25 = .ok (.aload_n 0, 1) := by decide +kernel
theorem dX6_of_26 : decode cX6_of 26 = .ok (.getfield 7, 3) := by decide +kernel
theorem dX6_of_29 : decode cX6_of 29 = .ok (.bipush 24, 2) := by decide +kernel
theorem dX6_of_31 : decode cX6_of 31 = .ok (.iload_n 1, 1) := by decide +kernel
theorem dX6_of_32 : decode cX6_of 32 = .ok (.iadd, 1) := by decide +kernel
theorem dX6_of_33 : decode cX6_of 33 = .ok (.iaload, 1) := by decide +kernel
theorem dX6_of_34 : decode cX6_of 34 = .ok (.goto 37, 3) := by decide +kernel
theorem dX6_of_37 : decode cX6_of 37 = .ok (.iload_n 2, 1) := by decide +kernel
theorem dX6_of_38 : decode cX6_of 38 = .ok (.iconst 1, 1) := by decide +kernel
theorem dX6_of_39 : decode cX6_of 39 = .ok (.if_icmp .ne 15, 3) := by decide +kernel
theorem dX6_of_42 : decode cX6_of 42 = .ok (.aload_n 0, 1) := by decide +kernel
theorem dX6_of_43 : decode cX6_of 43 = .ok (.getfield 7, 3) := by decide +kernel
theorem dX6_of_46 : decode cX6_of 46 = .ok (.bipush 32, 2) := by decide +kernel
theorem dX6_of_48 : decode cX6_of 48 = .ok (.iload_n 1, 1) := by decide +kernel
theorem dX6_of_49 : decode cX6_of 49 = .ok (.iadd, 1) := by decide +kernel
theorem dX6_of_50 : decode cX6_of 50 = .ok (.iaload, 1) := by decide +kernel
theorem dX6_of_51 : decode cX6_of 51 = .ok (.goto 20, 3) := by decide +kernel
theorem dX6_of_54 : decode cX6_of 54 = .ok (.iload_n 2, 1) := by decide +kernel
theorem dX6_of_55 : decode cX6_of 55 = .ok (.iconst 2, 1) := by decide +kernel
theorem dX6_of_56 : decode cX6_of 56 = .ok (.if_icmp .ne 14, 3) := by decide +kernel
theorem dX6_of_59 : decode cX6_of 59 = .ok (.aload_n 0, 1) := by decide +kernel
theorem dX6_of_60 : decode cX6_of 60 = .ok (.getfield 7, 3) := by decide +kernel
theorem dX6_of_63 : decode cX6_of 63 = .ok (.iconst 0, 1) := by decide +kernel
theorem dX6_of_64 : decode cX6_of 64 = .ok (.iload_n 1, 1) := by decide +kernel
theorem dX6_of_65 : decode cX6_of 65 = .ok (.iadd, 1) := by decide +kernel
theorem dX6_of_66 : decode cX6_of 66 = .ok (.iaload, 1) := by decide +kernel
theorem dX6_of_67 : decode cX6_of 67 = .ok (.goto 4, 3) := by decide +kernel
theorem dX6_of_70 : decode cX6_of 70 = .ok (.iconst (-1), 1) := by decide +kernel
theorem dX6_of_71 : decode cX6_of 71 = .ok (.ireturn, 1) := by decide +kernel
theorem dX6_takes_0 : decode cX6_takes 0 = .ok (.iload_n 2, 1) := by decide +kernel
theorem dX6_takes_1 : decode cX6_takes 1 = .ok (.ifCond .eq 8, 3) := by decide +kernel
theorem dX6_takes_4 : decode cX6_takes 4 = .ok (.bipush 6, 2) := by decide +kernel
theorem dX6_takes_6 : decode cX6_takes 6 = .ok (.goto 5, 3) := by decide +kernel
theorem dX6_takes_9 : decode cX6_takes 9 = .ok (.bipush 10, 2) := by decide +kernel
theorem dX6_takes_11 : decode cX6_takes 11 = .ok (.iload_n 1, 1) := by decide +kernel
theorem dX6_takes_12 : decode cX6_takes 12 = .ok (.imul, 1) := by decide +kernel
theorem dX6_takes_13 : decode cX6_takes 13 = .ok (.istore_n 3, 1) := by decide +kernel
theorem dX6_takes_14 : decode cX6_takes 14 = .ok (.iload_n 0, 1) := by decide +kernel
theorem dX6_takes_15 : decode cX6_takes 15 = .ok (.tableswitch 71 1 4 #[29, 33, 39, 53], 29) := by decide +kernel
theorem dX6_takes_44 : decode cX6_takes 44 = .ok (.iload_n 3, 1) := by decide +kernel
theorem dX6_takes_45 : decode cX6_takes 45 = .ok (.iconst 5, 1) := by decide +kernel
theorem dX6_takes_46 : decode cX6_takes 46 = .ok (.iadd, 1) := by decide +kernel
theorem dX6_takes_47 : decode cX6_takes 47 = .ok (.ireturn, 1) := by decide +kernel
theorem dX6_takes_48 : decode cX6_takes 48 = .ok (.iload_n 3, 1) := by decide +kernel
theorem dX6_takes_49 : decode cX6_takes 49 = .ok (.iload_n 3, 1) := by decide +kernel
theorem dX6_takes_50 : decode cX6_takes 50 = .ok (.iconst 2, 1) := by decide +kernel
theorem dX6_takes_51 : decode cX6_takes 51 = .ok (.idiv, 1) := by decide +kernel
theorem dX6_takes_52 : decode cX6_takes 52 = .ok (.iadd, 1) := by decide +kernel
theorem dX6_takes_53 : decode cX6_takes 53 = .ok (.ireturn, 1) := by decide +kernel
theorem dX6_takes_54 : decode cX6_takes 54 = .ok (.iload_n 2, 1) := by decide +kernel
theorem dX6_takes_55 : decode cX6_takes 55 = .ok (.ifCond .eq 7, 3) := by decide +kernel
theorem dX6_takes_58 : decode cX6_takes 58 = .ok (.iload_n 3, 1) := by decide +kernel
theorem dX6_takes_59 : decode cX6_takes 59 = .ok (.goto 8, 3) := by decide +kernel
theorem dX6_takes_62 : decode cX6_takes 62 = .ok (.iload_n 3, 1) := by decide +kernel
theorem dX6_takes_63 : decode cX6_takes 63 = .ok (.iload_n 3, 1) := by decide +kernel
theorem dX6_takes_64 : decode cX6_takes 64 = .ok (.iconst 2, 1) := by decide +kernel
theorem dX6_takes_65 : decode cX6_takes 65 = .ok (.idiv, 1) := by decide +kernel
theorem dX6_takes_66 : decode cX6_takes 66 = .ok (.iadd, 1) := by decide +kernel
theorem dX6_takes_67 : decode cX6_takes 67 = .ok (.ireturn, 1) := by decide +kernel
theorem dX6_takes_68 : decode cX6_takes 68 = .ok (.iload_n 2, 1) := by decide +kernel
theorem dX6_takes_69 : decode cX6_takes 69 = .ok (.ifCond .eq 8, 3) := by decide +kernel
theorem dX6_takes_72 : decode cX6_takes 72 = .ok (.bipush 6, 2) := by decide +kernel
theorem dX6_takes_74 : decode cX6_takes 74 = .ok (.goto 5, 3) := by decide +kernel
theorem dX6_takes_77 : decode cX6_takes 77 = .ok (.bipush 10, 2) := by decide +kernel
theorem dX6_takes_79 : decode cX6_takes 79 = .ok (.iload_n 1, 1) := by decide +kernel
theorem dX6_takes_80 : decode cX6_takes 80 = .ok (.iconst 1, 1) := by decide +kernel
theorem dX6_takes_81 : decode cX6_takes 81 = .ok (.isub, 1) := by decide +kernel
theorem dX6_takes_82 : decode cX6_takes 82 = .ok (.imul, 1) := by decide +kernel
theorem dX6_takes_83 : decode cX6_takes 83 = .ok (.iconst 5, 1) := by decide +kernel
theorem dX6_takes_84 : decode cX6_takes 84 = .ok (.iadd, 1) := by decide +kernel
theorem dX6_takes_85 : decode cX6_takes 85 = .ok (.ireturn, 1) := by decide +kernel
theorem dX6_takes_86 : decode cX6_takes 86 = .ok (.iload_n 3, 1) := by decide +kernel
theorem dX6_takes_87 : decode cX6_takes 87 = .ok (.ireturn, 1) := by decide +kernel
theorem dX6_isThere_0 : decode cX6_isThere 0 = .ok (.aload_n 0, 1) := by decide +kernel
theorem dX6_isThere_1 : decode cX6_isThere 1 = .ok (.getfield 7, 3) := by decide +kernel
theorem dX6_isThere_4 : decode cX6_isThere 4 = .ok (.iload_n 1, 1) := by decide +kernel
theorem dX6_isThere_5 : decode cX6_isThere 5 = .ok (.bipush 8, 2) := by decide +kernel
theorem dX6_isThere_7 : decode cX6_isThere 7 = .ok (.iadd, 1) := by decide +kernel
theorem dX6_isThere_8 : decode cX6_isThere 8 = .ok (.iload_n 2, 1) := by decide +kernel
theorem dX6_isThere_9 : decode cX6_isThere 9 = .ok (.iadd, 1) := by decide +kernel
theorem dX6_isThere_10 : decode cX6_isThere 10 = .ok (.iaload, 1) := by decide +kernel
theorem dX6_isThere_11 : decode cX6_isThere 11 = .ok (.aload_n 0, 1) := by decide +kernel
theorem dX6_isThere_12 : decode cX6_isThere 12 = .ok (.getfield 7, 3) := by decide +kernel
theorem dX6_isThere_15 : decode cX6_isThere 15 = .ok (.iload_n 1, 1) := by decide +kernel
theorem dX6_isThere_16 : decode cX6_isThere 16 = .ok (.bipush 21, 2) := by decide +kernel
theorem dX6_isThere_18 : decode cX6_isThere 18 = .ok (.iadd, 1) := by decide +kernel
theorem dX6_isThere_19 : decode cX6_isThere 19 = .ok (.iaload, 1) := by decide +kernel
theorem dX6_isThere_20 : decode cX6_isThere 20 = .ok (.if_icmp .ne 7, 3) := by decide +kernel
theorem dX6_isThere_23 : decode cX6_isThere 23 = .ok (.iconst 1, 1) := by decide +kernel
theorem dX6_isThere_24 : decode cX6_isThere 24 = .ok (.goto 4, 3) := by decide +kernel
theorem dX6_isThere_27 : decode cX6_isThere 27 = .ok (.iconst 0, 1) := by decide +kernel
theorem dX6_isThere_28 : decode cX6_isThere 28 = .ok (.ireturn, 1) := by decide +kernel
theorem dX6_takesNow_0 : decode cX6_takesNow 0 = .ok (.aload_n 0, 1) := by decide +kernel
theorem dX6_takesNow_1 : decode cX6_takesNow 1 = .ok (.iconst 0, 1) := by decide +kernel
theorem dX6_takesNow_2 : decode cX6_takesNow 2 = .ok (.iload_n 1, 1) := by decide +kernel
theorem dX6_takesNow_3 : decode cX6_takesNow 3 = .ok (.invokevirtual 54, 3) := by decide +kernel
theorem dX6_takesNow_6 : decode cX6_takesNow 6 = .ok (.ifCond .eq 8, 3) := by decide +kernel
theorem dX6_takesNow_9 : decode cX6_takesNow 9 = .ok (.bipush (-4), 2) := by decide +kernel
theorem dX6_takesNow_11 : decode cX6_takesNow 11 = .ok (.goto 33, 3) := by decide +kernel
theorem dX6_takesNow_14 : decode cX6_takesNow 14 = .ok (.aload_n 0, 1) := by decide +kernel
theorem dX6_takesNow_15 : decode cX6_takesNow 15 = .ok (.getfield 7, 3) := by decide +kernel
theorem dX6_takesNow_18 : decode cX6_takesNow 18 = .ok (.bipush 40, 2) := by decide +kernel
theorem dX6_takesNow_20 : decode cX6_takesNow 20 = .ok (.iload_n 1, 1) := by decide +kernel
theorem dX6_takesNow_21 : decode cX6_takesNow 21 = .ok (.iadd, 1) := by decide +kernel
theorem dX6_takesNow_22 : decode cX6_takesNow 22 = .ok (.iaload, 1) := by decide +kernel
theorem dX6_takesNow_23 : decode cX6_takesNow 23 = .ok (.aload_n 0, 1) := by decide +kernel
theorem dX6_takesNow_24 : decode cX6_takesNow 24 = .ok (.getfield 7, 3) := by decide +kernel
theorem dX6_takesNow_27 : decode cX6_takesNow 27 = .ok (.bipush 24, 2) := by decide +kernel
theorem dX6_takesNow_29 : decode cX6_takesNow 29 = .ok (.aload_n 0, 1) := by decide +kernel
theorem dX6_takesNow_30 : decode cX6_takesNow 30 = .ok (.getfield 7, 3) := by decide +kernel
theorem dX6_takesNow_33 : decode cX6_takesNow 33 = .ok (.bipush 8, 2) := by decide +kernel
theorem dX6_takesNow_35 : decode cX6_takesNow 35 = .ok (.iload_n 1, 1) := by decide +kernel
theorem dX6_takesNow_36 : decode cX6_takesNow 36 = .ok (.iadd, 1) := by decide +kernel
theorem dX6_takesNow_37 : decode cX6_takesNow 37 = .ok (.iaload, 1) := by decide +kernel
theorem dX6_takesNow_38 : decode cX6_takesNow 38 = .ok (.iadd, 1) := by decide +kernel
theorem dX6_takesNow_39 : decode cX6_takesNow 39 = .ok (.iaload, 1) := by decide +kernel
theorem dX6_takesNow_40 : decode cX6_takesNow 40 = .ok (.iload_n 2, 1) := by decide +kernel
theorem dX6_takesNow_41 : decode cX6_takesNow 41 = .ok (.invokestatic 58, 3) := by decide +kernel
theorem dX6_takesNow_44 : decode cX6_takesNow 44 = .ok (.ireturn, 1) := by decide +kernel
theorem dX6_at_0 : decode cX6_at 0 = .ok (.aload_n 0, 1) := by decide +kernel
theorem dX6_at_1 : decode cX6_at 1 = .ok (.iload_n 1, 1) := by decide +kernel
theorem dX6_at_2 : decode cX6_at 2 = .ok (.invokevirtual 42, 3) := by decide +kernel
theorem dX6_at_5 : decode cX6_at 5 = .ok (.ifCond .ne 5, 3) := by decide +kernel
theorem dX6_at_8 : decode cX6_at 8 = .ok (.iconst (-1), 1) := by decide +kernel
theorem dX6_at_9 : decode cX6_at 9 = .ok (.ireturn, 1) := by decide +kernel
theorem dX6_at_10 : decode cX6_at 10 = .ok (.iload_n 2, 1) := by decide +kernel
theorem dX6_at_11 : decode cX6_at 11 = .ok (.tableswitch 105 0 6 #[41, 51, 61, 71, 81, 91, 98], 41) := by decide +kernel
theorem dX6_at_52 : decode cX6_at 52 = .ok (.aload_n 0, 1) := by decide +kernel
theorem dX6_at_53 : decode cX6_at 53 = .ok (.getfield 7, 3) := by decide +kernel
theorem dX6_at_56 : decode cX6_at 56 = .ok (.bipush 40, 2) := by decide +kernel
theorem dX6_at_58 : decode cX6_at 58 = .ok (.iload_n 1, 1) := by decide +kernel
theorem dX6_at_59 : decode cX6_at 59 = .ok (.iadd, 1) := by decide +kernel
theorem dX6_at_60 : decode cX6_at 60 = .ok (.iaload, 1) := by decide +kernel
theorem dX6_at_61 : decode cX6_at 61 = .ok (.ireturn, 1) := by decide +kernel
theorem dX6_at_62 : decode cX6_at 62 = .ok (.aload_n 0, 1) := by decide +kernel
theorem dX6_at_63 : decode cX6_at 63 = .ok (.getfield 7, 3) := by decide +kernel
theorem dX6_at_66 : decode cX6_at 66 = .ok (.bipush 8, 2) := by decide +kernel
theorem dX6_at_68 : decode cX6_at 68 = .ok (.iload_n 1, 1) := by decide +kernel
theorem dX6_at_69 : decode cX6_at 69 = .ok (.iadd, 1) := by decide +kernel
theorem dX6_at_70 : decode cX6_at 70 = .ok (.iaload, 1) := by decide +kernel
theorem dX6_at_71 : decode cX6_at 71 = .ok (.ireturn, 1) := by decide +kernel
theorem dX6_at_72 : decode cX6_at 72 = .ok (.aload_n 0, 1) := by decide +kernel
theorem dX6_at_73 : decode cX6_at 73 = .ok (.getfield 7, 3) := by decide +kernel
theorem dX6_at_76 : decode cX6_at 76 = .ok (.bipush 12, 2) := by decide +kernel
theorem dX6_at_78 : decode cX6_at 78 = .ok (.iload_n 1, 1) := by decide +kernel
theorem dX6_at_79 : decode cX6_at 79 = .ok (.iadd, 1) := by decide +kernel
theorem dX6_at_80 : decode cX6_at 80 = .ok (.iaload, 1) := by decide +kernel
theorem dX6_at_81 : decode cX6_at 81 = .ok (.ireturn, 1) := by decide +kernel
theorem dX6_at_82 : decode cX6_at 82 = .ok (.aload_n 0, 1) := by decide +kernel
theorem dX6_at_83 : decode cX6_at 83 = .ok (.getfield 7, 3) := by decide +kernel
theorem dX6_at_86 : decode cX6_at 86 = .ok (.bipush 16, 2) := by decide +kernel
theorem dX6_at_88 : decode cX6_at 88 = .ok (.iload_n 1, 1) := by decide +kernel
theorem dX6_at_89 : decode cX6_at 89 = .ok (.iadd, 1) := by decide +kernel
theorem dX6_at_90 : decode cX6_at 90 = .ok (.iaload, 1) := by decide +kernel
theorem dX6_at_91 : decode cX6_at 91 = .ok (.ireturn, 1) := by decide +kernel
theorem dX6_at_92 : decode cX6_at 92 = .ok (.aload_n 0, 1) := by decide +kernel
theorem dX6_at_93 : decode cX6_at 93 = .ok (.getfield 7, 3) := by decide +kernel
theorem dX6_at_96 : decode cX6_at 96 = .ok (.bipush 44, 2) := by decide +kernel
theorem dX6_at_98 : decode cX6_at 98 = .ok (.iload_n 1, 1) := by decide +kernel
theorem dX6_at_99 : decode cX6_at 99 = .ok (.iadd, 1) := by decide +kernel
theorem dX6_at_100 : decode cX6_at 100 = .ok (.iaload, 1) := by decide +kernel
theorem dX6_at_101 : decode cX6_at 101 = .ok (.ireturn, 1) := by decide +kernel
theorem dX6_at_102 : decode cX6_at 102 = .ok (.aload_n 0, 1) := by decide +kernel
theorem dX6_at_103 : decode cX6_at 103 = .ok (.iload_n 1, 1) := by decide +kernel
theorem dX6_at_104 : decode cX6_at 104 = .ok (.iconst 1, 1) := by decide +kernel
theorem dX6_at_105 : decode cX6_at 105 = .ok (.invokevirtual 62, 3) := by decide +kernel
theorem dX6_at_108 : decode cX6_at 108 = .ok (.ireturn, 1) := by decide +kernel
theorem dX6_at_109 : decode cX6_at 109 = .ok (.aload_n 0, 1) := by decide +kernel
theorem dX6_at_110 : decode cX6_at 110 = .ok (.iload_n 1, 1) := by decide +kernel
theorem dX6_at_111 : decode cX6_at 111 = .ok (.iconst 0, 1) := by decide +kernel
theorem dX6_at_112 : decode cX6_at 112 = .ok (.invokevirtual 62, 3) := by decide +kernel
theorem dX6_at_115 : decode cX6_at 115 = .ok (.ireturn, 1) := by decide +kernel
theorem dX6_at_116 : decode cX6_at 116 = .ok (.iconst (-1), 1) := by decide +kernel
theorem dX6_at_117 : decode cX6_at 117 = .ok (.ireturn, 1) := by decide +kernel
theorem dX6_buys_0 : decode cX6_buys 0 = .ok (.aload_n 0, 1) := by decide +kernel
theorem dX6_buys_1 : decode cX6_buys 1 = .ok (.iload_n 1, 1) := by decide +kernel
theorem dX6_buys_2 : decode cX6_buys 2 = .ok (.invokevirtual 42, 3) := by decide +kernel
theorem dX6_buys_5 : decode cX6_buys 5 = .ok (.ifCond .eq 24, 3) := by decide +kernel
theorem dX6_buys_8 : decode cX6_buys 8 = .ok (.iload_n 2, 1) := by decide +kernel
theorem dX6_buys_9 : decode cX6_buys 9 = .ok (.i2l, 1) := by decide +kernel
theorem dX6_buys_10 : decode cX6_buys 10 = .ok (.lconst 0, 1) := by decide +kernel
theorem dX6_buys_11 : decode cX6_buys 11 = .ok (.iconst 1, 1) := by decide +kernel
theorem dX6_buys_12 : decode cX6_buys 12 = .ok (.aload_n 0, 1) := by decide +kernel
theorem dX6_buys_13 : decode cX6_buys 13 = .ok (.getfield 7, 3) := by decide +kernel
theorem dX6_buys_16 : decode cX6_buys 16 = .ok (.bipush 21, 2) := by decide +kernel
theorem dX6_buys_18 : decode cX6_buys 18 = .ok (.iaload, 1) := by decide +kernel
theorem dX6_buys_19 : decode cX6_buys 19 = .ok (.ishl, 1) := by decide +kernel
theorem dX6_buys_20 : decode cX6_buys 20 = .ok (.iconst 1, 1) := by decide +kernel
theorem dX6_buys_21 : decode cX6_buys 21 = .ok (.isub, 1) := by decide +kernel
theorem dX6_buys_22 : decode cX6_buys 22 = .ok (.i2l, 1) := by decide +kernel
theorem dX6_buys_23 : decode cX6_buys 23 = .ok (.invokestatic 38, 3) := by decide +kernel
theorem dX6_buys_26 : decode cX6_buys 26 = .ok (.ifCond .ne 5, 3) := by decide +kernel
theorem dX6_buys_29 : decode cX6_buys 29 = .ok (.iconst (-1), 1) := by decide +kernel
theorem dX6_buys_30 : decode cX6_buys 30 = .ok (.ireturn, 1) := by decide +kernel
theorem dX6_buys_31 : decode cX6_buys 31 = .ok (.aload_n 0, 1) := by decide +kernel
theorem dX6_buys_32 : decode cX6_buys 32 = .ok (.getfield 7, 3) := by decide +kernel
theorem dX6_buys_35 : decode cX6_buys 35 = .ok (.bipush 44, 2) := by decide +kernel
theorem dX6_buys_37 : decode cX6_buys 37 = .ok (.iload_n 1, 1) := by decide +kernel
theorem dX6_buys_38 : decode cX6_buys 38 = .ok (.iadd, 1) := by decide +kernel
theorem dX6_buys_39 : decode cX6_buys 39 = .ok (.iaload, 1) := by decide +kernel
theorem dX6_buys_40 : decode cX6_buys 40 = .ok (.istore_n 3, 1) := by decide +kernel
theorem dX6_buys_41 : decode cX6_buys 41 = .ok (.aload_n 0, 1) := by decide +kernel
theorem dX6_buys_42 : decode cX6_buys 42 = .ok (.getfield 7, 3) := by decide +kernel
theorem dX6_buys_45 : decode cX6_buys 45 = .ok (.bipush 44, 2) := by decide +kernel
theorem dX6_buys_47 : decode cX6_buys 47 = .ok (.iload_n 1, 1) := by decide +kernel
theorem dX6_buys_48 : decode cX6_buys 48 = .ok (.iadd, 1) := by decide +kernel
theorem dX6_buys_49 : decode cX6_buys 49 = .ok (.iload_n 2, 1) := by decide +kernel
theorem dX6_buys_50 : decode cX6_buys 50 = .ok (.iastore, 1) := by decide +kernel
theorem dX6_buys_51 : decode cX6_buys 51 = .ok (.iload_n 3, 1) := by decide +kernel
theorem dX6_buys_52 : decode cX6_buys 52 = .ok (.ireturn, 1) := by decide +kernel
theorem dX6_price_0 : decode cX6_price 0 = .ok (.iload_n 1, 1) := by decide +kernel
theorem dX6_price_1 : decode cX6_price 1 = .ok (.i2l, 1) := by decide +kernel
theorem dX6_price_2 : decode cX6_price 2 = .ok (.lconst 1, 1) := by decide +kernel
theorem dX6_price_3 : decode cX6_price 3 = .ok (.ldc2_w 46, 3) := by decide +kernel
theorem dX6_price_6 : decode cX6_price 6 = .ok (.invokestatic 38, 3) := by decide +kernel
theorem dX6_price_9 : decode cX6_price 9 = .ok (.ifCond .ne 5, 3) := by decide +kernel
theorem dX6_price_12 : decode cX6_price 12 = .ok (.iconst (-1), 1) := by decide +kernel
theorem dX6_price_13 : decode cX6_price 13 = .ok (.ireturn, 1) := by decide +kernel
theorem dX6_price_14 : decode cX6_price 14 = .ok (.aload_n 0, 1) := by decide +kernel
theorem dX6_price_15 : decode cX6_price 15 = .ok (.getfield 7, 3) := by decide +kernel
theorem dX6_price_18 : decode cX6_price 18 = .ok (.bipush 23, 2) := by decide +kernel
theorem dX6_price_20 : decode cX6_price 20 = .ok (.iaload, 1) := by decide +kernel
theorem dX6_price_21 : decode cX6_price 21 = .ok (.istore_n 2, 1) := by decide +kernel
theorem dX6_price_22 : decode cX6_price 22 = .ok (.aload_n 0, 1) := by decide +kernel
theorem dX6_price_23 : decode cX6_price 23 = .ok (.getfield 7, 3) := by decide +kernel
theorem dX6_price_26 : decode cX6_price 26 = .ok (.bipush 23, 2) := by decide +kernel
theorem dX6_price_28 : decode cX6_price 28 = .ok (.iload_n 1, 1) := by decide +kernel
theorem dX6_price_29 : decode cX6_price 29 = .ok (.iastore, 1) := by decide +kernel
theorem dX6_price_30 : decode cX6_price 30 = .ok (.iload_n 2, 1) := by decide +kernel
theorem dX6_price_31 : decode cX6_price 31 = .ok (.ireturn, 1) := by decide +kernel
theorem dX6_type_0 : decode cX6_type 0 = .ok (.iload_n 1, 1) := by decide +kernel
theorem dX6_type_1 : decode cX6_type 1 = .ok (.i2l, 1) := by decide +kernel
theorem dX6_type_2 : decode cX6_type 2 = .ok (.ldc2_w 66, 3) := by decide +kernel
theorem dX6_type_5 : decode cX6_type 5 = .ok (.ldc2_w 68, 3) := by decide +kernel
theorem dX6_type_8 : decode cX6_type 8 = .ok (.invokestatic 38, 3) := by decide +kernel
theorem dX6_type_11 : decode cX6_type 11 = .ok (.ifCond .ne 5, 3) := by decide +kernel
theorem dX6_type_14 : decode cX6_type 14 = .ok (.iconst (-1), 1) := by decide +kernel
theorem dX6_type_15 : decode cX6_type 15 = .ok (.ireturn, 1) := by decide +kernel
theorem dX6_type_16 : decode cX6_type 16 = .ok (.aload_n 0, 1) := by decide +kernel
theorem dX6_type_17 : decode cX6_type 17 = .ok (.getfield 70, 3) := by decide +kernel
theorem dX6_type_20 : decode cX6_type 20 = .ok (.bipush 90, 2) := by decide +kernel
theorem dX6_type_22 : decode cX6_type 22 = .ok (.if_icmp .ne 6, 3) := by decide +kernel
theorem dX6_type_25 : decode cX6_type 25 = .ok (.bipush (-3), 2) := by decide +kernel
theorem dX6_type_27 : decode cX6_type 27 = .ok (.ireturn, 1) := by decide +kernel
theorem dX6_type_28 : decode cX6_type 28 = .ok (.aload_n 0, 1) := by decide +kernel
theorem dX6_type_29 : decode cX6_type 29 = .ok (.getfield 13, 3) := by decide +kernel
theorem dX6_type_32 : decode cX6_type 32 = .ok (.aload_n 0, 1) := by decide +kernel
theorem dX6_type_33 : decode cX6_type 33 = .ok (.getfield 70, 3) := by decide +kernel
theorem dX6_type_36 : decode cX6_type 36 = .ok (.iload_n 1, 1) := by decide +kernel
theorem dX6_type_37 : decode cX6_type 37 = .ok (.iastore, 1) := by decide +kernel
theorem dX6_type_38 : decode cX6_type 38 = .ok (.aload_n 0, 1) := by decide +kernel
theorem dX6_type_39 : decode cX6_type 39 = .ok (.dup, 1) := by decide +kernel
theorem dX6_type_40 : decode cX6_type 40 = .ok (.getfield 70, 3) := by decide +kernel
theorem dX6_type_43 : decode cX6_type 43 = .ok (.iconst 1, 1) := by decide +kernel
theorem dX6_type_44 : decode cX6_type 44 = .ok (.iadd, 1) := by decide +kernel
theorem dX6_type_45 : decode cX6_type 45 = .ok (.putfield 70, 3) := by decide +kernel
theorem dX6_type_48 : decode cX6_type 48 = .ok (.aload_n 0, 1) := by decide +kernel
theorem dX6_type_49 : decode cX6_type 49 = .ok (.getfield 70, 3) := by decide +kernel
theorem dX6_type_52 : decode cX6_type 52 = .ok (.ireturn, 1) := by decide +kernel
theorem dX6_letterAt_0 : decode cX6_letterAt 0 = .ok (.iload_n 1, 1) := by decide +kernel
theorem dX6_letterAt_1 : decode cX6_letterAt 1 = .ok (.aload_n 0, 1) := by decide +kernel
theorem dX6_letterAt_2 : decode cX6_letterAt 2 = .ok (.getfield 70, 3) := by decide +kernel
theorem dX6_letterAt_5 : decode cX6_letterAt 5 = .ok (.if_icmp .ge 12, 3) := by decide +kernel
theorem dX6_letterAt_8 : decode cX6_letterAt 8 = .ok (.aload_n 0, 1) := by decide +kernel
theorem dX6_letterAt_9 : decode cX6_letterAt 9 = .ok (.getfield 13, 3) := by decide +kernel
theorem dX6_letterAt_12 : decode cX6_letterAt 12 = .ok (.iload_n 1, 1) := by decide +kernel
theorem dX6_letterAt_13 : decode cX6_letterAt 13 = .ok (.iaload, 1) := by decide +kernel
theorem dX6_letterAt_14 : decode cX6_letterAt 14 = .ok (.goto 4, 3) := by decide +kernel
theorem dX6_letterAt_17 : decode cX6_letterAt 17 = .ok (.iconst (-1), 1) := by decide +kernel
theorem dX6_letterAt_18 : decode cX6_letterAt 18 = .ok (.ireturn, 1) := by decide +kernel
theorem dX6_here_0 : decode cX6_here 0 = .ok (.aload_n 0, 1) := by decide +kernel
theorem dX6_here_1 : decode cX6_here 1 = .ok (.aload_n 0, 1) := by decide +kernel
theorem dX6_here_2 : decode cX6_here 2 = .ok (.getfield 74, 3) := by decide +kernel
theorem dX6_here_5 : decode cX6_here 5 = .ok (.invokevirtual 77, 3) := by decide +kernel
theorem dX6_here_8 : decode cX6_here 8 = .ok (.bipush 32, 2) := by decide +kernel
theorem dX6_here_10 : decode cX6_here 10 = .ok (.if_icmp .ne 16, 3) := by decide +kernel
theorem dX6_here_13 : decode cX6_here 13 = .ok (.aload_n 0, 1) := by decide +kernel
theorem dX6_here_14 : decode cX6_here 14 = .ok (.dup, 1) := by decide +kernel
theorem dX6_here_15 : decode cX6_here 15 = .ok (.getfield 74, 3) := by decide +kernel
theorem dX6_here_18 : decode cX6_here 18 = .ok (.iconst 1, 1) := by decide +kernel
theorem dX6_here_19 : decode cX6_here 19 = .ok (.iadd, 1) := by decide +kernel
theorem dX6_here_20 : decode cX6_here 20 = .ok (.putfield 74, 3) := by decide +kernel
theorem dX6_here_23 : decode cX6_here 23 = .ok (.goto (-23), 3) := by decide +kernel
theorem dX6_here_26 : decode cX6_here 26 = .ok (.aload_n 0, 1) := by decide +kernel
theorem dX6_here_27 : decode cX6_here 27 = .ok (.aload_n 0, 1) := by decide +kernel
theorem dX6_here_28 : decode cX6_here 28 = .ok (.getfield 74, 3) := by decide +kernel
theorem dX6_here_31 : decode cX6_here 31 = .ok (.invokevirtual 77, 3) := by decide +kernel
theorem dX6_here_34 : decode cX6_here 34 = .ok (.ireturn, 1) := by decide +kernel
theorem dX6_fails_0 : decode cX6_fails 0 = .ok (.aload_n 0, 1) := by decide +kernel
theorem dX6_fails_1 : decode cX6_fails 1 = .ok (.iload_n 1, 1) := by decide +kernel
theorem dX6_fails_2 : decode cX6_fails 2 = .ok (.putfield 81, 3) := by decide +kernel
theorem dX6_fails_5 : decode cX6_fails 5 = .ok (.iconst 0, 1) := by decide +kernel
theorem dX6_fails_6 : decode cX6_fails 6 = .ok (.ireturn, 1) := by decide +kernel
theorem dX6_digit_0 : decode cX6_digit 0 = .ok (.aload_n 0, 1) := by decide +kernel
theorem dX6_digit_1 : decode cX6_digit 1 = .ok (.invokevirtual 84, 3) := by decide +kernel
theorem dX6_digit_4 : decode cX6_digit 4 = .ok (.bipush 48, 2) := by decide +kernel
theorem dX6_digit_6 : decode cX6_digit 6 = .ok (.isub, 1) := by decide +kernel
theorem dX6_digit_7 : decode cX6_digit 7 = .ok (.istore_n 3, 1) := by decide +kernel
theorem dX6_digit_8 : decode cX6_digit 8 = .ok (.iload_n 3, 1) := by decide +kernel
theorem dX6_digit_9 : decode cX6_digit 9 = .ok (.i2l, 1) := by decide +kernel
theorem dX6_digit_10 : decode cX6_digit 10 = .ok (.iload_n 1, 1) := by decide +kernel
theorem dX6_digit_11 : decode cX6_digit 11 = .ok (.i2l, 1) := by decide +kernel
theorem dX6_digit_12 : decode cX6_digit 12 = .ok (.iload_n 2, 1) := by decide +kernel
theorem dX6_digit_13 : decode cX6_digit 13 = .ok (.i2l, 1) := by decide +kernel
theorem dX6_digit_14 : decode cX6_digit 14 = .ok (.invokestatic 38, 3) := by decide +kernel
theorem dX6_digit_17 : decode cX6_digit 17 = .ok (.ifCond .ne 14, 3) := by decide +kernel
theorem dX6_digit_20 : decode cX6_digit 20 = .ok (.aload_n 0, 1) := by decide +kernel
theorem dX6_digit_21 : decode cX6_digit 21 = .ok (.aload_n 0, 1) := by decide +kernel
theorem dX6_digit_22 : decode cX6_digit 22 = .ok (.getfield 74, 3) := by decide +kernel
theorem dX6_digit_25 : decode cX6_digit 25 = .ok (.invokevirtual 88, 3) := by decide +kernel
theorem dX6_digit_28 : decode cX6_digit 28 = .ok (.pop, 1) := by decide +kernel
theorem dX6_digit_29 : decode cX6_digit 29 = .ok (.iconst (-1), 1) := by decide +kernel
theorem dX6_digit_30 : decode cX6_digit 30 = .ok (.ireturn, 1) := by decide +kernel
theorem dX6_digit_31 : decode cX6_digit 31 = .ok (.aload_n 0, 1) := by decide +kernel
theorem dX6_digit_32 : decode cX6_digit 32 = .ok (.dup, 1) := by decide +kernel
theorem dX6_digit_33 : decode cX6_digit 33 = .ok (.getfield 74, 3) := by decide +kernel
theorem dX6_digit_36 : decode cX6_digit 36 = .ok (.iconst 1, 1) := by decide +kernel
theorem dX6_digit_37 : decode cX6_digit 37 = .ok (.iadd, 1) := by decide +kernel
theorem dX6_digit_38 : decode cX6_digit 38 = .ok (.putfield 74, 3) := by decide +kernel
theorem dX6_digit_41 : decode cX6_digit 41 = .ok (.iload_n 3, 1) := by decide +kernel
theorem dX6_digit_42 : decode cX6_digit 42 = .ok (.ireturn, 1) := by decide +kernel
theorem dX6_number_0 : decode cX6_number 0 = .ok (.aload_n 0, 1) := by decide +kernel
theorem dX6_number_1 : decode cX6_number 1 = .ok (.invokevirtual 84, 3) := by decide +kernel
theorem dX6_number_4 : decode cX6_number 4 = .ok (.pop, 1) := by decide +kernel
theorem dX6_number_5 : decode cX6_number 5 = .ok (.aload_n 0, 1) := by decide +kernel
theorem dX6_number_6 : decode cX6_number 6 = .ok (.getfield 74, 3) := by decide +kernel
theorem dX6_number_9 : decode cX6_number 9 = .ok (.istore_n 2, 1) := by decide +kernel
theorem dX6_number_10 : decode cX6_number 10 = .ok (.iconst 0, 1) := by decide +kernel
theorem dX6_number_11 : decode cX6_number 11 = .ok (.istore_n 3, 1) := by decide +kernel
theorem dX6_number_12 : decode cX6_number 12 = .ok (.aload_n 0, 1) := by decide +kernel
theorem dX6_number_13 : decode cX6_number 13 = .ok (.getfield 74, 3) := by decide +kernel
theorem dX6_number_16 : decode cX6_number 16 = .ok (.iload_n 2, 1) := by decide +kernel
theorem dX6_number_17 : decode cX6_number 17 = .ok (.isub, 1) := by decide +kernel
theorem dX6_number_18 : decode cX6_number 18 = .ok (.iconst 3, 1) := by decide +kernel
theorem dX6_number_19 : decode cX6_number 19 = .ok (.if_icmp .ge 54, 3) := by decide +kernel
theorem dX6_number_22 : decode cX6_number 22 = .ok (.aload_n 0, 1) := by decide +kernel
theorem dX6_number_23 : decode cX6_number 23 = .ok (.aload_n 0, 1) := by decide +kernel
theorem dX6_number_24 : decode cX6_number 24 = .ok (.getfield 74, 3) := by decide +kernel
theorem dX6_number_27 : decode cX6_number 27 = .ok (.invokevirtual 77, 3) := by decide +kernel
theorem dX6_number_30 : decode cX6_number 30 = .ok (.i2l, 1) := by decide +kernel
theorem dX6_number_31 : decode cX6_number 31 = .ok (.ldc2_w 91, 3) := by decide +kernel
theorem dX6_number_34 : decode cX6_number 34 = .ok (.ldc2_w 93, 3) := by decide +kernel
theorem dX6_number_37 : decode cX6_number 37 = .ok (.invokestatic 38, 3) := by decide +kernel
theorem dX6_number_40 : decode cX6_number 40 = .ok (.ifCond .eq 33, 3) := by decide +kernel
theorem dX6_number_43 : decode cX6_number 43 = .ok (.bipush 10, 2) := by decide +kernel
theorem dX6_number_45 : decode cX6_number 45 = .ok (.iload_n 3, 1) := by decide +kernel
theorem dX6_number_46 : decode cX6_number 46 = .ok (.imul, 1) := by decide +kernel
theorem dX6_number_47 : decode cX6_number 47 = .ok (.aload_n 0, 1) := by decide +kernel
theorem dX6_number_48 : decode cX6_number 48 = .ok (.aload_n 0, 1) := by decide +kernel
theorem dX6_number_49 : decode cX6_number 49 = .ok (.getfield 74, 3) := by decide +kernel
theorem dX6_number_52 : decode cX6_number 52 = .ok (.invokevirtual 77, 3) := by decide +kernel
theorem dX6_number_55 : decode cX6_number 55 = .ok (.iadd, 1) := by decide +kernel
theorem dX6_number_56 : decode cX6_number 56 = .ok (.bipush 48, 2) := by decide +kernel
theorem dX6_number_58 : decode cX6_number 58 = .ok (.isub, 1) := by decide +kernel
theorem dX6_number_59 : decode cX6_number 59 = .ok (.istore_n 3, 1) := by decide +kernel
theorem dX6_number_60 : decode cX6_number 60 = .ok (.aload_n 0, 1) := by decide +kernel
theorem dX6_number_61 : decode cX6_number 61 = .ok (.dup, 1) := by decide +kernel
theorem dX6_number_62 : decode cX6_number 62 = .ok (.getfield 74, 3) := by decide +kernel
theorem dX6_number_65 : decode cX6_number 65 = .ok (.iconst 1, 1) := by decide +kernel
theorem dX6_number_66 : decode cX6_number 66 = .ok (.iadd, 1) := by decide +kernel
theorem dX6_number_67 : decode cX6_number 67 = .ok (.putfield 74, 3) := by decide +kernel
theorem dX6_number_70 : decode cX6_number 70 = .ok (.goto (-58), 3) := by decide +kernel
theorem dX6_number_73 : decode cX6_number 73 = .ok (.aload_n 0, 1) := by decide +kernel
theorem dX6_number_74 : decode cX6_number 74 = .ok (.getfield 74, 3) := by decide +kernel
theorem dX6_number_77 : decode cX6_number 77 = .ok (.iload_n 2, 1) := by decide +kernel
theorem dX6_number_78 : decode cX6_number 78 = .ok (.if_icmp .eq 8, 3) := by decide +kernel
theorem dX6_number_81 : decode cX6_number 81 = .ok (.iload_n 3, 1) := by decide +kernel
theorem dX6_number_82 : decode cX6_number 82 = .ok (.iload_n 1, 1) := by decide +kernel
theorem dX6_number_83 : decode cX6_number 83 = .ok (.if_icmp .le 11, 3) := by decide +kernel
theorem dX6_number_86 : decode cX6_number 86 = .ok (.aload_n 0, 1) := by decide +kernel
theorem dX6_number_87 : decode cX6_number 87 = .ok (.iload_n 2, 1) := by decide +kernel
theorem dX6_number_88 : decode cX6_number 88 = .ok (.invokevirtual 88, 3) := by decide +kernel
theorem dX6_number_91 : decode cX6_number 91 = .ok (.pop, 1) := by decide +kernel
theorem dX6_number_92 : decode cX6_number 92 = .ok (.iconst (-1), 1) := by decide +kernel
theorem dX6_number_93 : decode cX6_number 93 = .ok (.ireturn, 1) := by decide +kernel
theorem dX6_number_94 : decode cX6_number 94 = .ok (.iload_n 3, 1) := by decide +kernel
theorem dX6_number_95 : decode cX6_number 95 = .ok (.ireturn, 1) := by decide +kernel
theorem dX6_takesStage_0 : decode cX6_takesStage 0 = .ok (.aload_n 0, 1) := by decide +kernel
theorem dX6_takesStage_1 : decode cX6_takesStage 1 = .ok (.getfield 7, 3) := by decide +kernel
theorem dX6_takesStage_4 : decode cX6_takesStage 4 = .ok (.sipush 455, 3) := by decide +kernel
theorem dX6_takesStage_7 : decode cX6_takesStage 7 = .ok (.iaload, 1) := by decide +kernel
theorem dX6_takesStage_8 : decode cX6_takesStage 8 = .ok (.istore_n 1, 1) := by decide +kernel
theorem dX6_takesStage_9 : decode cX6_takesStage 9 = .ok (.aload_n 0, 1) := by decide +kernel
theorem dX6_takesStage_10 : decode cX6_takesStage 10 = .ok (.iconst 1, 1) := by decide +kernel
theorem dX6_takesStage_11 : decode cX6_takesStage 11 = .ok (.bipush 9, 2) := by decide +kernel
theorem dX6_takesStage_13 : decode cX6_takesStage 13 = .ok (.invokevirtual 95, 3) := by decide +kernel
theorem dX6_takesStage_16 : decode cX6_takesStage 16 = .ok (.istore_n 2, 1) := by decide +kernel
theorem dX6_takesStage_17 : decode cX6_takesStage 17 = .ok (.iload_n 2, 1) := by decide +kernel
theorem dX6_takesStage_18 : decode cX6_takesStage 18 = .ok (.ifCond .ge 7, 3) := by decide +kernel
theorem dX6_takesStage_21 : decode cX6_takesStage 21 = .ok (.iconst (-1), 1) := by decide +kernel
theorem dX6_takesStage_22 : decode cX6_takesStage 22 = .ok (.goto 10, 3) := by decide +kernel
theorem dX6_takesStage_25 : decode cX6_takesStage 25 = .ok (.aload_n 0, 1) := by decide +kernel
theorem dX6_takesStage_26 : decode cX6_takesStage 26 = .ok (.iconst 0, 1) := by decide +kernel
theorem dX6_takesStage_27 : decode cX6_takesStage 27 = .ok (.bipush 9, 2) := by decide +kernel
theorem dX6_takesStage_29 : decode cX6_takesStage 29 = .ok (.invokevirtual 95, 3) := by decide +kernel
theorem dX6_takesStage_32 : decode cX6_takesStage 32 = .ok (.istore_n 3, 1) := by decide +kernel
theorem dX6_takesStage_33 : decode cX6_takesStage 33 = .ok (.iload_n 3, 1) := by decide +kernel
theorem dX6_takesStage_34 : decode cX6_takesStage 34 = .ok (.ifCond .ge 7, 3) := by decide +kernel
theorem dX6_takesStage_37 : decode cX6_takesStage 37 = .ok (.iconst (-1), 1) := by decide +kernel
theorem dX6_takesStage_38 : decode cX6_takesStage 38 = .ok (.goto 9, 3) := by decide +kernel
theorem dX6_takesStage_41 : decode cX6_takesStage 41 = .ok (.aload_n 0, 1) := by decide +kernel
theorem dX6_takesStage_42 : decode cX6_takesStage 42 = .ok (.iconst 0, 1) := by decide +kernel
theorem dX6_takesStage_43 : decode cX6_takesStage 43 = .ok (.iconst 4, 1) := by decide +kernel
theorem dX6_takesStage_44 : decode cX6_takesStage 44 = .ok (.invokevirtual 95, 3) := by decide +kernel
theorem dX6_takesStage_47 : decode cX6_takesStage 47 = .ok (.istore 4, 2) := by decide +kernel
theorem dX6_takesStage_49 : decode cX6_takesStage 49 = .ok (.iload 4, 2) := by decide +kernel
theorem dX6_takesStage_51 : decode cX6_takesStage 51 = .ok (.ifCond .ge 5, 3) := by decide +kernel
theorem dX6_takesStage_54 : decode cX6_takesStage 54 = .ok (.iconst 0, 1) := by decide +kernel
theorem dX6_takesStage_55 : decode cX6_takesStage 55 = .ok (.ireturn, 1) := by decide +kernel
theorem dX6_takesStage_56 : decode cX6_takesStage 56 = .ok (.aload_n 0, 1) := by decide +kernel
theorem dX6_takesStage_57 : decode cX6_takesStage 57 = .ok (.getfield 7, 3) := by decide +kernel
theorem dX6_takesStage_60 : decode cX6_takesStage 60 = .ok (.sipush 458, 3) := by decide +kernel
theorem dX6_takesStage_63 : decode cX6_takesStage 63 = .ok (.iload_n 1, 1) := by decide +kernel
theorem dX6_takesStage_64 : decode cX6_takesStage 64 = .ok (.iadd, 1) := by decide +kernel
theorem dX6_takesStage_65 : decode cX6_takesStage 65 = .ok (.iload_n 2, 1) := by decide +kernel
theorem dX6_takesStage_66 : decode cX6_takesStage 66 = .ok (.iastore, 1) := by decide +kernel
theorem dX6_takesStage_67 : decode cX6_takesStage 67 = .ok (.aload_n 0, 1) := by decide +kernel
theorem dX6_takesStage_68 : decode cX6_takesStage 68 = .ok (.getfield 7, 3) := by decide +kernel
theorem dX6_takesStage_71 : decode cX6_takesStage 71 = .ok (.sipush 466, 3) := by decide +kernel
theorem dX6_takesStage_74 : decode cX6_takesStage 74 = .ok (.iload_n 1, 1) := by decide +kernel
theorem dX6_takesStage_75 : decode cX6_takesStage 75 = .ok (.iadd, 1) := by decide +kernel
theorem dX6_takesStage_76 : decode cX6_takesStage 76 = .ok (.iload_n 3, 1) := by decide +kernel
theorem dX6_takesStage_77 : decode cX6_takesStage 77 = .ok (.iastore, 1) := by decide +kernel
theorem dX6_takesStage_78 : decode cX6_takesStage 78 = .ok (.aload_n 0, 1) := by decide +kernel
theorem dX6_takesStage_79 : decode cX6_takesStage 79 = .ok (.getfield 7, 3) := by decide +kernel
theorem dX6_takesStage_82 : decode cX6_takesStage 82 = .ok (.sipush 434, 3) := by decide +kernel
theorem dX6_takesStage_85 : decode cX6_takesStage 85 = .ok (.iload_n 1, 1) := by decide +kernel
theorem dX6_takesStage_86 : decode cX6_takesStage 86 = .ok (.iadd, 1) := by decide +kernel
theorem dX6_takesStage_87 : decode cX6_takesStage 87 = .ok (.iload 4, 2) := by decide +kernel
theorem dX6_takesStage_89 : decode cX6_takesStage 89 = .ok (.iastore, 1) := by decide +kernel
theorem dX6_takesStage_90 : decode cX6_takesStage 90 = .ok (.aload_n 0, 1) := by decide +kernel
theorem dX6_takesStage_91 : decode cX6_takesStage 91 = .ok (.getfield 7, 3) := by decide +kernel
theorem dX6_takesStage_94 : decode cX6_takesStage 94 = .ok (.sipush 455, 3) := by decide +kernel
theorem dX6_takesStage_97 : decode cX6_takesStage 97 = .ok (.dup2, 1) := by decide +kernel
theorem dX6_takesStage_98 : decode cX6_takesStage 98 = .ok (.iaload, 1) := by decide +kernel
theorem dX6_takesStage_99 : decode cX6_takesStage 99 = .ok (.iconst 1, 1) := by decide +kernel
theorem dX6_takesStage_100 : decode cX6_takesStage 100 = .ok (.iadd, 1) := by decide +kernel
theorem dX6_takesStage_101 : decode cX6_takesStage 101 = .ok (.iastore, 1) := by decide +kernel
theorem dX6_takesStage_102 : decode cX6_takesStage 102 = .ok (.iconst 1, 1) := by decide +kernel
theorem dX6_takesStage_103 : decode cX6_takesStage 103 = .ok (.ireturn, 1) := by decide +kernel
theorem dX6_kindBy_0 : decode cX6_kindBy 0 = .ok (.iload_n 0, 1) := by decide +kernel
theorem dX6_kindBy_1 : decode cX6_kindBy 1 = .ok (.bipush 112, 2) := by decide +kernel
theorem dX6_kindBy_3 : decode cX6_kindBy 3 = .ok (.if_icmp .ne 7, 3) := by decide +kernel
theorem dX6_kindBy_6 : decode cX6_kindBy 6 = .ok (.iconst 0, 1) := by decide +kernel
theorem dX6_kindBy_7 : decode cX6_kindBy 7 = .ok (.goto 44, 3) := by decide +kernel
theorem dX6_kindBy_10 : decode cX6_kindBy 10 = .ok (.iload_n 0, 1) := by decide +kernel
theorem dX6_kindBy_11 : decode cX6_kindBy 11 = .ok (.bipush 115, 2) := by decide +kernel
theorem dX6_kindBy_13 : decode cX6_kindBy 13 = .ok (.if_icmp .ne 7, 3) := by decide +kernel
theorem dX6_kindBy_16 : decode cX6_kindBy 16 = .ok (.iconst 1, 1) := by decide +kernel
theorem dX6_kindBy_17 : decode cX6_kindBy 17 = .ok (.goto 34, 3) := by decide +kernel
theorem dX6_kindBy_20 : decode cX6_kindBy 20 = .ok (.iload_n 0, 1) := by decide +kernel
theorem dX6_kindBy_21 : decode cX6_kindBy 21 = .ok (.bipush 111, 2) := by decide +kernel
theorem dX6_kindBy_23 : decode cX6_kindBy 23 = .ok (.if_icmp .ne 7, 3) := by decide +kernel
theorem dX6_kindBy_26 : decode cX6_kindBy 26 = .ok (.iconst 2, 1) := by decide +kernel
theorem dX6_kindBy_27 : decode cX6_kindBy 27 = .ok (.goto 24, 3) := by decide +kernel
theorem dX6_kindBy_30 : decode cX6_kindBy 30 = .ok (.iload_n 0, 1) := by decide +kernel
theorem dX6_kindBy_31 : decode cX6_kindBy 31 = .ok (.bipush 98, 2) := by decide +kernel
theorem dX6_kindBy_33 : decode cX6_kindBy 33 = .ok (.if_icmp .ne 7, 3) := by decide +kernel
theorem dX6_kindBy_36 : decode cX6_kindBy 36 = .ok (.iconst 3, 1) := by decide +kernel
theorem dX6_kindBy_37 : decode cX6_kindBy 37 = .ok (.goto 14, 3) := by decide +kernel
theorem dX6_kindBy_40 : decode cX6_kindBy 40 = .ok (.iload_n 0, 1) := by decide +kernel
theorem dX6_kindBy_41 : decode cX6_kindBy 41 = .ok (.bipush 114, 2) := by decide +kernel
theorem dX6_kindBy_43 : decode cX6_kindBy 43 = .ok (.if_icmp .ne 7, 3) := by decide +kernel
theorem dX6_kindBy_46 : decode cX6_kindBy 46 = .ok (.iconst 4, 1) := by decide +kernel
theorem dX6_kindBy_47 : decode cX6_kindBy 47 = .ok (.goto 4, 3) := by decide +kernel
theorem dX6_kindBy_50 : decode cX6_kindBy 50 = .ok (.iconst (-1), 1) := by decide +kernel
theorem dX6_kindBy_51 : decode cX6_kindBy 51 = .ok (.ireturn, 1) := by decide +kernel
theorem dX6_takesBuys_0 : decode cX6_takesBuys 0 = .ok (.aload_n 0, 1) := by decide +kernel
theorem dX6_takesBuys_1 : decode cX6_takesBuys 1 = .ok (.dup, 1) := by decide +kernel
theorem dX6_takesBuys_2 : decode cX6_takesBuys 2 = .ok (.getfield 74, 3) := by decide +kernel
theorem dX6_takesBuys_5 : decode cX6_takesBuys 5 = .ok (.iconst 1, 1) := by decide +kernel
theorem dX6_takesBuys_6 : decode cX6_takesBuys 6 = .ok (.iadd, 1) := by decide +kernel
theorem dX6_takesBuys_7 : decode cX6_takesBuys 7 = .ok (.putfield 74, 3) := by decide +kernel
theorem dX6_takesBuys_10 : decode cX6_takesBuys 10 = .ok (.iconst 0, 1) := by decide +kernel
theorem dX6_takesBuys_11 : decode cX6_takesBuys 11 = .ok (.istore_n 2, 1) := by decide +kernel
theorem dX6_takesBuys_12 : decode cX6_takesBuys 12 = .ok (.iload_n 2, 1) := by decide +kernel
theorem dX6_takesBuys_13 : decode cX6_takesBuys 13 = .ok (.ifCond .eq 20, 3) := by decide +kernel
theorem dX6_takesBuys_16 : decode cX6_takesBuys 16 = .ok (.aload_n 0, 1) := by decide +kernel
theorem dX6_takesBuys_17 : decode cX6_takesBuys 17 = .ok (.invokevirtual 84, 3) := by decide +kernel
theorem dX6_takesBuys_20 : decode cX6_takesBuys 20 = .ok (.i2l, 1) := by decide +kernel
theorem dX6_takesBuys_21 : decode cX6_takesBuys 21 = .ok (.ldc2_w 91, 3) := by decide +kernel
theorem dX6_takesBuys_24 : decode cX6_takesBuys 24 = .ok (.ldc2_w 93, 3) := by decide +kernel
theorem dX6_takesBuys_27 : decode cX6_takesBuys 27 = .ok (.invokestatic 38, 3) := by decide +kernel
theorem dX6_takesBuys_30 : decode cX6_takesBuys 30 = .ok (.ifCond .eq 48, 3) := by decide +kernel
theorem dX6_takesBuys_33 : decode cX6_takesBuys 33 = .ok (.aload_n 0, 1) := by decide +kernel
theorem dX6_takesBuys_34 : decode cX6_takesBuys 34 = .ok (.iload_n 2, 1) := by decide +kernel
theorem dX6_takesBuys_35 : decode cX6_takesBuys 35 = .ok (.aload_n 0, 1) := by decide +kernel
theorem dX6_takesBuys_36 : decode cX6_takesBuys 36 = .ok (.getfield 7, 3) := by decide +kernel
theorem dX6_takesBuys_39 : decode cX6_takesBuys 39 = .ok (.sipush 455, 3) := by decide +kernel
theorem dX6_takesBuys_42 : decode cX6_takesBuys 42 = .ok (.iaload, 1) := by decide +kernel
theorem dX6_takesBuys_43 : decode cX6_takesBuys 43 = .ok (.iconst 1, 1) := by decide +kernel
theorem dX6_takesBuys_44 : decode cX6_takesBuys 44 = .ok (.isub, 1) := by decide +kernel
theorem dX6_takesBuys_45 : decode cX6_takesBuys 45 = .ok (.invokevirtual 95, 3) := by decide +kernel
theorem dX6_takesBuys_48 : decode cX6_takesBuys 48 = .ok (.istore_n 3, 1) := by decide +kernel
theorem dX6_takesBuys_49 : decode cX6_takesBuys 49 = .ok (.iload_n 3, 1) := by decide +kernel
theorem dX6_takesBuys_50 : decode cX6_takesBuys 50 = .ok (.ifCond .ge 5, 3) := by decide +kernel
theorem dX6_takesBuys_53 : decode cX6_takesBuys 53 = .ok (.iconst 0, 1) := by decide +kernel
theorem dX6_takesBuys_54 : decode cX6_takesBuys 54 = .ok (.ireturn, 1) := by decide +kernel
theorem dX6_takesBuys_55 : decode cX6_takesBuys 55 = .ok (.aload_n 0, 1) := by decide +kernel
theorem dX6_takesBuys_56 : decode cX6_takesBuys 56 = .ok (.getfield 7, 3) := by decide +kernel
theorem dX6_takesBuys_59 : decode cX6_takesBuys 59 = .ok (.sipush 478, 3) := by decide +kernel
theorem dX6_takesBuys_62 : decode cX6_takesBuys 62 = .ok (.iload_n 1, 1) := by decide +kernel
theorem dX6_takesBuys_63 : decode cX6_takesBuys 63 = .ok (.iadd, 1) := by decide +kernel
theorem dX6_takesBuys_64 : decode cX6_takesBuys 64 = .ok (.dup2, 1) := by decide +kernel
theorem dX6_takesBuys_65 : decode cX6_takesBuys 65 = .ok (.iaload, 1) := by decide +kernel
theorem dX6_takesBuys_66 : decode cX6_takesBuys 66 = .ok (.iconst 1, 1) := by decide +kernel
theorem dX6_takesBuys_67 : decode cX6_takesBuys 67 = .ok (.iload_n 3, 1) := by decide +kernel
theorem dX6_takesBuys_68 : decode cX6_takesBuys 68 = .ok (.ishl, 1) := by decide +kernel
theorem dX6_takesBuys_69 : decode cX6_takesBuys 69 = .ok (.ior, 1) := by decide +kernel
theorem dX6_takesBuys_70 : decode cX6_takesBuys 70 = .ok (.iastore, 1) := by decide +kernel
theorem dX6_takesBuys_71 : decode cX6_takesBuys 71 = .ok (.iload_n 3, 1) := by decide +kernel
theorem dX6_takesBuys_72 : decode cX6_takesBuys 72 = .ok (.iconst 1, 1) := by decide +kernel
theorem dX6_takesBuys_73 : decode cX6_takesBuys 73 = .ok (.iadd, 1) := by decide +kernel
theorem dX6_takesBuys_74 : decode cX6_takesBuys 74 = .ok (.istore_n 2, 1) := by decide +kernel
theorem dX6_takesBuys_75 : decode cX6_takesBuys 75 = .ok (.goto (-63), 3) := by decide +kernel
theorem dX6_takesBuys_78 : decode cX6_takesBuys 78 = .ok (.iconst 1, 1) := by decide +kernel
theorem dX6_takesBuys_79 : decode cX6_takesBuys 79 = .ok (.ireturn, 1) := by decide +kernel
theorem dX6_takesRider_0 : decode cX6_takesRider 0 = .ok (.aload_n 0, 1) := by decide +kernel
theorem dX6_takesRider_1 : decode cX6_takesRider 1 = .ok (.getfield 7, 3) := by decide +kernel
theorem dX6_takesRider_4 : decode cX6_takesRider 4 = .ok (.sipush 456, 3) := by decide +kernel
theorem dX6_takesRider_7 : decode cX6_takesRider 7 = .ok (.iaload, 1) := by decide +kernel
theorem dX6_takesRider_8 : decode cX6_takesRider 8 = .ok (.istore_n 1, 1) := by decide +kernel
theorem dX6_takesRider_9 : decode cX6_takesRider 9 = .ok (.aload_n 0, 1) := by decide +kernel
theorem dX6_takesRider_10 : decode cX6_takesRider 10 = .ok (.invokevirtual 84, 3) := by decide +kernel
theorem dX6_takesRider_13 : decode cX6_takesRider 13 = .ok (.invokestatic 99, 3) := by decide +kernel
theorem dX6_takesRider_16 : decode cX6_takesRider 16 = .ok (.istore_n 2, 1) := by decide +kernel
theorem dX6_takesRider_17 : decode cX6_takesRider 17 = .ok (.iload_n 2, 1) := by decide +kernel
theorem dX6_takesRider_18 : decode cX6_takesRider 18 = .ok (.ifCond .ge 12, 3) := by decide +kernel
theorem dX6_takesRider_21 : decode cX6_takesRider 21 = .ok (.aload_n 0, 1) := by decide +kernel
theorem dX6_takesRider_22 : decode cX6_takesRider 22 = .ok (.aload_n 0, 1) := by decide +kernel
theorem dX6_takesRider_23 : decode cX6_takesRider 23 = .ok (.getfield 74, 3) := by decide +kernel
theorem dX6_takesRider_26 : decode cX6_takesRider 26 = .ok (.invokevirtual 88, 3) := by decide +kernel
theorem dX6_takesRider_29 : decode cX6_takesRider 29 = .ok (.ireturn, 1) := by decide +kernel
theorem dX6_takesRider_30 : decode cX6_takesRider 30 = .ok (.aload_n 0, 1) := by decide +kernel
theorem dX6_takesRider_31 : decode cX6_takesRider 31 = .ok (.dup, 1) := by decide +kernel
theorem dX6_takesRider_32 : decode cX6_takesRider 32 = .ok (.getfield 74, 3) := by decide +kernel
theorem dX6_takesRider_35 : decode cX6_takesRider 35 = .ok (.iconst 1, 1) := by decide +kernel
theorem dX6_takesRider_36 : decode cX6_takesRider 36 = .ok (.iadd, 1) := by decide +kernel
theorem dX6_takesRider_37 : decode cX6_takesRider 37 = .ok (.putfield 74, 3) := by decide +kernel
theorem dX6_takesRider_40 : decode cX6_takesRider 40 = .ok (.aload_n 0, 1) := by decide +kernel
theorem dX6_takesRider_41 : decode cX6_takesRider 41 = .ok (.sipush 999, 3) := by decide +kernel
theorem dX6_takesRider_44 : decode cX6_takesRider 44 = .ok (.invokevirtual 102, 3) := by decide +kernel
theorem dX6_takesRider_47 : decode cX6_takesRider 47 = .ok (.istore_n 3, 1) := by decide +kernel
theorem dX6_takesRider_48 : decode cX6_takesRider 48 = .ok (.iload_n 3, 1) := by decide +kernel
theorem dX6_takesRider_49 : decode cX6_takesRider 49 = .ok (.ifCond .ge 5, 3) := by decide +kernel
theorem dX6_takesRider_52 : decode cX6_takesRider 52 = .ok (.iconst 0, 1) := by decide +kernel
theorem dX6_takesRider_53 : decode cX6_takesRider 53 = .ok (.ireturn, 1) := by decide +kernel
theorem dX6_takesRider_54 : decode cX6_takesRider 54 = .ok (.aload_n 0, 1) := by decide +kernel
theorem dX6_takesRider_55 : decode cX6_takesRider 55 = .ok (.invokevirtual 84, 3) := by decide +kernel
theorem dX6_takesRider_58 : decode cX6_takesRider 58 = .ok (.bipush 47, 2) := by decide +kernel
theorem dX6_takesRider_60 : decode cX6_takesRider 60 = .ok (.if_icmp .eq 12, 3) := by decide +kernel
theorem dX6_takesRider_63 : decode cX6_takesRider 63 = .ok (.aload_n 0, 1) := by decide +kernel
theorem dX6_takesRider_64 : decode cX6_takesRider 64 = .ok (.aload_n 0, 1) := by decide +kernel
theorem dX6_takesRider_65 : decode cX6_takesRider 65 = .ok (.getfield 74, 3) := by decide +kernel
theorem dX6_takesRider_68 : decode cX6_takesRider 68 = .ok (.invokevirtual 88, 3) := by decide +kernel
theorem dX6_takesRider_71 : decode cX6_takesRider 71 = .ok (.ireturn, 1) := by decide +kernel
theorem dX6_takesRider_72 : decode cX6_takesRider 72 = .ok (.aload_n 0, 1) := by decide +kernel
theorem dX6_takesRider_73 : decode cX6_takesRider 73 = .ok (.dup, 1) := by decide +kernel
theorem dX6_takesRider_74 : decode cX6_takesRider 74 = .ok (.getfield 74, 3) := by decide +kernel
theorem dX6_takesRider_77 : decode cX6_takesRider 77 = .ok (.iconst 1, 1) := by decide +kernel
theorem dX6_takesRider_78 : decode cX6_takesRider 78 = .ok (.iadd, 1) := by decide +kernel
theorem dX6_takesRider_79 : decode cX6_takesRider 79 = .ok (.putfield 74, 3) := by decide +kernel
theorem dX6_takesRider_82 : decode cX6_takesRider 82 = .ok (.aload_n 0, 1) := by decide +kernel
theorem dX6_takesRider_83 : decode cX6_takesRider 83 = .ok (.bipush 99, 2) := by decide +kernel
theorem dX6_takesRider_85 : decode cX6_takesRider 85 = .ok (.invokevirtual 102, 3) := by decide +kernel
theorem dX6_takesRider_88 : decode cX6_takesRider 88 = .ok (.istore 4, 2) := by decide +kernel
theorem dX6_takesRider_90 : decode cX6_takesRider 90 = .ok (.iload 4, 2) := by decide +kernel
theorem dX6_takesRider_92 : decode cX6_takesRider 92 = .ok (.ifCond .ge 5, 3) := by decide +kernel
theorem dX6_takesRider_95 : decode cX6_takesRider 95 = .ok (.iconst 0, 1) := by decide +kernel
theorem dX6_takesRider_96 : decode cX6_takesRider 96 = .ok (.ireturn, 1) := by decide +kernel
theorem dX6_takesRider_97 : decode cX6_takesRider 97 = .ok (.aload_n 0, 1) := by decide +kernel
theorem dX6_takesRider_98 : decode cX6_takesRider 98 = .ok (.getfield 7, 3) := by decide +kernel
theorem dX6_takesRider_101 : decode cX6_takesRider 101 = .ok (.sipush 474, 3) := by decide +kernel
theorem dX6_takesRider_104 : decode cX6_takesRider 104 = .ok (.iload_n 1, 1) := by decide +kernel
theorem dX6_takesRider_105 : decode cX6_takesRider 105 = .ok (.iadd, 1) := by decide +kernel
theorem dX6_takesRider_106 : decode cX6_takesRider 106 = .ok (.iload_n 2, 1) := by decide +kernel
theorem dX6_takesRider_107 : decode cX6_takesRider 107 = .ok (.iastore, 1) := by decide +kernel
theorem dX6_takesRider_108 : decode cX6_takesRider 108 = .ok (.aload_n 0, 1) := by decide +kernel
theorem dX6_takesRider_109 : decode cX6_takesRider 109 = .ok (.getfield 7, 3) := by decide +kernel
theorem dX6_takesRider_112 : decode cX6_takesRider 112 = .ok (.sipush 446, 3) := by decide +kernel
theorem dX6_takesRider_115 : decode cX6_takesRider 115 = .ok (.iload_n 1, 1) := by decide +kernel
theorem dX6_takesRider_116 : decode cX6_takesRider 116 = .ok (.iadd, 1) := by decide +kernel
theorem dX6_takesRider_117 : decode cX6_takesRider 117 = .ok (.iload_n 3, 1) := by decide +kernel
theorem dX6_takesRider_118 : decode cX6_takesRider 118 = .ok (.iastore, 1) := by decide +kernel
theorem dX6_takesRider_119 : decode cX6_takesRider 119 = .ok (.aload_n 0, 1) := by decide +kernel
theorem dX6_takesRider_120 : decode cX6_takesRider 120 = .ok (.getfield 7, 3) := by decide +kernel
theorem dX6_takesRider_123 : decode cX6_takesRider 123 = .ok (.sipush 450, 3) := by decide +kernel
theorem dX6_takesRider_126 : decode cX6_takesRider 126 = .ok (.iload_n 1, 1) := by decide +kernel
theorem dX6_takesRider_127 : decode cX6_takesRider 127 = .ok (.iadd, 1) := by decide +kernel
theorem dX6_takesRider_128 : decode cX6_takesRider 128 = .ok (.iload 4, 2) := by decide +kernel
theorem dX6_takesRider_130 : decode cX6_takesRider 130 = .ok (.iastore, 1) := by decide +kernel
theorem dX6_takesRider_131 : decode cX6_takesRider 131 = .ok (.aload_n 0, 1) := by decide +kernel
theorem dX6_takesRider_132 : decode cX6_takesRider 132 = .ok (.getfield 7, 3) := by decide +kernel
theorem dX6_takesRider_135 : decode cX6_takesRider 135 = .ok (.sipush 456, 3) := by decide +kernel
theorem dX6_takesRider_138 : decode cX6_takesRider 138 = .ok (.dup2, 1) := by decide +kernel
theorem dX6_takesRider_139 : decode cX6_takesRider 139 = .ok (.iaload, 1) := by decide +kernel
theorem dX6_takesRider_140 : decode cX6_takesRider 140 = .ok (.iconst 1, 1) := by decide +kernel
theorem dX6_takesRider_141 : decode cX6_takesRider 141 = .ok (.iadd, 1) := by decide +kernel
theorem dX6_takesRider_142 : decode cX6_takesRider 142 = .ok (.iastore, 1) := by decide +kernel
theorem dX6_takesRider_143 : decode cX6_takesRider 143 = .ok (.aload_n 0, 1) := by decide +kernel
theorem dX6_takesRider_144 : decode cX6_takesRider 144 = .ok (.invokevirtual 84, 3) := by decide +kernel
theorem dX6_takesRider_147 : decode cX6_takesRider 147 = .ok (.bipush 58, 2) := by decide +kernel
theorem dX6_takesRider_149 : decode cX6_takesRider 149 = .ok (.if_icmp .ne 11, 3) := by decide +kernel
theorem dX6_takesRider_152 : decode cX6_takesRider 152 = .ok (.aload_n 0, 1) := by decide +kernel
theorem dX6_takesRider_153 : decode cX6_takesRider 153 = .ok (.iload_n 1, 1) := by decide +kernel
theorem dX6_takesRider_154 : decode cX6_takesRider 154 = .ok (.invokevirtual 105, 3) := by decide +kernel
theorem dX6_takesRider_157 : decode cX6_takesRider 157 = .ok (.ifCond .eq 7, 3) := by decide +kernel
theorem dX6_takesRider_160 : decode cX6_takesRider 160 = .ok (.iconst 1, 1) := by decide +kernel
theorem dX6_takesRider_161 : decode cX6_takesRider 161 = .ok (.goto 4, 3) := by decide +kernel
theorem dX6_takesRider_164 : decode cX6_takesRider 164 = .ok (.iconst 0, 1) := by decide +kernel
theorem dX6_takesRider_165 : decode cX6_takesRider 165 = .ok (.ireturn, 1) := by decide +kernel
theorem dX6_takesRoad_0 : decode cX6_takesRoad 0 = .ok (.aload_n 0, 1) := by decide +kernel
theorem dX6_takesRoad_1 : decode cX6_takesRoad 1 = .ok (.invokevirtual 108, 3) := by decide +kernel
theorem dX6_takesRoad_4 : decode cX6_takesRoad 4 = .ok (.ifCond .ne 5, 3) := by decide +kernel
theorem dX6_takesRoad_7 : decode cX6_takesRoad 7 = .ok (.iconst 0, 1) := by decide +kernel
theorem dX6_takesRoad_8 : decode cX6_takesRoad 8 = .ok (.ireturn, 1) := by decide +kernel
theorem dX6_takesRoad_9 : decode cX6_takesRoad 9 = .ok (.aload_n 0, 1) := by decide +kernel
theorem dX6_takesRoad_10 : decode cX6_takesRoad 10 = .ok (.invokevirtual 84, 3) := by decide +kernel
theorem dX6_takesRoad_13 : decode cX6_takesRoad 13 = .ok (.bipush 44, 2) := by decide +kernel
theorem dX6_takesRoad_15 : decode cX6_takesRoad 15 = .ok (.if_icmp .ne 35, 3) := by decide +kernel
theorem dX6_takesRoad_18 : decode cX6_takesRoad 18 = .ok (.aload_n 0, 1) := by decide +kernel
theorem dX6_takesRoad_19 : decode cX6_takesRoad 19 = .ok (.getfield 7, 3) := by decide +kernel
theorem dX6_takesRoad_22 : decode cX6_takesRoad 22 = .ok (.sipush 455, 3) := by decide +kernel
theorem dX6_takesRoad_25 : decode cX6_takesRoad 25 = .ok (.iaload, 1) := by decide +kernel
theorem dX6_takesRoad_26 : decode cX6_takesRoad 26 = .ok (.bipush 8, 2) := by decide +kernel
theorem dX6_takesRoad_28 : decode cX6_takesRoad 28 = .ok (.if_icmp .ge 22, 3) := by decide +kernel
theorem dX6_takesRoad_31 : decode cX6_takesRoad 31 = .ok (.aload_n 0, 1) := by decide +kernel
theorem dX6_takesRoad_32 : decode cX6_takesRoad 32 = .ok (.dup, 1) := by decide +kernel
theorem dX6_takesRoad_33 : decode cX6_takesRoad 33 = .ok (.getfield 74, 3) := by decide +kernel
theorem dX6_takesRoad_36 : decode cX6_takesRoad 36 = .ok (.iconst 1, 1) := by decide +kernel
theorem dX6_takesRoad_37 : decode cX6_takesRoad 37 = .ok (.iadd, 1) := by decide +kernel
theorem dX6_takesRoad_38 : decode cX6_takesRoad 38 = .ok (.putfield 74, 3) := by decide +kernel
theorem dX6_takesRoad_41 : decode cX6_takesRoad 41 = .ok (.aload_n 0, 1) := by decide +kernel
theorem dX6_takesRoad_42 : decode cX6_takesRoad 42 = .ok (.invokevirtual 108, 3) := by decide +kernel
theorem dX6_takesRoad_45 : decode cX6_takesRoad 45 = .ok (.ifCond .ne (-36), 3) := by decide +kernel
theorem dX6_takesRoad_48 : decode cX6_takesRoad 48 = .ok (.iconst 0, 1) := by decide +kernel
theorem dX6_takesRoad_49 : decode cX6_takesRoad 49 = .ok (.ireturn, 1) := by decide +kernel
theorem dX6_takesRoad_50 : decode cX6_takesRoad 50 = .ok (.aload_n 0, 1) := by decide +kernel
theorem dX6_takesRoad_51 : decode cX6_takesRoad 51 = .ok (.invokevirtual 84, 3) := by decide +kernel
theorem dX6_takesRoad_54 : decode cX6_takesRoad 54 = .ok (.bipush 59, 2) := by decide +kernel
theorem dX6_takesRoad_56 : decode cX6_takesRoad 56 = .ok (.if_icmp .eq 12, 3) := by decide +kernel
theorem dX6_takesRoad_59 : decode cX6_takesRoad 59 = .ok (.aload_n 0, 1) := by decide +kernel
theorem dX6_takesRoad_60 : decode cX6_takesRoad 60 = .ok (.aload_n 0, 1) := by decide +kernel
theorem dX6_takesRoad_61 : decode cX6_takesRoad 61 = .ok (.getfield 74, 3) := by decide +kernel
theorem dX6_takesRoad_64 : decode cX6_takesRoad 64 = .ok (.invokevirtual 88, 3) := by decide +kernel
theorem dX6_takesRoad_67 : decode cX6_takesRoad 67 = .ok (.ireturn, 1) := by decide +kernel
theorem dX6_takesRoad_68 : decode cX6_takesRoad 68 = .ok (.aload_n 0, 1) := by decide +kernel
theorem dX6_takesRoad_69 : decode cX6_takesRoad 69 = .ok (.dup, 1) := by decide +kernel
theorem dX6_takesRoad_70 : decode cX6_takesRoad 70 = .ok (.getfield 74, 3) := by decide +kernel
theorem dX6_takesRoad_73 : decode cX6_takesRoad 73 = .ok (.iconst 1, 1) := by decide +kernel
theorem dX6_takesRoad_74 : decode cX6_takesRoad 74 = .ok (.iadd, 1) := by decide +kernel
theorem dX6_takesRoad_75 : decode cX6_takesRoad 75 = .ok (.putfield 74, 3) := by decide +kernel
theorem dX6_takesRoad_78 : decode cX6_takesRoad 78 = .ok (.aload_n 0, 1) := by decide +kernel
theorem dX6_takesRoad_79 : decode cX6_takesRoad 79 = .ok (.invokevirtual 112, 3) := by decide +kernel
theorem dX6_takesRoad_82 : decode cX6_takesRoad 82 = .ok (.ifCond .ne 5, 3) := by decide +kernel
theorem dX6_takesRoad_85 : decode cX6_takesRoad 85 = .ok (.iconst 0, 1) := by decide +kernel
theorem dX6_takesRoad_86 : decode cX6_takesRoad 86 = .ok (.ireturn, 1) := by decide +kernel
theorem dX6_takesRoad_87 : decode cX6_takesRoad 87 = .ok (.aload_n 0, 1) := by decide +kernel
theorem dX6_takesRoad_88 : decode cX6_takesRoad 88 = .ok (.invokevirtual 84, 3) := by decide +kernel
theorem dX6_takesRoad_91 : decode cX6_takesRoad 91 = .ok (.bipush 44, 2) := by decide +kernel
theorem dX6_takesRoad_93 : decode cX6_takesRoad 93 = .ok (.if_icmp .ne 34, 3) := by decide +kernel
theorem dX6_takesRoad_96 : decode cX6_takesRoad 96 = .ok (.aload_n 0, 1) := by decide +kernel
theorem dX6_takesRoad_97 : decode cX6_takesRoad 97 = .ok (.getfield 7, 3) := by decide +kernel
theorem dX6_takesRoad_100 : decode cX6_takesRoad 100 = .ok (.sipush 456, 3) := by decide +kernel
theorem dX6_takesRoad_103 : decode cX6_takesRoad 103 = .ok (.iaload, 1) := by decide +kernel
theorem dX6_takesRoad_104 : decode cX6_takesRoad 104 = .ok (.iconst 4, 1) := by decide +kernel
theorem dX6_takesRoad_105 : decode cX6_takesRoad 105 = .ok (.if_icmp .ge 22, 3) := by decide +kernel
theorem dX6_takesRoad_108 : decode cX6_takesRoad 108 = .ok (.aload_n 0, 1) := by decide +kernel
theorem dX6_takesRoad_109 : decode cX6_takesRoad 109 = .ok (.dup, 1) := by decide +kernel
theorem dX6_takesRoad_110 : decode cX6_takesRoad 110 = .ok (.getfield 74, 3) := by decide +kernel
theorem dX6_takesRoad_113 : decode cX6_takesRoad 113 = .ok (.iconst 1, 1) := by decide +kernel
theorem dX6_takesRoad_114 : decode cX6_takesRoad 114 = .ok (.iadd, 1) := by decide +kernel
theorem dX6_takesRoad_115 : decode cX6_takesRoad 115 = .ok (.putfield 74, 3) := by decide +kernel
theorem dX6_takesRoad_118 : decode cX6_takesRoad 118 = .ok (.aload_n 0, 1) := by decide +kernel
theorem dX6_takesRoad_119 : decode cX6_takesRoad 119 = .ok (.invokevirtual 112, 3) := by decide +kernel
theorem dX6_takesRoad_122 : decode cX6_takesRoad 122 = .ok (.ifCond .ne (-35), 3) := by decide +kernel
theorem dX6_takesRoad_125 : decode cX6_takesRoad 125 = .ok (.iconst 0, 1) := by decide +kernel
theorem dX6_takesRoad_126 : decode cX6_takesRoad 126 = .ok (.ireturn, 1) := by decide +kernel
theorem dX6_takesRoad_127 : decode cX6_takesRoad 127 = .ok (.aload_n 0, 1) := by decide +kernel
theorem dX6_takesRoad_128 : decode cX6_takesRoad 128 = .ok (.invokevirtual 84, 3) := by decide +kernel
theorem dX6_takesRoad_131 : decode cX6_takesRoad 131 = .ok (.ifCond .lt 14, 3) := by decide +kernel
theorem dX6_takesRoad_134 : decode cX6_takesRoad 134 = .ok (.aload_n 0, 1) := by decide +kernel
theorem dX6_takesRoad_135 : decode cX6_takesRoad 135 = .ok (.aload_n 0, 1) := by decide +kernel
theorem dX6_takesRoad_136 : decode cX6_takesRoad 136 = .ok (.getfield 74, 3) := by decide +kernel
theorem dX6_takesRoad_139 : decode cX6_takesRoad 139 = .ok (.invokevirtual 88, 3) := by decide +kernel
theorem dX6_takesRoad_142 : decode cX6_takesRoad 142 = .ok (.ifCond .eq 7, 3) := by decide +kernel
theorem dX6_takesRoad_145 : decode cX6_takesRoad 145 = .ok (.iconst 1, 1) := by decide +kernel
theorem dX6_takesRoad_146 : decode cX6_takesRoad 146 = .ok (.goto 4, 3) := by decide +kernel
theorem dX6_takesRoad_149 : decode cX6_takesRoad 149 = .ok (.iconst 0, 1) := by decide +kernel
theorem dX6_takesRoad_150 : decode cX6_takesRoad 150 = .ok (.ireturn, 1) := by decide +kernel
theorem dX6_road_0 : decode cX6_road 0 = .ok (.iconst 0, 1) := by decide +kernel
theorem dX6_road_1 : decode cX6_road 1 = .ok (.istore_n 1, 1) := by decide +kernel
theorem dX6_road_2 : decode cX6_road 2 = .ok (.iload_n 1, 1) := by decide +kernel
theorem dX6_road_3 : decode cX6_road 3 = .ok (.bipush 49, 2) := by decide +kernel
theorem dX6_road_5 : decode cX6_road 5 = .ok (.if_icmp .ge 20, 3) := by decide +kernel
theorem dX6_road_8 : decode cX6_road 8 = .ok (.aload_n 0, 1) := by decide +kernel
theorem dX6_road_9 : decode cX6_road 9 = .ok (.getfield 7, 3) := by decide +kernel
theorem dX6_road_12 : decode cX6_road 12 = .ok (.sipush 434, 3) := by decide +kernel
theorem dX6_road_15 : decode cX6_road 15 = .ok (.iload_n 1, 1) := by decide +kernel
theorem dX6_road_16 : decode cX6_road 16 = .ok (.iadd, 1) := by decide +kernel
theorem dX6_road_17 : decode cX6_road 17 = .ok (.iconst 0, 1) := by decide +kernel
theorem dX6_road_18 : decode cX6_road 18 = .ok (.iastore, 1) := by decide +kernel
theorem dX6_road_19 : decode cX6_road 19 = .ok (.iinc 1 1, 3) := by decide +kernel
theorem dX6_road_22 : decode cX6_road 22 = .ok (.goto (-20), 3) := by decide +kernel
theorem dX6_road_25 : decode cX6_road 25 = .ok (.aload_n 0, 1) := by decide +kernel
theorem dX6_road_26 : decode cX6_road 26 = .ok (.getfield 7, 3) := by decide +kernel
theorem dX6_road_29 : decode cX6_road 29 = .ok (.sipush 454, 3) := by decide +kernel
theorem dX6_road_32 : decode cX6_road 32 = .ok (.aload_n 0, 1) := by decide +kernel
theorem dX6_road_33 : decode cX6_road 33 = .ok (.getfield 7, 3) := by decide +kernel
theorem dX6_road_36 : decode cX6_road 36 = .ok (.bipush 20, 2) := by decide +kernel
theorem dX6_road_38 : decode cX6_road 38 = .ok (.iaload, 1) := by decide +kernel
theorem dX6_road_39 : decode cX6_road 39 = .ok (.iastore, 1) := by decide +kernel
theorem dX6_road_40 : decode cX6_road 40 = .ok (.aload_n 0, 1) := by decide +kernel
theorem dX6_road_41 : decode cX6_road 41 = .ok (.getfield 7, 3) := by decide +kernel
theorem dX6_road_44 : decode cX6_road 44 = .ok (.sipush 457, 3) := by decide +kernel
theorem dX6_road_47 : decode cX6_road 47 = .ok (.aload_n 0, 1) := by decide +kernel
theorem dX6_road_48 : decode cX6_road 48 = .ok (.getfield 7, 3) := by decide +kernel
theorem dX6_road_51 : decode cX6_road 51 = .ok (.bipush 23, 2) := by decide +kernel
theorem dX6_road_53 : decode cX6_road 53 = .ok (.iaload, 1) := by decide +kernel
theorem dX6_road_54 : decode cX6_road 54 = .ok (.iastore, 1) := by decide +kernel
theorem dX6_road_55 : decode cX6_road 55 = .ok (.aload_n 0, 1) := by decide +kernel
theorem dX6_road_56 : decode cX6_road 56 = .ok (.iconst 0, 1) := by decide +kernel
theorem dX6_road_57 : decode cX6_road 57 = .ok (.putfield 74, 3) := by decide +kernel
theorem dX6_road_60 : decode cX6_road 60 = .ok (.aload_n 0, 1) := by decide +kernel
theorem dX6_road_61 : decode cX6_road 61 = .ok (.invokevirtual 115, 3) := by decide +kernel
theorem dX6_road_64 : decode cX6_road 64 = .ok (.istore_n 1, 1) := by decide +kernel
theorem dX6_road_65 : decode cX6_road 65 = .ok (.aload_n 0, 1) := by decide +kernel
theorem dX6_road_66 : decode cX6_road 66 = .ok (.iconst 0, 1) := by decide +kernel
theorem dX6_road_67 : decode cX6_road 67 = .ok (.putfield 70, 3) := by decide +kernel
theorem dX6_road_70 : decode cX6_road 70 = .ok (.iload_n 1, 1) := by decide +kernel
theorem dX6_road_71 : decode cX6_road 71 = .ok (.ifCond .ne 11, 3) := by decide +kernel
theorem dX6_road_74 : decode cX6_road 74 = .ok (.bipush (-20), 2) := by decide +kernel
theorem dX6_road_76 : decode cX6_road 76 = .ok (.aload_n 0, 1) := by decide +kernel
theorem dX6_road_77 : decode cX6_road 77 = .ok (.getfield 81, 3) := by decide +kernel
theorem dX6_road_80 : decode cX6_road 80 = .ok (.isub, 1) := by decide +kernel
theorem dX6_road_81 : decode cX6_road 81 = .ok (.ireturn, 1) := by decide +kernel
theorem dX6_road_82 : decode cX6_road 82 = .ok (.aload_n 0, 1) := by decide +kernel
theorem dX6_road_83 : decode cX6_road 83 = .ok (.sipush 434, 3) := by decide +kernel
theorem dX6_road_86 : decode cX6_road 86 = .ok (.iconst 0, 1) := by decide +kernel
theorem dX6_road_87 : decode cX6_road 87 = .ok (.bipush 49, 2) := by decide +kernel
theorem dX6_road_89 : decode cX6_road 89 = .ok (.invokevirtual 118, 3) := by decide +kernel
theorem dX6_road_92 : decode cX6_road 92 = .ok (.aload_n 0, 1) := by decide +kernel
theorem dX6_road_93 : decode cX6_road 93 = .ok (.getfield 7, 3) := by decide +kernel
theorem dX6_road_96 : decode cX6_road 96 = .ok (.bipush 22, 2) := by decide +kernel
theorem dX6_road_98 : decode cX6_road 98 = .ok (.iaload, 1) := by decide +kernel
theorem dX6_road_99 : decode cX6_road 99 = .ok (.ireturn, 1) := by decide +kernel
theorem dX6_nextIn_0 : decode cX6_nextIn 0 = .ok (.bipush (-4), 2) := by decide +kernel
theorem dX6_nextIn_2 : decode cX6_nextIn 2 = .ok (.istore_n 2, 1) := by decide +kernel
theorem dX6_nextIn_3 : decode cX6_nextIn 3 = .ok (.iconst 0, 1) := by decide +kernel
theorem dX6_nextIn_4 : decode cX6_nextIn 4 = .ok (.istore_n 3, 1) := by decide +kernel
theorem dX6_nextIn_5 : decode cX6_nextIn 5 = .ok (.iload_n 3, 1) := by decide +kernel
theorem dX6_nextIn_6 : decode cX6_nextIn 6 = .ok (.aload_n 0, 1) := by decide +kernel
theorem dX6_nextIn_7 : decode cX6_nextIn 7 = .ok (.getfield 7, 3) := by decide +kernel
theorem dX6_nextIn_10 : decode cX6_nextIn 10 = .ok (.iload_n 1, 1) := by decide +kernel
theorem dX6_nextIn_11 : decode cX6_nextIn 11 = .ok (.bipush 22, 2) := by decide +kernel
theorem dX6_nextIn_13 : decode cX6_nextIn 13 = .ok (.iadd, 1) := by decide +kernel
theorem dX6_nextIn_14 : decode cX6_nextIn 14 = .ok (.iaload, 1) := by decide +kernel
theorem dX6_nextIn_15 : decode cX6_nextIn 15 = .ok (.if_icmp .ge 67, 3) := by decide +kernel
theorem dX6_nextIn_18 : decode cX6_nextIn 18 = .ok (.aload_n 0, 1) := by decide +kernel
theorem dX6_nextIn_19 : decode cX6_nextIn 19 = .ok (.iload_n 1, 1) := by decide +kernel
theorem dX6_nextIn_20 : decode cX6_nextIn 20 = .ok (.iload_n 3, 1) := by decide +kernel
theorem dX6_nextIn_21 : decode cX6_nextIn 21 = .ok (.invokevirtual 54, 3) := by decide +kernel
theorem dX6_nextIn_24 : decode cX6_nextIn 24 = .ok (.ifCond .ne 38, 3) := by decide +kernel
theorem dX6_nextIn_27 : decode cX6_nextIn 27 = .ok (.iload_n 2, 1) := by decide +kernel
theorem dX6_nextIn_28 : decode cX6_nextIn 28 = .ok (.bipush (-4), 2) := by decide +kernel
theorem dX6_nextIn_30 : decode cX6_nextIn 30 = .ok (.if_icmp .eq 28, 3) := by decide +kernel
theorem dX6_nextIn_33 : decode cX6_nextIn 33 = .ok (.aload_n 0, 1) := by decide +kernel
theorem dX6_nextIn_34 : decode cX6_nextIn 34 = .ok (.getfield 7, 3) := by decide +kernel
theorem dX6_nextIn_37 : decode cX6_nextIn 37 = .ok (.iload_n 1, 1) := by decide +kernel
theorem dX6_nextIn_38 : decode cX6_nextIn 38 = .ok (.bipush 12, 2) := by decide +kernel
theorem dX6_nextIn_40 : decode cX6_nextIn 40 = .ok (.iadd, 1) := by decide +kernel
theorem dX6_nextIn_41 : decode cX6_nextIn 41 = .ok (.iload_n 3, 1) := by decide +kernel
theorem dX6_nextIn_42 : decode cX6_nextIn 42 = .ok (.iadd, 1) := by decide +kernel
theorem dX6_nextIn_43 : decode cX6_nextIn 43 = .ok (.iaload, 1) := by decide +kernel
theorem dX6_nextIn_44 : decode cX6_nextIn 44 = .ok (.aload_n 0, 1) := by decide +kernel
theorem dX6_nextIn_45 : decode cX6_nextIn 45 = .ok (.getfield 7, 3) := by decide +kernel
theorem dX6_nextIn_48 : decode cX6_nextIn 48 = .ok (.iload_n 1, 1) := by decide +kernel
theorem dX6_nextIn_49 : decode cX6_nextIn 49 = .ok (.bipush 12, 2) := by decide +kernel
theorem dX6_nextIn_51 : decode cX6_nextIn 51 = .ok (.iadd, 1) := by decide +kernel
theorem dX6_nextIn_52 : decode cX6_nextIn 52 = .ok (.iload_n 2, 1) := by decide +kernel
theorem dX6_nextIn_53 : decode cX6_nextIn 53 = .ok (.iadd, 1) := by decide +kernel
theorem dX6_nextIn_54 : decode cX6_nextIn 54 = .ok (.iaload, 1) := by decide +kernel
theorem dX6_nextIn_55 : decode cX6_nextIn 55 = .ok (.if_icmp .ge 7, 3) := by decide +kernel
theorem dX6_nextIn_58 : decode cX6_nextIn 58 = .ok (.iconst 1, 1) := by decide +kernel
theorem dX6_nextIn_59 : decode cX6_nextIn 59 = .ok (.goto 4, 3) := by decide +kernel
theorem dX6_nextIn_62 : decode cX6_nextIn 62 = .ok (.iconst 0, 1) := by decide +kernel
theorem dX6_nextIn_63 : decode cX6_nextIn 63 = .ok (.istore 4, 2) := by decide +kernel
theorem dX6_nextIn_65 : decode cX6_nextIn 65 = .ok (.iload 4, 2) := by decide +kernel
theorem dX6_nextIn_67 : decode cX6_nextIn 67 = .ok (.ifCond .eq 7, 3) := by decide +kernel
theorem dX6_nextIn_70 : decode cX6_nextIn 70 = .ok (.iload_n 3, 1) := by decide +kernel
theorem dX6_nextIn_71 : decode cX6_nextIn 71 = .ok (.goto 4, 3) := by decide +kernel
theorem dX6_nextIn_74 : decode cX6_nextIn 74 = .ok (.iload_n 2, 1) := by decide +kernel
theorem dX6_nextIn_75 : decode cX6_nextIn 75 = .ok (.istore_n 2, 1) := by decide +kernel
theorem dX6_nextIn_76 : decode cX6_nextIn 76 = .ok (.iinc 3 1, 3) := by decide +kernel
theorem dX6_nextIn_79 : decode cX6_nextIn 79 = .ok (.goto (-74), 3) := by decide +kernel
theorem dX6_nextIn_82 : decode cX6_nextIn 82 = .ok (.iload_n 2, 1) := by decide +kernel
theorem dX6_nextIn_83 : decode cX6_nextIn 83 = .ok (.ireturn, 1) := by decide +kernel
theorem dX6_rides_0 : decode cX6_rides 0 = .ok (.aload_n 0, 1) := by decide +kernel
theorem dX6_rides_1 : decode cX6_rides 1 = .ok (.getfield 7, 3) := by decide +kernel
theorem dX6_rides_4 : decode cX6_rides 4 = .ok (.iload_n 1, 1) := by decide +kernel
theorem dX6_rides_5 : decode cX6_rides 5 = .ok (.bipush 8, 2) := by decide +kernel
theorem dX6_rides_7 : decode cX6_rides 7 = .ok (.iadd, 1) := by decide +kernel
theorem dX6_rides_8 : decode cX6_rides 8 = .ok (.iload_n 2, 1) := by decide +kernel
theorem dX6_rides_9 : decode cX6_rides 9 = .ok (.iadd, 1) := by decide +kernel
theorem dX6_rides_10 : decode cX6_rides 10 = .ok (.iaload, 1) := by decide +kernel
theorem dX6_rides_11 : decode cX6_rides 11 = .ok (.istore_n 3, 1) := by decide +kernel
theorem dX6_rides_12 : decode cX6_rides 12 = .ok (.aload_n 0, 1) := by decide +kernel
theorem dX6_rides_13 : decode cX6_rides 13 = .ok (.getfield 7, 3) := by decide +kernel
theorem dX6_rides_16 : decode cX6_rides 16 = .ok (.iload_n 1, 1) := by decide +kernel
theorem dX6_rides_17 : decode cX6_rides 17 = .ok (.bipush 44, 2) := by decide +kernel
theorem dX6_rides_19 : decode cX6_rides 19 = .ok (.iadd, 1) := by decide +kernel
theorem dX6_rides_20 : decode cX6_rides 20 = .ok (.iload_n 2, 1) := by decide +kernel
theorem dX6_rides_21 : decode cX6_rides 21 = .ok (.iadd, 1) := by decide +kernel
theorem dX6_rides_22 : decode cX6_rides 22 = .ok (.iaload, 1) := by decide +kernel
theorem dX6_rides_23 : decode cX6_rides 23 = .ok (.iload_n 3, 1) := by decide +kernel
theorem dX6_rides_24 : decode cX6_rides 24 = .ok (.invokestatic 122, 3) := by decide +kernel
theorem dX6_rides_27 : decode cX6_rides 27 = .ok (.ifCond .eq 43, 3) := by decide +kernel
theorem dX6_rides_30 : decode cX6_rides 30 = .ok (.aload_n 0, 1) := by decide +kernel
theorem dX6_rides_31 : decode cX6_rides 31 = .ok (.getfield 7, 3) := by decide +kernel
theorem dX6_rides_34 : decode cX6_rides 34 = .ok (.iload_n 1, 1) := by decide +kernel
theorem dX6_rides_35 : decode cX6_rides 35 = .ok (.iconst 0, 1) := by decide +kernel
theorem dX6_rides_36 : decode cX6_rides 36 = .ok (.iadd, 1) := by decide +kernel
theorem dX6_rides_37 : decode cX6_rides 37 = .ok (.iload_n 3, 1) := by decide +kernel
theorem dX6_rides_38 : decode cX6_rides 38 = .ok (.iadd, 1) := by decide +kernel
theorem dX6_rides_39 : decode cX6_rides 39 = .ok (.iaload, 1) := by decide +kernel
theorem dX6_rides_40 : decode cX6_rides 40 = .ok (.ifCond .le 30, 3) := by decide +kernel
theorem dX6_rides_43 : decode cX6_rides 43 = .ok (.aload_n 0, 1) := by decide +kernel
theorem dX6_rides_44 : decode cX6_rides 44 = .ok (.getfield 7, 3) := by decide +kernel
theorem dX6_rides_47 : decode cX6_rides 47 = .ok (.iload_n 1, 1) := by decide +kernel
theorem dX6_rides_48 : decode cX6_rides 48 = .ok (.bipush 16, 2) := by decide +kernel
theorem dX6_rides_50 : decode cX6_rides 50 = .ok (.iadd, 1) := by decide +kernel
theorem dX6_rides_51 : decode cX6_rides 51 = .ok (.iload_n 2, 1) := by decide +kernel
theorem dX6_rides_52 : decode cX6_rides 52 = .ok (.iadd, 1) := by decide +kernel
theorem dX6_rides_53 : decode cX6_rides 53 = .ok (.iaload, 1) := by decide +kernel
theorem dX6_rides_54 : decode cX6_rides 54 = .ok (.aload_n 0, 1) := by decide +kernel
theorem dX6_rides_55 : decode cX6_rides 55 = .ok (.getfield 7, 3) := by decide +kernel
theorem dX6_rides_58 : decode cX6_rides 58 = .ok (.iload_n 1, 1) := by decide +kernel
theorem dX6_rides_59 : decode cX6_rides 59 = .ok (.bipush 23, 2) := by decide +kernel
theorem dX6_rides_61 : decode cX6_rides 61 = .ok (.iadd, 1) := by decide +kernel
theorem dX6_rides_62 : decode cX6_rides 62 = .ok (.iaload, 1) := by decide +kernel
theorem dX6_rides_63 : decode cX6_rides 63 = .ok (.if_icmp .lt 7, 3) := by decide +kernel
theorem dX6_rides_66 : decode cX6_rides 66 = .ok (.iconst 1, 1) := by decide +kernel
theorem dX6_rides_67 : decode cX6_rides 67 = .ok (.goto 4, 3) := by decide +kernel
theorem dX6_rides_70 : decode cX6_rides 70 = .ok (.iconst 0, 1) := by decide +kernel
theorem dX6_rides_71 : decode cX6_rides 71 = .ok (.istore 4, 2) := by decide +kernel
theorem dX6_rides_73 : decode cX6_rides 73 = .ok (.aload_n 0, 1) := by decide +kernel
theorem dX6_rides_74 : decode cX6_rides 74 = .ok (.getfield 7, 3) := by decide +kernel
theorem dX6_rides_77 : decode cX6_rides 77 = .ok (.iload_n 1, 1) := by decide +kernel
theorem dX6_rides_78 : decode cX6_rides 78 = .ok (.bipush 16, 2) := by decide +kernel
theorem dX6_rides_80 : decode cX6_rides 80 = .ok (.iadd, 1) := by decide +kernel
theorem dX6_rides_81 : decode cX6_rides 81 = .ok (.iload_n 2, 1) := by decide +kernel
theorem dX6_rides_82 : decode cX6_rides 82 = .ok (.iadd, 1) := by decide +kernel
theorem dX6_rides_83 : decode cX6_rides 83 = .ok (.dup2, 1) := by decide +kernel
theorem dX6_rides_84 : decode cX6_rides 84 = .ok (.iaload, 1) := by decide +kernel
theorem dX6_rides_85 : decode cX6_rides 85 = .ok (.iload 4, 2) := by decide +kernel
theorem dX6_rides_87 : decode cX6_rides 87 = .ok (.ifCond .eq 15, 3) := by decide +kernel
theorem dX6_rides_90 : decode cX6_rides 90 = .ok (.aload_n 0, 1) := by decide +kernel
theorem dX6_rides_91 : decode cX6_rides 91 = .ok (.getfield 7, 3) := by decide +kernel
theorem dX6_rides_94 : decode cX6_rides 94 = .ok (.iload_n 1, 1) := by decide +kernel
theorem dX6_rides_95 : decode cX6_rides 95 = .ok (.bipush 23, 2) := by decide +kernel
theorem dX6_rides_97 : decode cX6_rides 97 = .ok (.iadd, 1) := by decide +kernel
theorem dX6_rides_98 : decode cX6_rides 98 = .ok (.iaload, 1) := by decide +kernel
theorem dX6_rides_99 : decode cX6_rides 99 = .ok (.goto 4, 3) := by decide +kernel
theorem dX6_rides_102 : decode cX6_rides 102 = .ok (.iconst 0, 1) := by decide +kernel
theorem dX6_rides_103 : decode cX6_rides 103 = .ok (.isub, 1) := by decide +kernel
theorem dX6_rides_104 : decode cX6_rides 104 = .ok (.iastore, 1) := by decide +kernel
theorem dX6_rides_105 : decode cX6_rides 105 = .ok (.aload_n 0, 1) := by decide +kernel
theorem dX6_rides_106 : decode cX6_rides 106 = .ok (.getfield 7, 3) := by decide +kernel
theorem dX6_rides_109 : decode cX6_rides 109 = .ok (.iload_n 1, 1) := by decide +kernel
theorem dX6_rides_110 : decode cX6_rides 110 = .ok (.iconst 0, 1) := by decide +kernel
theorem dX6_rides_111 : decode cX6_rides 111 = .ok (.iadd, 1) := by decide +kernel
theorem dX6_rides_112 : decode cX6_rides 112 = .ok (.iload_n 3, 1) := by decide +kernel
theorem dX6_rides_113 : decode cX6_rides 113 = .ok (.iadd, 1) := by decide +kernel
theorem dX6_rides_114 : decode cX6_rides 114 = .ok (.dup2, 1) := by decide +kernel
theorem dX6_rides_115 : decode cX6_rides 115 = .ok (.iaload, 1) := by decide +kernel
theorem dX6_rides_116 : decode cX6_rides 116 = .ok (.iload 4, 2) := by decide +kernel
theorem dX6_rides_118 : decode cX6_rides 118 = .ok (.ifCond .eq 7, 3) := by decide +kernel
theorem dX6_rides_121 : decode cX6_rides 121 = .ok (.iconst 1, 1) := by decide +kernel
theorem dX6_rides_122 : decode cX6_rides 122 = .ok (.goto 4, 3) := by decide +kernel
theorem dX6_rides_125 : decode cX6_rides 125 = .ok (.iconst 0, 1) := by decide +kernel
theorem dX6_rides_126 : decode cX6_rides 126 = .ok (.isub, 1) := by decide +kernel
theorem dX6_rides_127 : decode cX6_rides 127 = .ok (.iastore, 1) := by decide +kernel
theorem dX6_rides_128 : decode cX6_rides 128 = .ok (.aload_n 0, 1) := by decide +kernel
theorem dX6_rides_129 : decode cX6_rides 129 = .ok (.getfield 7, 3) := by decide +kernel
theorem dX6_rides_132 : decode cX6_rides 132 = .ok (.iload_n 1, 1) := by decide +kernel
theorem dX6_rides_133 : decode cX6_rides 133 = .ok (.bipush 16, 2) := by decide +kernel
theorem dX6_rides_135 : decode cX6_rides 135 = .ok (.iadd, 1) := by decide +kernel
theorem dX6_rides_136 : decode cX6_rides 136 = .ok (.iload_n 2, 1) := by decide +kernel
theorem dX6_rides_137 : decode cX6_rides 137 = .ok (.iadd, 1) := by decide +kernel
theorem dX6_rides_138 : decode cX6_rides 138 = .ok (.iaload, 1) := by decide +kernel
theorem dX6_rides_139 : decode cX6_rides 139 = .ok (.aload_n 0, 1) := by decide +kernel
theorem dX6_rides_140 : decode cX6_rides 140 = .ok (.getfield 7, 3) := by decide +kernel
theorem dX6_rides_143 : decode cX6_rides 143 = .ok (.iload_n 1, 1) := by decide +kernel
theorem dX6_rides_144 : decode cX6_rides 144 = .ok (.bipush 32, 2) := by decide +kernel
theorem dX6_rides_146 : decode cX6_rides 146 = .ok (.iadd, 1) := by decide +kernel
theorem dX6_rides_147 : decode cX6_rides 147 = .ok (.iload_n 3, 1) := by decide +kernel
theorem dX6_rides_148 : decode cX6_rides 148 = .ok (.iadd, 1) := by decide +kernel
theorem dX6_rides_149 : decode cX6_rides 149 = .ok (.iaload, 1) := by decide +kernel
theorem dX6_rides_150 : decode cX6_rides 150 = .ok (.if_icmp .lt 7, 3) := by decide +kernel
theorem dX6_rides_153 : decode cX6_rides 153 = .ok (.iconst 1, 1) := by decide +kernel
theorem dX6_rides_154 : decode cX6_rides 154 = .ok (.goto 4, 3) := by decide +kernel
theorem dX6_rides_157 : decode cX6_rides 157 = .ok (.iconst 0, 1) := by decide +kernel
theorem dX6_rides_158 : decode cX6_rides 158 = .ok (.istore 5, 2) := by decide +kernel
theorem dX6_rides_160 : decode cX6_rides 160 = .ok (.aload_n 0, 1) := by decide +kernel
theorem dX6_rides_161 : decode cX6_rides 161 = .ok (.getfield 7, 3) := by decide +kernel
theorem dX6_rides_164 : decode cX6_rides 164 = .ok (.iload_n 1, 1) := by decide +kernel
theorem dX6_rides_165 : decode cX6_rides 165 = .ok (.bipush 16, 2) := by decide +kernel
theorem dX6_rides_167 : decode cX6_rides 167 = .ok (.iadd, 1) := by decide +kernel
theorem dX6_rides_168 : decode cX6_rides 168 = .ok (.iload_n 2, 1) := by decide +kernel
theorem dX6_rides_169 : decode cX6_rides 169 = .ok (.iadd, 1) := by decide +kernel
theorem dX6_rides_170 : decode cX6_rides 170 = .ok (.dup2, 1) := by decide +kernel
theorem dX6_rides_171 : decode cX6_rides 171 = .ok (.iaload, 1) := by decide +kernel
theorem dX6_rides_172 : decode cX6_rides 172 = .ok (.iload 5, 2) := by decide +kernel
theorem dX6_rides_174 : decode cX6_rides 174 = .ok (.ifCond .eq 17, 3) := by decide +kernel
theorem dX6_rides_177 : decode cX6_rides 177 = .ok (.aload_n 0, 1) := by decide +kernel
theorem dX6_rides_178 : decode cX6_rides 178 = .ok (.getfield 7, 3) := by decide +kernel
theorem dX6_rides_181 : decode cX6_rides 181 = .ok (.iload_n 1, 1) := by decide +kernel
theorem dX6_rides_182 : decode cX6_rides 182 = .ok (.bipush 32, 2) := by decide +kernel
theorem dX6_rides_184 : decode cX6_rides 184 = .ok (.iadd, 1) := by decide +kernel
theorem dX6_rides_185 : decode cX6_rides 185 = .ok (.iload_n 3, 1) := by decide +kernel
theorem dX6_rides_186 : decode cX6_rides 186 = .ok (.iadd, 1) := by decide +kernel
theorem dX6_rides_187 : decode cX6_rides 187 = .ok (.iaload, 1) := by decide +kernel
theorem dX6_rides_188 : decode cX6_rides 188 = .ok (.goto 4, 3) := by decide +kernel
theorem dX6_rides_191 : decode cX6_rides 191 = .ok (.iconst 0, 1) := by decide +kernel
theorem dX6_rides_192 : decode cX6_rides 192 = .ok (.isub, 1) := by decide +kernel
theorem dX6_rides_193 : decode cX6_rides 193 = .ok (.iastore, 1) := by decide +kernel
theorem dX6_rides_194 : decode cX6_rides 194 = .ok (.aload_n 0, 1) := by decide +kernel
theorem dX6_rides_195 : decode cX6_rides 195 = .ok (.getfield 7, 3) := by decide +kernel
theorem dX6_rides_198 : decode cX6_rides 198 = .ok (.iload_n 1, 1) := by decide +kernel
theorem dX6_rides_199 : decode cX6_rides 199 = .ok (.bipush 12, 2) := by decide +kernel
theorem dX6_rides_201 : decode cX6_rides 201 = .ok (.iadd, 1) := by decide +kernel
theorem dX6_rides_202 : decode cX6_rides 202 = .ok (.iload_n 2, 1) := by decide +kernel
theorem dX6_rides_203 : decode cX6_rides 203 = .ok (.iadd, 1) := by decide +kernel
theorem dX6_rides_204 : decode cX6_rides 204 = .ok (.dup2, 1) := by decide +kernel
theorem dX6_rides_205 : decode cX6_rides 205 = .ok (.iaload, 1) := by decide +kernel
theorem dX6_rides_206 : decode cX6_rides 206 = .ok (.iload 5, 2) := by decide +kernel
theorem dX6_rides_208 : decode cX6_rides 208 = .ok (.ifCond .eq 7, 3) := by decide +kernel
theorem dX6_rides_211 : decode cX6_rides 211 = .ok (.iconst 0, 1) := by decide +kernel
theorem dX6_rides_212 : decode cX6_rides 212 = .ok (.goto 5, 3) := by decide +kernel
theorem dX6_rides_215 : decode cX6_rides 215 = .ok (.bipush 10, 2) := by decide +kernel
theorem dX6_rides_217 : decode cX6_rides 217 = .ok (.aload_n 0, 1) := by decide +kernel
theorem dX6_rides_218 : decode cX6_rides 218 = .ok (.getfield 7, 3) := by decide +kernel
theorem dX6_rides_221 : decode cX6_rides 221 = .ok (.iload_n 1, 1) := by decide +kernel
theorem dX6_rides_222 : decode cX6_rides 222 = .ok (.bipush 40, 2) := by decide +kernel
theorem dX6_rides_224 : decode cX6_rides 224 = .ok (.iadd, 1) := by decide +kernel
theorem dX6_rides_225 : decode cX6_rides 225 = .ok (.iload_n 2, 1) := by decide +kernel
theorem dX6_rides_226 : decode cX6_rides 226 = .ok (.iadd, 1) := by decide +kernel
theorem dX6_rides_227 : decode cX6_rides 227 = .ok (.iaload, 1) := by decide +kernel
theorem dX6_rides_228 : decode cX6_rides 228 = .ok (.aload_n 0, 1) := by decide +kernel
theorem dX6_rides_229 : decode cX6_rides 229 = .ok (.getfield 7, 3) := by decide +kernel
theorem dX6_rides_232 : decode cX6_rides 232 = .ok (.iload_n 1, 1) := by decide +kernel
theorem dX6_rides_233 : decode cX6_rides 233 = .ok (.bipush 24, 2) := by decide +kernel
theorem dX6_rides_235 : decode cX6_rides 235 = .ok (.iadd, 1) := by decide +kernel
theorem dX6_rides_236 : decode cX6_rides 236 = .ok (.iload_n 3, 1) := by decide +kernel
theorem dX6_rides_237 : decode cX6_rides 237 = .ok (.iadd, 1) := by decide +kernel
theorem dX6_rides_238 : decode cX6_rides 238 = .ok (.iaload, 1) := by decide +kernel
theorem dX6_rides_239 : decode cX6_rides 239 = .ok (.iload 4, 2) := by decide +kernel
theorem dX6_rides_241 : decode cX6_rides 241 = .ok (.invokestatic 58, 3) := by decide +kernel
theorem dX6_rides_244 : decode cX6_rides 244 = .ok (.iadd, 1) := by decide +kernel
theorem dX6_rides_245 : decode cX6_rides 245 = .ok (.iadd, 1) := by decide +kernel
theorem dX6_rides_246 : decode cX6_rides 246 = .ok (.iastore, 1) := by decide +kernel
theorem dX6_rides_247 : decode cX6_rides 247 = .ok (.aload_n 0, 1) := by decide +kernel
theorem dX6_rides_248 : decode cX6_rides 248 = .ok (.getfield 7, 3) := by decide +kernel
theorem dX6_rides_251 : decode cX6_rides 251 = .ok (.iload_n 1, 1) := by decide +kernel
theorem dX6_rides_252 : decode cX6_rides 252 = .ok (.bipush 8, 2) := by decide +kernel
theorem dX6_rides_254 : decode cX6_rides 254 = .ok (.iadd, 1) := by decide +kernel
theorem dX6_rides_255 : decode cX6_rides 255 = .ok (.iload_n 2, 1) := by decide +kernel
theorem dX6_rides_256 : decode cX6_rides 256 = .ok (.iadd, 1) := by decide +kernel
theorem dX6_rides_257 : decode cX6_rides 257 = .ok (.dup2, 1) := by decide +kernel
theorem dX6_rides_258 : decode cX6_rides 258 = .ok (.iaload, 1) := by decide +kernel
theorem dX6_rides_259 : decode cX6_rides 259 = .ok (.iconst 1, 1) := by decide +kernel
theorem dX6_rides_260 : decode cX6_rides 260 = .ok (.iadd, 1) := by decide +kernel
theorem dX6_rides_261 : decode cX6_rides 261 = .ok (.iastore, 1) := by decide +kernel
theorem dX6_rides_262 : decode cX6_rides 262 = .ok (.return_, 1) := by decide +kernel
theorem dX6_thereIn_0 : decode cX6_thereIn 0 = .ok (.iconst 0, 1) := by decide +kernel
theorem dX6_thereIn_1 : decode cX6_thereIn 1 = .ok (.istore_n 2, 1) := by decide +kernel
theorem dX6_thereIn_2 : decode cX6_thereIn 2 = .ok (.iconst 0, 1) := by decide +kernel
theorem dX6_thereIn_3 : decode cX6_thereIn 3 = .ok (.istore_n 3, 1) := by decide +kernel
theorem dX6_thereIn_4 : decode cX6_thereIn 4 = .ok (.iload_n 3, 1) := by decide +kernel
theorem dX6_thereIn_5 : decode cX6_thereIn 5 = .ok (.aload_n 0, 1) := by decide +kernel
theorem dX6_thereIn_6 : decode cX6_thereIn 6 = .ok (.getfield 7, 3) := by decide +kernel
theorem dX6_thereIn_9 : decode cX6_thereIn 9 = .ok (.iload_n 1, 1) := by decide +kernel
theorem dX6_thereIn_10 : decode cX6_thereIn 10 = .ok (.bipush 22, 2) := by decide +kernel
theorem dX6_thereIn_12 : decode cX6_thereIn 12 = .ok (.iadd, 1) := by decide +kernel
theorem dX6_thereIn_13 : decode cX6_thereIn 13 = .ok (.iaload, 1) := by decide +kernel
theorem dX6_thereIn_14 : decode cX6_thereIn 14 = .ok (.if_icmp .ge 28, 3) := by decide +kernel
theorem dX6_thereIn_17 : decode cX6_thereIn 17 = .ok (.iload_n 2, 1) := by decide +kernel
theorem dX6_thereIn_18 : decode cX6_thereIn 18 = .ok (.aload_n 0, 1) := by decide +kernel
theorem dX6_thereIn_19 : decode cX6_thereIn 19 = .ok (.iload_n 1, 1) := by decide +kernel
theorem dX6_thereIn_20 : decode cX6_thereIn 20 = .ok (.iload_n 3, 1) := by decide +kernel
theorem dX6_thereIn_21 : decode cX6_thereIn 21 = .ok (.invokevirtual 54, 3) := by decide +kernel
theorem dX6_thereIn_24 : decode cX6_thereIn 24 = .ok (.ifCond .eq 9, 3) := by decide +kernel
theorem dX6_thereIn_27 : decode cX6_thereIn 27 = .ok (.iconst 1, 1) := by decide +kernel
theorem dX6_thereIn_28 : decode cX6_thereIn 28 = .ok (.iload_n 3, 1) := by decide +kernel
theorem dX6_thereIn_29 : decode cX6_thereIn 29 = .ok (.ishl, 1) := by decide +kernel
theorem dX6_thereIn_30 : decode cX6_thereIn 30 = .ok (.goto 4, 3) := by decide +kernel
theorem dX6_thereIn_33 : decode cX6_thereIn 33 = .ok (.iconst 0, 1) := by decide +kernel
theorem dX6_thereIn_34 : decode cX6_thereIn 34 = .ok (.ior, 1) := by decide +kernel
theorem dX6_thereIn_35 : decode cX6_thereIn 35 = .ok (.istore_n 2, 1) := by decide +kernel
theorem dX6_thereIn_36 : decode cX6_thereIn 36 = .ok (.iinc 3 1, 3) := by decide +kernel
theorem dX6_thereIn_39 : decode cX6_thereIn 39 = .ok (.goto (-35), 3) := by decide +kernel
theorem dX6_thereIn_42 : decode cX6_thereIn 42 = .ok (.iload_n 2, 1) := by decide +kernel
theorem dX6_thereIn_43 : decode cX6_thereIn 43 = .ok (.ireturn, 1) := by decide +kernel
theorem dX6_coinsOfAll_0 : decode cX6_coinsOfAll 0 = .ok (.iconst 0, 1) := by decide +kernel
theorem dX6_coinsOfAll_1 : decode cX6_coinsOfAll 1 = .ok (.istore_n 1, 1) := by decide +kernel
theorem dX6_coinsOfAll_2 : decode cX6_coinsOfAll 2 = .ok (.iconst 0, 1) := by decide +kernel
theorem dX6_coinsOfAll_3 : decode cX6_coinsOfAll 3 = .ok (.istore_n 2, 1) := by decide +kernel
theorem dX6_coinsOfAll_4 : decode cX6_coinsOfAll 4 = .ok (.iload_n 2, 1) := by decide +kernel
theorem dX6_coinsOfAll_5 : decode cX6_coinsOfAll 5 = .ok (.aload_n 0, 1) := by decide +kernel
theorem dX6_coinsOfAll_6 : decode cX6_coinsOfAll 6 = .ok (.getfield 7, 3) := by decide +kernel
theorem dX6_coinsOfAll_9 : decode cX6_coinsOfAll 9 = .ok (.bipush 22, 2) := by decide +kernel
theorem dX6_coinsOfAll_11 : decode cX6_coinsOfAll 11 = .ok (.iaload, 1) := by decide +kernel
theorem dX6_coinsOfAll_12 : decode cX6_coinsOfAll 12 = .ok (.if_icmp .ge 21, 3) := by decide +kernel
theorem dX6_coinsOfAll_15 : decode cX6_coinsOfAll 15 = .ok (.iload_n 1, 1) := by decide +kernel
theorem dX6_coinsOfAll_16 : decode cX6_coinsOfAll 16 = .ok (.aload_n 0, 1) := by decide +kernel
theorem dX6_coinsOfAll_17 : decode cX6_coinsOfAll 17 = .ok (.getfield 7, 3) := by decide +kernel
theorem dX6_coinsOfAll_20 : decode cX6_coinsOfAll 20 = .ok (.bipush 16, 2) := by decide +kernel
theorem dX6_coinsOfAll_22 : decode cX6_coinsOfAll 22 = .ok (.iload_n 2, 1) := by decide +kernel
theorem dX6_coinsOfAll_23 : decode cX6_coinsOfAll 23 = .ok (.iadd, 1) := by decide +kernel
theorem dX6_coinsOfAll_24 : decode cX6_coinsOfAll 24 = .ok (.iaload, 1) := by decide +kernel
theorem dX6_coinsOfAll_25 : decode cX6_coinsOfAll 25 = .ok (.iadd, 1) := by decide +kernel
theorem dX6_coinsOfAll_26 : decode cX6_coinsOfAll 26 = .ok (.istore_n 1, 1) := by decide +kernel
theorem dX6_coinsOfAll_27 : decode cX6_coinsOfAll 27 = .ok (.iinc 2 1, 3) := by decide +kernel
theorem dX6_coinsOfAll_30 : decode cX6_coinsOfAll 30 = .ok (.goto (-26), 3) := by decide +kernel
theorem dX6_coinsOfAll_33 : decode cX6_coinsOfAll 33 = .ok (.iload_n 1, 1) := by decide +kernel
theorem dX6_coinsOfAll_34 : decode cX6_coinsOfAll 34 = .ok (.ireturn, 1) := by decide +kernel
theorem dX6_horsesOfAll_0 : decode cX6_horsesOfAll 0 = .ok (.iconst 0, 1) := by decide +kernel
theorem dX6_horsesOfAll_1 : decode cX6_horsesOfAll 1 = .ok (.istore_n 1, 1) := by decide +kernel
theorem dX6_horsesOfAll_2 : decode cX6_horsesOfAll 2 = .ok (.iconst 0, 1) := by decide +kernel
theorem dX6_horsesOfAll_3 : decode cX6_horsesOfAll 3 = .ok (.istore_n 2, 1) := by decide +kernel
theorem dX6_horsesOfAll_4 : decode cX6_horsesOfAll 4 = .ok (.iload_n 2, 1) := by decide +kernel
theorem dX6_horsesOfAll_5 : decode cX6_horsesOfAll 5 = .ok (.aload_n 0, 1) := by decide +kernel
theorem dX6_horsesOfAll_6 : decode cX6_horsesOfAll 6 = .ok (.getfield 7, 3) := by decide +kernel
theorem dX6_horsesOfAll_9 : decode cX6_horsesOfAll 9 = .ok (.bipush 21, 2) := by decide +kernel
theorem dX6_horsesOfAll_11 : decode cX6_horsesOfAll 11 = .ok (.iaload, 1) := by decide +kernel
theorem dX6_horsesOfAll_12 : decode cX6_horsesOfAll 12 = .ok (.if_icmp .ge 20, 3) := by decide +kernel
theorem dX6_horsesOfAll_15 : decode cX6_horsesOfAll 15 = .ok (.iload_n 1, 1) := by decide +kernel
theorem dX6_horsesOfAll_16 : decode cX6_horsesOfAll 16 = .ok (.aload_n 0, 1) := by decide +kernel
theorem dX6_horsesOfAll_17 : decode cX6_horsesOfAll 17 = .ok (.getfield 7, 3) := by decide +kernel
theorem dX6_horsesOfAll_20 : decode cX6_horsesOfAll 20 = .ok (.iconst 0, 1) := by decide +kernel
theorem dX6_horsesOfAll_21 : decode cX6_horsesOfAll 21 = .ok (.iload_n 2, 1) := by decide +kernel
theorem dX6_horsesOfAll_22 : decode cX6_horsesOfAll 22 = .ok (.iadd, 1) := by decide +kernel
theorem dX6_horsesOfAll_23 : decode cX6_horsesOfAll 23 = .ok (.iaload, 1) := by decide +kernel
theorem dX6_horsesOfAll_24 : decode cX6_horsesOfAll 24 = .ok (.iadd, 1) := by decide +kernel
theorem dX6_horsesOfAll_25 : decode cX6_horsesOfAll 25 = .ok (.istore_n 1, 1) := by decide +kernel
theorem dX6_horsesOfAll_26 : decode cX6_horsesOfAll 26 = .ok (.iinc 2 1, 3) := by decide +kernel
theorem dX6_horsesOfAll_29 : decode cX6_horsesOfAll 29 = .ok (.goto (-25), 3) := by decide +kernel
theorem dX6_horsesOfAll_32 : decode cX6_horsesOfAll 32 = .ok (.iload_n 1, 1) := by decide +kernel
theorem dX6_horsesOfAll_33 : decode cX6_horsesOfAll 33 = .ok (.ireturn, 1) := by decide +kernel
theorem dX6_count_0 : decode cX6_count 0 = .ok (.iload_n 1, 1) := by decide +kernel
theorem dX6_count_1 : decode cX6_count 1 = .ok (.tableswitch 101 0 7 #[47, 55, 63, 71, 77, 83, 88, 93], 47) := by decide +kernel
theorem dX6_count_48 : decode cX6_count 48 = .ok (.aload_n 0, 1) := by decide +kernel
theorem dX6_count_49 : decode cX6_count 49 = .ok (.getfield 7, 3) := by decide +kernel
theorem dX6_count_52 : decode cX6_count 52 = .ok (.bipush 21, 2) := by decide +kernel
theorem dX6_count_54 : decode cX6_count 54 = .ok (.iaload, 1) := by decide +kernel
theorem dX6_count_55 : decode cX6_count 55 = .ok (.ireturn, 1) := by decide +kernel
theorem dX6_count_56 : decode cX6_count 56 = .ok (.aload_n 0, 1) := by decide +kernel
theorem dX6_count_57 : decode cX6_count 57 = .ok (.getfield 7, 3) := by decide +kernel
theorem dX6_count_60 : decode cX6_count 60 = .ok (.bipush 22, 2) := by decide +kernel
theorem dX6_count_62 : decode cX6_count 62 = .ok (.iaload, 1) := by decide +kernel
theorem dX6_count_63 : decode cX6_count 63 = .ok (.ireturn, 1) := by decide +kernel
theorem dX6_count_64 : decode cX6_count 64 = .ok (.aload_n 0, 1) := by decide +kernel
theorem dX6_count_65 : decode cX6_count 65 = .ok (.getfield 7, 3) := by decide +kernel
theorem dX6_count_68 : decode cX6_count 68 = .ok (.bipush 23, 2) := by decide +kernel
theorem dX6_count_70 : decode cX6_count 70 = .ok (.iaload, 1) := by decide +kernel
theorem dX6_count_71 : decode cX6_count 71 = .ok (.ireturn, 1) := by decide +kernel
theorem dX6_count_72 : decode cX6_count 72 = .ok (.aload_n 0, 1) := by decide +kernel
theorem dX6_count_73 : decode cX6_count 73 = .ok (.iconst 0, 1) := by decide +kernel
theorem dX6_count_74 : decode cX6_count 74 = .ok (.invokevirtual 125, 3) := by decide +kernel
theorem dX6_count_77 : decode cX6_count 77 = .ok (.ireturn, 1) := by decide +kernel
theorem dX6_count_78 : decode cX6_count 78 = .ok (.aload_n 0, 1) := by decide +kernel
theorem dX6_count_79 : decode cX6_count 79 = .ok (.iconst 0, 1) := by decide +kernel
theorem dX6_count_80 : decode cX6_count 80 = .ok (.invokevirtual 128, 3) := by decide +kernel
theorem dX6_count_83 : decode cX6_count 83 = .ok (.ireturn, 1) := by decide +kernel
theorem dX6_count_84 : decode cX6_count 84 = .ok (.aload_n 0, 1) := by decide +kernel
theorem dX6_count_85 : decode cX6_count 85 = .ok (.invokevirtual 131, 3) := by decide +kernel
theorem dX6_count_88 : decode cX6_count 88 = .ok (.ireturn, 1) := by decide +kernel
theorem dX6_count_89 : decode cX6_count 89 = .ok (.aload_n 0, 1) := by decide +kernel
theorem dX6_count_90 : decode cX6_count 90 = .ok (.invokevirtual 134, 3) := by decide +kernel
theorem dX6_count_93 : decode cX6_count 93 = .ok (.ireturn, 1) := by decide +kernel
theorem dX6_count_94 : decode cX6_count 94 = .ok (.aload_n 0, 1) := by decide +kernel
theorem dX6_count_95 : decode cX6_count 95 = .ok (.getfield 7, 3) := by decide +kernel
theorem dX6_count_98 : decode cX6_count 98 = .ok (.bipush 48, 2) := by decide +kernel
theorem dX6_count_100 : decode cX6_count 100 = .ok (.iaload, 1) := by decide +kernel
theorem dX6_count_101 : decode cX6_count 101 = .ok (.ireturn, 1) := by decide +kernel
theorem dX6_count_102 : decode cX6_count 102 = .ok (.iconst (-1), 1) := by decide +kernel
theorem dX6_count_103 : decode cX6_count 103 = .ok (.ireturn, 1) := by decide +kernel
theorem dX6_minds_0 : decode cX6_minds 0 = .ok (.aload_n 0, 1) := by decide +kernel
theorem dX6_minds_1 : decode cX6_minds 1 = .ok (.getfield 7, 3) := by decide +kernel
theorem dX6_minds_4 : decode cX6_minds 4 = .ok (.bipush 48, 2) := by decide +kernel
theorem dX6_minds_6 : decode cX6_minds 6 = .ok (.iaload, 1) := by decide +kernel
theorem dX6_minds_7 : decode cX6_minds 7 = .ok (.bipush 8, 2) := by decide +kernel
theorem dX6_minds_9 : decode cX6_minds 9 = .ok (.if_icmp .ne 25, 3) := by decide +kernel
theorem dX6_minds_12 : decode cX6_minds 12 = .ok (.aload_n 0, 1) := by decide +kernel
theorem dX6_minds_13 : decode cX6_minds 13 = .ok (.bipush 70, 2) := by decide +kernel
theorem dX6_minds_15 : decode cX6_minds 15 = .ok (.bipush 49, 2) := by decide +kernel
theorem dX6_minds_17 : decode cX6_minds 17 = .ok (.sipush 147, 3) := by decide +kernel
theorem dX6_minds_20 : decode cX6_minds 20 = .ok (.invokevirtual 118, 3) := by decide +kernel
theorem dX6_minds_23 : decode cX6_minds 23 = .ok (.aload_n 0, 1) := by decide +kernel
theorem dX6_minds_24 : decode cX6_minds 24 = .ok (.getfield 7, 3) := by decide +kernel
theorem dX6_minds_27 : decode cX6_minds 27 = .ok (.bipush 48, 2) := by decide +kernel
theorem dX6_minds_29 : decode cX6_minds 29 = .ok (.dup2, 1) := by decide +kernel
theorem dX6_minds_30 : decode cX6_minds 30 = .ok (.iaload, 1) := by decide +kernel
theorem dX6_minds_31 : decode cX6_minds 31 = .ok (.iconst 1, 1) := by decide +kernel
theorem dX6_minds_32 : decode cX6_minds 32 = .ok (.isub, 1) := by decide +kernel
theorem dX6_minds_33 : decode cX6_minds 33 = .ok (.iastore, 1) := by decide +kernel
theorem dX6_minds_34 : decode cX6_minds 34 = .ok (.aload_n 0, 1) := by decide +kernel
theorem dX6_minds_35 : decode cX6_minds 35 = .ok (.iconst 0, 1) := by decide +kernel
theorem dX6_minds_36 : decode cX6_minds 36 = .ok (.bipush 49, 2) := by decide +kernel
theorem dX6_minds_38 : decode cX6_minds 38 = .ok (.bipush 21, 2) := by decide +kernel
theorem dX6_minds_40 : decode cX6_minds 40 = .ok (.aload_n 0, 1) := by decide +kernel
theorem dX6_minds_41 : decode cX6_minds 41 = .ok (.getfield 7, 3) := by decide +kernel
theorem dX6_minds_44 : decode cX6_minds 44 = .ok (.bipush 48, 2) := by decide +kernel
theorem dX6_minds_46 : decode cX6_minds 46 = .ok (.iaload, 1) := by decide +kernel
theorem dX6_minds_47 : decode cX6_minds 47 = .ok (.imul, 1) := by decide +kernel
theorem dX6_minds_48 : decode cX6_minds 48 = .ok (.iadd, 1) := by decide +kernel
theorem dX6_minds_49 : decode cX6_minds 49 = .ok (.bipush 21, 2) := by decide +kernel
theorem dX6_minds_51 : decode cX6_minds 51 = .ok (.invokevirtual 118, 3) := by decide +kernel
theorem dX6_minds_54 : decode cX6_minds 54 = .ok (.aload_n 0, 1) := by decide +kernel
theorem dX6_minds_55 : decode cX6_minds 55 = .ok (.getfield 7, 3) := by decide +kernel
theorem dX6_minds_58 : decode cX6_minds 58 = .ok (.bipush 48, 2) := by decide +kernel
theorem dX6_minds_60 : decode cX6_minds 60 = .ok (.dup2, 1) := by decide +kernel
theorem dX6_minds_61 : decode cX6_minds 61 = .ok (.iaload, 1) := by decide +kernel
theorem dX6_minds_62 : decode cX6_minds 62 = .ok (.iconst 1, 1) := by decide +kernel
theorem dX6_minds_63 : decode cX6_minds 63 = .ok (.iadd, 1) := by decide +kernel
theorem dX6_minds_64 : decode cX6_minds 64 = .ok (.iastore, 1) := by decide +kernel
theorem dX6_minds_65 : decode cX6_minds 65 = .ok (.return_, 1) := by decide +kernel
theorem dX6_ride_0 : decode cX6_ride 0 = .ok (.iload_n 1, 1) := by decide +kernel
theorem dX6_ride_1 : decode cX6_ride 1 = .ok (.i2l, 1) := by decide +kernel
theorem dX6_ride_2 : decode cX6_ride 2 = .ok (.lconst 1, 1) := by decide +kernel
theorem dX6_ride_3 : decode cX6_ride 3 = .ok (.ldc2_w 66, 3) := by decide +kernel
theorem dX6_ride_6 : decode cX6_ride 6 = .ok (.invokestatic 38, 3) := by decide +kernel
theorem dX6_ride_9 : decode cX6_ride 9 = .ok (.ifCond .ne 5, 3) := by decide +kernel
theorem dX6_ride_12 : decode cX6_ride 12 = .ok (.iconst (-1), 1) := by decide +kernel
theorem dX6_ride_13 : decode cX6_ride 13 = .ok (.ireturn, 1) := by decide +kernel
theorem dX6_ride_14 : decode cX6_ride 14 = .ok (.aload_n 0, 1) := by decide +kernel
theorem dX6_ride_15 : decode cX6_ride 15 = .ok (.iconst 0, 1) := by decide +kernel
theorem dX6_ride_16 : decode cX6_ride 16 = .ok (.invokevirtual 128, 3) := by decide +kernel
theorem dX6_ride_19 : decode cX6_ride 19 = .ok (.bipush (-4), 2) := by decide +kernel
theorem dX6_ride_21 : decode cX6_ride 21 = .ok (.if_icmp .ne 6, 3) := by decide +kernel
theorem dX6_ride_24 : decode cX6_ride 24 = .ok (.bipush (-2), 2) := by decide +kernel
theorem dX6_ride_26 : decode cX6_ride 26 = .ok (.ireturn, 1) := by decide +kernel
theorem dX6_ride_27 : decode cX6_ride 27 = .ok (.iconst 0, 1) := by decide +kernel
theorem dX6_ride_28 : decode cX6_ride 28 = .ok (.istore_n 2, 1) := by decide +kernel
theorem dX6_ride_29 : decode cX6_ride 29 = .ok (.iload_n 2, 1) := by decide +kernel
theorem dX6_ride_30 : decode cX6_ride 30 = .ok (.iload_n 1, 1) := by decide +kernel
theorem dX6_ride_31 : decode cX6_ride 31 = .ok (.if_icmp .ge 33, 3) := by decide +kernel
theorem dX6_ride_34 : decode cX6_ride 34 = .ok (.aload_n 0, 1) := by decide +kernel
theorem dX6_ride_35 : decode cX6_ride 35 = .ok (.iconst 0, 1) := by decide +kernel
theorem dX6_ride_36 : decode cX6_ride 36 = .ok (.invokevirtual 128, 3) := by decide +kernel
theorem dX6_ride_39 : decode cX6_ride 39 = .ok (.bipush (-4), 2) := by decide +kernel
theorem dX6_ride_41 : decode cX6_ride 41 = .ok (.if_icmp .eq 23, 3) := by decide +kernel
theorem dX6_ride_44 : decode cX6_ride 44 = .ok (.aload_n 0, 1) := by decide +kernel
theorem dX6_ride_45 : decode cX6_ride 45 = .ok (.invokevirtual 137, 3) := by decide +kernel
theorem dX6_ride_48 : decode cX6_ride 48 = .ok (.aload_n 0, 1) := by decide +kernel
theorem dX6_ride_49 : decode cX6_ride 49 = .ok (.iconst 0, 1) := by decide +kernel
theorem dX6_ride_50 : decode cX6_ride 50 = .ok (.aload_n 0, 1) := by decide +kernel
theorem dX6_ride_51 : decode cX6_ride 51 = .ok (.iconst 0, 1) := by decide +kernel
theorem dX6_ride_52 : decode cX6_ride 52 = .ok (.invokevirtual 128, 3) := by decide +kernel
theorem dX6_ride_55 : decode cX6_ride 55 = .ok (.invokevirtual 140, 3) := by decide +kernel
theorem dX6_ride_58 : decode cX6_ride 58 = .ok (.iinc 2 1, 3) := by decide +kernel
theorem dX6_ride_61 : decode cX6_ride 61 = .ok (.goto (-32), 3) := by decide +kernel
theorem dX6_ride_64 : decode cX6_ride 64 = .ok (.iload_n 2, 1) := by decide +kernel
theorem dX6_ride_65 : decode cX6_ride 65 = .ok (.ireturn, 1) := by decide +kernel
theorem dX6_wheel_0 : decode cX6_wheel 0 = .ok (.aload_n 0, 1) := by decide +kernel
theorem dX6_wheel_1 : decode cX6_wheel 1 = .ok (.iload_n 1, 1) := by decide +kernel
theorem dX6_wheel_2 : decode cX6_wheel 2 = .ok (.invokevirtual 42, 3) := by decide +kernel
theorem dX6_wheel_5 : decode cX6_wheel 5 = .ok (.ifCond .ne 5, 3) := by decide +kernel
theorem dX6_wheel_8 : decode cX6_wheel 8 = .ok (.iconst (-1), 1) := by decide +kernel
theorem dX6_wheel_9 : decode cX6_wheel 9 = .ok (.ireturn, 1) := by decide +kernel
theorem dX6_wheel_10 : decode cX6_wheel 10 = .ok (.aload_n 0, 1) := by decide +kernel
theorem dX6_wheel_11 : decode cX6_wheel 11 = .ok (.iconst 0, 1) := by decide +kernel
theorem dX6_wheel_12 : decode cX6_wheel 12 = .ok (.iload_n 1, 1) := by decide +kernel
theorem dX6_wheel_13 : decode cX6_wheel 13 = .ok (.invokevirtual 54, 3) := by decide +kernel
theorem dX6_wheel_16 : decode cX6_wheel 16 = .ok (.ifCond .eq 6, 3) := by decide +kernel
theorem dX6_wheel_19 : decode cX6_wheel 19 = .ok (.bipush (-2), 2) := by decide +kernel
theorem dX6_wheel_21 : decode cX6_wheel 21 = .ok (.ireturn, 1) := by decide +kernel
theorem dX6_wheel_22 : decode cX6_wheel 22 = .ok (.aload_n 0, 1) := by decide +kernel
theorem dX6_wheel_23 : decode cX6_wheel 23 = .ok (.invokevirtual 137, 3) := by decide +kernel
theorem dX6_wheel_26 : decode cX6_wheel 26 = .ok (.aload_n 0, 1) := by decide +kernel
theorem dX6_wheel_27 : decode cX6_wheel 27 = .ok (.getfield 7, 3) := by decide +kernel
theorem dX6_wheel_30 : decode cX6_wheel 30 = .ok (.bipush 12, 2) := by decide +kernel
theorem dX6_wheel_32 : decode cX6_wheel 32 = .ok (.iload_n 1, 1) := by decide +kernel
theorem dX6_wheel_33 : decode cX6_wheel 33 = .ok (.iadd, 1) := by decide +kernel
theorem dX6_wheel_34 : decode cX6_wheel 34 = .ok (.dup2, 1) := by decide +kernel
theorem dX6_wheel_35 : decode cX6_wheel 35 = .ok (.iaload, 1) := by decide +kernel
theorem dX6_wheel_36 : decode cX6_wheel 36 = .ok (.bipush 30, 2) := by decide +kernel
theorem dX6_wheel_38 : decode cX6_wheel 38 = .ok (.iadd, 1) := by decide +kernel
theorem dX6_wheel_39 : decode cX6_wheel 39 = .ok (.iastore, 1) := by decide +kernel
theorem dX6_wheel_40 : decode cX6_wheel 40 = .ok (.aload_n 0, 1) := by decide +kernel
theorem dX6_wheel_41 : decode cX6_wheel 41 = .ok (.getfield 7, 3) := by decide +kernel
theorem dX6_wheel_44 : decode cX6_wheel 44 = .ok (.bipush 12, 2) := by decide +kernel
theorem dX6_wheel_46 : decode cX6_wheel 46 = .ok (.iload_n 1, 1) := by decide +kernel
theorem dX6_wheel_47 : decode cX6_wheel 47 = .ok (.iadd, 1) := by decide +kernel
theorem dX6_wheel_48 : decode cX6_wheel 48 = .ok (.iaload, 1) := by decide +kernel
theorem dX6_wheel_49 : decode cX6_wheel 49 = .ok (.ireturn, 1) := by decide +kernel
theorem dX6_give_0 : decode cX6_give 0 = .ok (.aload_n 0, 1) := by decide +kernel
theorem dX6_give_1 : decode cX6_give 1 = .ok (.iload_n 1, 1) := by decide +kernel
theorem dX6_give_2 : decode cX6_give 2 = .ok (.iload_n 2, 1) := by decide +kernel
theorem dX6_give_3 : decode cX6_give 3 = .ok (.invokevirtual 144, 3) := by decide +kernel
theorem dX6_give_6 : decode cX6_give 6 = .ok (.ifCond .eq 15, 3) := by decide +kernel
theorem dX6_give_9 : decode cX6_give 9 = .ok (.iload_n 3, 1) := by decide +kernel
theorem dX6_give_10 : decode cX6_give 10 = .ok (.i2l, 1) := by decide +kernel
theorem dX6_give_11 : decode cX6_give 11 = .ok (.lconst 1, 1) := by decide +kernel
theorem dX6_give_12 : decode cX6_give 12 = .ok (.ldc2_w 52, 3) := by decide +kernel
theorem dX6_give_15 : decode cX6_give 15 = .ok (.invokestatic 38, 3) := by decide +kernel
theorem dX6_give_18 : decode cX6_give 18 = .ok (.ifCond .ne 5, 3) := by decide +kernel
theorem dX6_give_21 : decode cX6_give 21 = .ok (.iconst (-1), 1) := by decide +kernel
theorem dX6_give_22 : decode cX6_give 22 = .ok (.ireturn, 1) := by decide +kernel
theorem dX6_give_23 : decode cX6_give 23 = .ok (.aload_n 0, 1) := by decide +kernel
theorem dX6_give_24 : decode cX6_give 24 = .ok (.getfield 7, 3) := by decide +kernel
theorem dX6_give_27 : decode cX6_give 27 = .ok (.bipush 16, 2) := by decide +kernel
theorem dX6_give_29 : decode cX6_give 29 = .ok (.iload_n 1, 1) := by decide +kernel
theorem dX6_give_30 : decode cX6_give 30 = .ok (.iadd, 1) := by decide +kernel
theorem dX6_give_31 : decode cX6_give 31 = .ok (.iaload, 1) := by decide +kernel
theorem dX6_give_32 : decode cX6_give 32 = .ok (.iload_n 3, 1) := by decide +kernel
theorem dX6_give_33 : decode cX6_give 33 = .ok (.if_icmp .ge 6, 3) := by decide +kernel
theorem dX6_give_36 : decode cX6_give 36 = .ok (.bipush (-2), 2) := by decide +kernel
theorem dX6_give_38 : decode cX6_give 38 = .ok (.ireturn, 1) := by decide +kernel
theorem dX6_give_39 : decode cX6_give 39 = .ok (.aload_n 0, 1) := by decide +kernel
theorem dX6_give_40 : decode cX6_give 40 = .ok (.invokevirtual 137, 3) := by decide +kernel
theorem dX6_give_43 : decode cX6_give 43 = .ok (.aload_n 0, 1) := by decide +kernel
theorem dX6_give_44 : decode cX6_give 44 = .ok (.getfield 7, 3) := by decide +kernel
theorem dX6_give_47 : decode cX6_give 47 = .ok (.bipush 16, 2) := by decide +kernel
theorem dX6_give_49 : decode cX6_give 49 = .ok (.iload_n 1, 1) := by decide +kernel
theorem dX6_give_50 : decode cX6_give 50 = .ok (.iadd, 1) := by decide +kernel
theorem dX6_give_51 : decode cX6_give 51 = .ok (.dup2, 1) := by decide +kernel
theorem dX6_give_52 : decode cX6_give 52 = .ok (.iaload, 1) := by decide +kernel
theorem dX6_give_53 : decode cX6_give 53 = .ok (.iload_n 3, 1) := by decide +kernel
theorem dX6_give_54 : decode cX6_give 54 = .ok (.isub, 1) := by decide +kernel
theorem dX6_give_55 : decode cX6_give 55 = .ok (.iastore, 1) := by decide +kernel
theorem dX6_give_56 : decode cX6_give 56 = .ok (.aload_n 0, 1) := by decide +kernel
theorem dX6_give_57 : decode cX6_give 57 = .ok (.getfield 7, 3) := by decide +kernel
theorem dX6_give_60 : decode cX6_give 60 = .ok (.bipush 16, 2) := by decide +kernel
theorem dX6_give_62 : decode cX6_give 62 = .ok (.iload_n 2, 1) := by decide +kernel
theorem dX6_give_63 : decode cX6_give 63 = .ok (.iadd, 1) := by decide +kernel
theorem dX6_give_64 : decode cX6_give 64 = .ok (.aload_n 0, 1) := by decide +kernel
theorem dX6_give_65 : decode cX6_give 65 = .ok (.getfield 7, 3) := by decide +kernel
theorem dX6_give_68 : decode cX6_give 68 = .ok (.bipush 16, 2) := by decide +kernel
theorem dX6_give_70 : decode cX6_give 70 = .ok (.iload_n 2, 1) := by decide +kernel
theorem dX6_give_71 : decode cX6_give 71 = .ok (.iadd, 1) := by decide +kernel
theorem dX6_give_72 : decode cX6_give 72 = .ok (.iaload, 1) := by decide +kernel
theorem dX6_give_73 : decode cX6_give 73 = .ok (.iload_n 3, 1) := by decide +kernel
theorem dX6_give_74 : decode cX6_give 74 = .ok (.iadd, 1) := by decide +kernel
theorem dX6_give_75 : decode cX6_give 75 = .ok (.bipush 99, 2) := by decide +kernel
theorem dX6_give_77 : decode cX6_give 77 = .ok (.if_icmp .le 8, 3) := by decide +kernel
theorem dX6_give_80 : decode cX6_give 80 = .ok (.bipush 99, 2) := by decide +kernel
theorem dX6_give_82 : decode cX6_give 82 = .ok (.goto 14, 3) := by decide +kernel
theorem dX6_give_85 : decode cX6_give 85 = .ok (.aload_n 0, 1) := by decide +kernel
theorem dX6_give_86 : decode cX6_give 86 = .ok (.getfield 7, 3) := by decide +kernel
theorem dX6_give_89 : decode cX6_give 89 = .ok (.bipush 16, 2) := by decide +kernel
theorem dX6_give_91 : decode cX6_give 91 = .ok (.iload_n 2, 1) := by decide +kernel
theorem dX6_give_92 : decode cX6_give 92 = .ok (.iadd, 1) := by decide +kernel
theorem dX6_give_93 : decode cX6_give 93 = .ok (.iaload, 1) := by decide +kernel
theorem dX6_give_94 : decode cX6_give 94 = .ok (.iload_n 3, 1) := by decide +kernel
theorem dX6_give_95 : decode cX6_give 95 = .ok (.iadd, 1) := by decide +kernel
theorem dX6_give_96 : decode cX6_give 96 = .ok (.iastore, 1) := by decide +kernel
theorem dX6_give_97 : decode cX6_give 97 = .ok (.aload_n 0, 1) := by decide +kernel
theorem dX6_give_98 : decode cX6_give 98 = .ok (.getfield 7, 3) := by decide +kernel
theorem dX6_give_101 : decode cX6_give 101 = .ok (.bipush 16, 2) := by decide +kernel
theorem dX6_give_103 : decode cX6_give 103 = .ok (.iload_n 2, 1) := by decide +kernel
theorem dX6_give_104 : decode cX6_give 104 = .ok (.iadd, 1) := by decide +kernel
theorem dX6_give_105 : decode cX6_give 105 = .ok (.iaload, 1) := by decide +kernel
theorem dX6_give_106 : decode cX6_give 106 = .ok (.ireturn, 1) := by decide +kernel
theorem dX6_drift_0 : decode cX6_drift 0 = .ok (.iload_n 1, 1) := by decide +kernel
theorem dX6_drift_1 : decode cX6_drift 1 = .ok (.i2l, 1) := by decide +kernel
theorem dX6_drift_2 : decode cX6_drift 2 = .ok (.lconst 1, 1) := by decide +kernel
theorem dX6_drift_3 : decode cX6_drift 3 = .ok (.ldc2_w 66, 3) := by decide +kernel
theorem dX6_drift_6 : decode cX6_drift 6 = .ok (.invokestatic 38, 3) := by decide +kernel
theorem dX6_drift_9 : decode cX6_drift 9 = .ok (.ifCond .ne 5, 3) := by decide +kernel
theorem dX6_drift_12 : decode cX6_drift 12 = .ok (.iconst (-1), 1) := by decide +kernel
theorem dX6_drift_13 : decode cX6_drift 13 = .ok (.ireturn, 1) := by decide +kernel
theorem dX6_drift_14 : decode cX6_drift 14 = .ok (.aload_n 0, 1) := by decide +kernel
theorem dX6_drift_15 : decode cX6_drift 15 = .ok (.iconst 0, 1) := by decide +kernel
theorem dX6_drift_16 : decode cX6_drift 16 = .ok (.invokevirtual 128, 3) := by decide +kernel
theorem dX6_drift_19 : decode cX6_drift 19 = .ok (.bipush (-4), 2) := by decide +kernel
theorem dX6_drift_21 : decode cX6_drift 21 = .ok (.if_icmp .ne 6, 3) := by decide +kernel
theorem dX6_drift_24 : decode cX6_drift 24 = .ok (.bipush (-2), 2) := by decide +kernel
theorem dX6_drift_26 : decode cX6_drift 26 = .ok (.ireturn, 1) := by decide +kernel
theorem dX6_drift_27 : decode cX6_drift 27 = .ok (.iconst 0, 1) := by decide +kernel
theorem dX6_drift_28 : decode cX6_drift 28 = .ok (.istore_n 2, 1) := by decide +kernel
theorem dX6_drift_29 : decode cX6_drift 29 = .ok (.iconst 0, 1) := by decide +kernel
theorem dX6_drift_30 : decode cX6_drift 30 = .ok (.istore_n 3, 1) := by decide +kernel
theorem dX6_drift_31 : decode cX6_drift 31 = .ok (.iload_n 3, 1) := by decide +kernel
theorem dX6_drift_32 : decode cX6_drift 32 = .ok (.iload_n 1, 1) := by decide +kernel
theorem dX6_drift_33 : decode cX6_drift 33 = .ok (.if_icmp .ge 121, 3) := by decide +kernel
theorem dX6_drift_36 : decode cX6_drift 36 = .ok (.aload_n 0, 1) := by decide +kernel
theorem dX6_drift_37 : decode cX6_drift 37 = .ok (.iconst 0, 1) := by decide +kernel
theorem dX6_drift_38 : decode cX6_drift 38 = .ok (.invokevirtual 128, 3) := by decide +kernel
theorem dX6_drift_41 : decode cX6_drift 41 = .ok (.bipush (-4), 2) := by decide +kernel
theorem dX6_drift_43 : decode cX6_drift 43 = .ok (.if_icmp .eq 111, 3) := by decide +kernel
theorem dX6_drift_46 : decode cX6_drift 46 = .ok (.aload_n 0, 1) := by decide +kernel
theorem dX6_drift_47 : decode cX6_drift 47 = .ok (.invokevirtual 137, 3) := by decide +kernel
theorem dX6_drift_50 : decode cX6_drift 50 = .ok (.aload_n 0, 1) := by decide +kernel
theorem dX6_drift_51 : decode cX6_drift 51 = .ok (.getfield 7, 3) := by decide +kernel
theorem dX6_drift_54 : decode cX6_drift 54 = .ok (.bipush 20, 2) := by decide +kernel
theorem dX6_drift_56 : decode cX6_drift 56 = .ok (.aload_n 0, 1) := by decide +kernel
theorem dX6_drift_57 : decode cX6_drift 57 = .ok (.getfield 7, 3) := by decide +kernel
theorem dX6_drift_60 : decode cX6_drift 60 = .ok (.bipush 20, 2) := by decide +kernel
theorem dX6_drift_62 : decode cX6_drift 62 = .ok (.iaload, 1) := by decide +kernel
theorem dX6_drift_63 : decode cX6_drift 63 = .ok (.ldc 147, 2) := by decide +kernel
theorem dX6_drift_65 : decode cX6_drift 65 = .ok (.imul, 1) := by decide +kernel
theorem dX6_drift_66 : decode cX6_drift 66 = .ok (.sipush 12345, 3) := by decide +kernel
theorem dX6_drift_69 : decode cX6_drift 69 = .ok (.iadd, 1) := by decide +kernel
theorem dX6_drift_70 : decode cX6_drift 70 = .ok (.ldc 148, 2) := by decide +kernel
theorem dX6_drift_72 : decode cX6_drift 72 = .ok (.iand, 1) := by decide +kernel
theorem dX6_drift_73 : decode cX6_drift 73 = .ok (.iastore, 1) := by decide +kernel
theorem dX6_drift_74 : decode cX6_drift 74 = .ok (.aload_n 0, 1) := by decide +kernel
theorem dX6_drift_75 : decode cX6_drift 75 = .ok (.iconst 0, 1) := by decide +kernel
theorem dX6_drift_76 : decode cX6_drift 76 = .ok (.invokevirtual 128, 3) := by decide +kernel
theorem dX6_drift_79 : decode cX6_drift 79 = .ok (.istore 4, 2) := by decide +kernel
theorem dX6_drift_81 : decode cX6_drift 81 = .ok (.aload_n 0, 1) := by decide +kernel
theorem dX6_drift_82 : decode cX6_drift 82 = .ok (.getfield 7, 3) := by decide +kernel
theorem dX6_drift_85 : decode cX6_drift 85 = .ok (.bipush 20, 2) := by decide +kernel
theorem dX6_drift_87 : decode cX6_drift 87 = .ok (.iaload, 1) := by decide +kernel
theorem dX6_drift_88 : decode cX6_drift 88 = .ok (.ldc 149, 2) := by decide +kernel
theorem dX6_drift_90 : decode cX6_drift 90 = .ok (.idiv, 1) := by decide +kernel
theorem dX6_drift_91 : decode cX6_drift 91 = .ok (.bipush 6, 2) := by decide +kernel
theorem dX6_drift_93 : decode cX6_drift 93 = .ok (.irem, 1) := by decide +kernel
theorem dX6_drift_94 : decode cX6_drift 94 = .ok (.ifCond .ne 7, 3) := by decide +kernel
theorem dX6_drift_97 : decode cX6_drift 97 = .ok (.iconst 1, 1) := by decide +kernel
theorem dX6_drift_98 : decode cX6_drift 98 = .ok (.goto 4, 3) := by decide +kernel
theorem dX6_drift_101 : decode cX6_drift 101 = .ok (.iconst 0, 1) := by decide +kernel
theorem dX6_drift_102 : decode cX6_drift 102 = .ok (.istore 5, 2) := by decide +kernel
theorem dX6_drift_104 : decode cX6_drift 104 = .ok (.aload_n 0, 1) := by decide +kernel
theorem dX6_drift_105 : decode cX6_drift 105 = .ok (.iconst 0, 1) := by decide +kernel
theorem dX6_drift_106 : decode cX6_drift 106 = .ok (.iload 4, 2) := by decide +kernel
theorem dX6_drift_108 : decode cX6_drift 108 = .ok (.invokevirtual 140, 3) := by decide +kernel
theorem dX6_drift_111 : decode cX6_drift 111 = .ok (.aload_n 0, 1) := by decide +kernel
theorem dX6_drift_112 : decode cX6_drift 112 = .ok (.getfield 7, 3) := by decide +kernel
theorem dX6_drift_115 : decode cX6_drift 115 = .ok (.bipush 12, 2) := by decide +kernel
theorem dX6_drift_117 : decode cX6_drift 117 = .ok (.iload 4, 2) := by decide +kernel
theorem dX6_drift_119 : decode cX6_drift 119 = .ok (.iadd, 1) := by decide +kernel
theorem dX6_drift_120 : decode cX6_drift 120 = .ok (.dup2, 1) := by decide +kernel
theorem dX6_drift_121 : decode cX6_drift 121 = .ok (.iaload, 1) := by decide +kernel
theorem dX6_drift_122 : decode cX6_drift 122 = .ok (.iload 5, 2) := by decide +kernel
theorem dX6_drift_124 : decode cX6_drift 124 = .ok (.ifCond .eq 8, 3) := by decide +kernel
theorem dX6_drift_127 : decode cX6_drift 127 = .ok (.bipush 30, 2) := by decide +kernel
theorem dX6_drift_129 : decode cX6_drift 129 = .ok (.goto 4, 3) := by decide +kernel
theorem dX6_drift_132 : decode cX6_drift 132 = .ok (.iconst 0, 1) := by decide +kernel
theorem dX6_drift_133 : decode cX6_drift 133 = .ok (.iadd, 1) := by decide +kernel
theorem dX6_drift_134 : decode cX6_drift 134 = .ok (.iastore, 1) := by decide +kernel
theorem dX6_drift_135 : decode cX6_drift 135 = .ok (.iload_n 2, 1) := by decide +kernel
theorem dX6_drift_136 : decode cX6_drift 136 = .ok (.iload 5, 2) := by decide +kernel
theorem dX6_drift_138 : decode cX6_drift 138 = .ok (.ifCond .eq 7, 3) := by decide +kernel
theorem dX6_drift_141 : decode cX6_drift 141 = .ok (.iconst 1, 1) := by decide +kernel
theorem dX6_drift_142 : decode cX6_drift 142 = .ok (.goto 4, 3) := by decide +kernel
theorem dX6_drift_145 : decode cX6_drift 145 = .ok (.iconst 0, 1) := by decide +kernel
theorem dX6_drift_146 : decode cX6_drift 146 = .ok (.iadd, 1) := by decide +kernel
theorem dX6_drift_147 : decode cX6_drift 147 = .ok (.istore_n 2, 1) := by decide +kernel
theorem dX6_drift_148 : decode cX6_drift 148 = .ok (.iinc 3 1, 3) := by decide +kernel
theorem dX6_drift_151 : decode cX6_drift 151 = .ok (.goto (-120), 3) := by decide +kernel
theorem dX6_drift_154 : decode cX6_drift 154 = .ok (.iload_n 2, 1) := by decide +kernel
theorem dX6_drift_155 : decode cX6_drift 155 = .ok (.ireturn, 1) := by decide +kernel
theorem dX6_undo_0 : decode cX6_undo 0 = .ok (.aload_n 0, 1) := by decide +kernel
theorem dX6_undo_1 : decode cX6_undo 1 = .ok (.getfield 7, 3) := by decide +kernel
theorem dX6_undo_4 : decode cX6_undo 4 = .ok (.bipush 48, 2) := by decide +kernel
theorem dX6_undo_6 : decode cX6_undo 6 = .ok (.iaload, 1) := by decide +kernel
theorem dX6_undo_7 : decode cX6_undo 7 = .ok (.ifCond .ne 6, 3) := by decide +kernel
theorem dX6_undo_10 : decode cX6_undo 10 = .ok (.bipush (-4), 2) := by decide +kernel
theorem dX6_undo_12 : decode cX6_undo 12 = .ok (.ireturn, 1) := by decide +kernel
theorem dX6_undo_13 : decode cX6_undo 13 = .ok (.aload_n 0, 1) := by decide +kernel
theorem dX6_undo_14 : decode cX6_undo 14 = .ok (.getfield 7, 3) := by decide +kernel
theorem dX6_undo_17 : decode cX6_undo 17 = .ok (.bipush 48, 2) := by decide +kernel
theorem dX6_undo_19 : decode cX6_undo 19 = .ok (.dup2, 1) := by decide +kernel
theorem dX6_undo_20 : decode cX6_undo 20 = .ok (.iaload, 1) := by decide +kernel
theorem dX6_undo_21 : decode cX6_undo 21 = .ok (.iconst 1, 1) := by decide +kernel
theorem dX6_undo_22 : decode cX6_undo 22 = .ok (.isub, 1) := by decide +kernel
theorem dX6_undo_23 : decode cX6_undo 23 = .ok (.iastore, 1) := by decide +kernel
theorem dX6_undo_24 : decode cX6_undo 24 = .ok (.aload_n 0, 1) := by decide +kernel
theorem dX6_undo_25 : decode cX6_undo 25 = .ok (.bipush 49, 2) := by decide +kernel
theorem dX6_undo_27 : decode cX6_undo 27 = .ok (.bipush 21, 2) := by decide +kernel
theorem dX6_undo_29 : decode cX6_undo 29 = .ok (.aload_n 0, 1) := by decide +kernel
theorem dX6_undo_30 : decode cX6_undo 30 = .ok (.getfield 7, 3) := by decide +kernel
theorem dX6_undo_33 : decode cX6_undo 33 = .ok (.bipush 48, 2) := by decide +kernel
theorem dX6_undo_35 : decode cX6_undo 35 = .ok (.iaload, 1) := by decide +kernel
theorem dX6_undo_36 : decode cX6_undo 36 = .ok (.imul, 1) := by decide +kernel
theorem dX6_undo_37 : decode cX6_undo 37 = .ok (.iadd, 1) := by decide +kernel
theorem dX6_undo_38 : decode cX6_undo 38 = .ok (.iconst 0, 1) := by decide +kernel
theorem dX6_undo_39 : decode cX6_undo 39 = .ok (.bipush 21, 2) := by decide +kernel
theorem dX6_undo_41 : decode cX6_undo 41 = .ok (.invokevirtual 118, 3) := by decide +kernel
theorem dX6_undo_44 : decode cX6_undo 44 = .ok (.aload_n 0, 1) := by decide +kernel
theorem dX6_undo_45 : decode cX6_undo 45 = .ok (.getfield 7, 3) := by decide +kernel
theorem dX6_undo_48 : decode cX6_undo 48 = .ok (.bipush 48, 2) := by decide +kernel
theorem dX6_undo_50 : decode cX6_undo 50 = .ok (.iaload, 1) := by decide +kernel
theorem dX6_undo_51 : decode cX6_undo 51 = .ok (.ireturn, 1) := by decide +kernel
theorem dX6_seed_0 : decode cX6_seed 0 = .ok (.iload_n 1, 1) := by decide +kernel
theorem dX6_seed_1 : decode cX6_seed 1 = .ok (.ifCond .ge 5, 3) := by decide +kernel
theorem dX6_seed_4 : decode cX6_seed 4 = .ok (.iconst (-1), 1) := by decide +kernel
theorem dX6_seed_5 : decode cX6_seed 5 = .ok (.ireturn, 1) := by decide +kernel
theorem dX6_seed_6 : decode cX6_seed 6 = .ok (.aload_n 0, 1) := by decide +kernel
theorem dX6_seed_7 : decode cX6_seed 7 = .ok (.getfield 7, 3) := by decide +kernel
theorem dX6_seed_10 : decode cX6_seed 10 = .ok (.bipush 20, 2) := by decide +kernel
theorem dX6_seed_12 : decode cX6_seed 12 = .ok (.iaload, 1) := by decide +kernel
theorem dX6_seed_13 : decode cX6_seed 13 = .ok (.istore_n 2, 1) := by decide +kernel
theorem dX6_seed_14 : decode cX6_seed 14 = .ok (.aload_n 0, 1) := by decide +kernel
theorem dX6_seed_15 : decode cX6_seed 15 = .ok (.getfield 7, 3) := by decide +kernel
theorem dX6_seed_18 : decode cX6_seed 18 = .ok (.bipush 20, 2) := by decide +kernel
theorem dX6_seed_20 : decode cX6_seed 20 = .ok (.iload_n 1, 1) := by decide +kernel
theorem dX6_seed_21 : decode cX6_seed 21 = .ok (.iastore, 1) := by decide +kernel
theorem dX6_seed_22 : decode cX6_seed 22 = .ok (.iload_n 2, 1) := by decide +kernel
theorem dX6_seed_23 : decode cX6_seed 23 = .ok (.ireturn, 1) := by decide +kernel
theorem dX6_tries_0 : decode cX6_tries 0 = .ok (.aload_n 0, 1) := by decide +kernel
theorem dX6_tries_1 : decode cX6_tries 1 = .ok (.iconst 0, 1) := by decide +kernel
theorem dX6_tries_2 : decode cX6_tries 2 = .ok (.sipush 434, 3) := by decide +kernel
theorem dX6_tries_5 : decode cX6_tries 5 = .ok (.bipush 49, 2) := by decide +kernel
theorem dX6_tries_7 : decode cX6_tries 7 = .ok (.invokevirtual 118, 3) := by decide +kernel
theorem dX6_tries_10 : decode cX6_tries 10 = .ok (.return_, 1) := by decide +kernel
theorem dX6_ridesOn_0 : decode cX6_ridesOn 0 = .ok (.iconst 0, 1) := by decide +kernel
theorem dX6_ridesOn_1 : decode cX6_ridesOn 1 = .ok (.istore_n 3, 1) := by decide +kernel
theorem dX6_ridesOn_2 : decode cX6_ridesOn 2 = .ok (.iload_n 3, 1) := by decide +kernel
theorem dX6_ridesOn_3 : decode cX6_ridesOn 3 = .ok (.bipush 36, 2) := by decide +kernel
theorem dX6_ridesOn_5 : decode cX6_ridesOn 5 = .ok (.if_icmp .ge 17, 3) := by decide +kernel
theorem dX6_ridesOn_8 : decode cX6_ridesOn 8 = .ok (.aload_n 0, 1) := by decide +kernel
theorem dX6_ridesOn_9 : decode cX6_ridesOn 9 = .ok (.getfield 26, 3) := by decide +kernel
theorem dX6_ridesOn_12 : decode cX6_ridesOn 12 = .ok (.iload_n 3, 1) := by decide +kernel
theorem dX6_ridesOn_13 : decode cX6_ridesOn 13 = .ok (.bipush (-4), 2) := by decide +kernel
theorem dX6_ridesOn_15 : decode cX6_ridesOn 15 = .ok (.iastore, 1) := by decide +kernel
theorem dX6_ridesOn_16 : decode cX6_ridesOn 16 = .ok (.iinc 3 1, 3) := by decide +kernel
theorem dX6_ridesOn_19 : decode cX6_ridesOn 19 = .ok (.goto (-17), 3) := by decide +kernel
theorem dX6_ridesOn_22 : decode cX6_ridesOn 22 = .ok (.iconst 0, 1) := by decide +kernel
theorem dX6_ridesOn_23 : decode cX6_ridesOn 23 = .ok (.istore_n 3, 1) := by decide +kernel
theorem dX6_ridesOn_24 : decode cX6_ridesOn 24 = .ok (.iload_n 3, 1) := by decide +kernel
theorem dX6_ridesOn_25 : decode cX6_ridesOn 25 = .ok (.aload_n 0, 1) := by decide +kernel
theorem dX6_ridesOn_26 : decode cX6_ridesOn 26 = .ok (.getfield 7, 3) := by decide +kernel
theorem dX6_ridesOn_29 : decode cX6_ridesOn 29 = .ok (.sipush 456, 3) := by decide +kernel
theorem dX6_ridesOn_32 : decode cX6_ridesOn 32 = .ok (.iaload, 1) := by decide +kernel
theorem dX6_ridesOn_33 : decode cX6_ridesOn 33 = .ok (.if_icmp .ge 39, 3) := by decide +kernel
theorem dX6_ridesOn_36 : decode cX6_ridesOn 36 = .ok (.aload_n 0, 1) := by decide +kernel
theorem dX6_ridesOn_37 : decode cX6_ridesOn 37 = .ok (.getfield 26, 3) := by decide +kernel
theorem dX6_ridesOn_40 : decode cX6_ridesOn 40 = .ok (.bipush 9, 2) := by decide +kernel
theorem dX6_ridesOn_42 : decode cX6_ridesOn 42 = .ok (.iload_n 3, 1) := by decide +kernel
theorem dX6_ridesOn_43 : decode cX6_ridesOn 43 = .ok (.imul, 1) := by decide +kernel
theorem dX6_ridesOn_44 : decode cX6_ridesOn 44 = .ok (.aload_n 0, 1) := by decide +kernel
theorem dX6_ridesOn_45 : decode cX6_ridesOn 45 = .ok (.getfield 7, 3) := by decide +kernel
theorem dX6_ridesOn_48 : decode cX6_ridesOn 48 = .ok (.sipush 442, 3) := by decide +kernel
theorem dX6_ridesOn_51 : decode cX6_ridesOn 51 = .ok (.iload_n 3, 1) := by decide +kernel
theorem dX6_ridesOn_52 : decode cX6_ridesOn 52 = .ok (.iadd, 1) := by decide +kernel
theorem dX6_ridesOn_53 : decode cX6_ridesOn 53 = .ok (.iaload, 1) := by decide +kernel
theorem dX6_ridesOn_54 : decode cX6_ridesOn 54 = .ok (.iadd, 1) := by decide +kernel
theorem dX6_ridesOn_55 : decode cX6_ridesOn 55 = .ok (.aload_n 0, 1) := by decide +kernel
theorem dX6_ridesOn_56 : decode cX6_ridesOn 56 = .ok (.getfield 7, 3) := by decide +kernel
theorem dX6_ridesOn_59 : decode cX6_ridesOn 59 = .ok (.sipush 446, 3) := by decide +kernel
theorem dX6_ridesOn_62 : decode cX6_ridesOn 62 = .ok (.iload_n 3, 1) := by decide +kernel
theorem dX6_ridesOn_63 : decode cX6_ridesOn 63 = .ok (.iadd, 1) := by decide +kernel
theorem dX6_ridesOn_64 : decode cX6_ridesOn 64 = .ok (.iaload, 1) := by decide +kernel
theorem dX6_ridesOn_65 : decode cX6_ridesOn 65 = .ok (.iastore, 1) := by decide +kernel
theorem dX6_ridesOn_66 : decode cX6_ridesOn 66 = .ok (.iinc 3 1, 3) := by decide +kernel
theorem dX6_ridesOn_69 : decode cX6_ridesOn 69 = .ok (.goto (-45), 3) := by decide +kernel
theorem dX6_ridesOn_72 : decode cX6_ridesOn 72 = .ok (.aload_n 0, 1) := by decide +kernel
theorem dX6_ridesOn_73 : decode cX6_ridesOn 73 = .ok (.sipush 434, 3) := by decide +kernel
theorem dX6_ridesOn_76 : decode cX6_ridesOn 76 = .ok (.invokevirtual 128, 3) := by decide +kernel
theorem dX6_ridesOn_79 : decode cX6_ridesOn 79 = .ok (.istore_n 3, 1) := by decide +kernel
theorem dX6_ridesOn_80 : decode cX6_ridesOn 80 = .ok (.iload_n 3, 1) := by decide +kernel
theorem dX6_ridesOn_81 : decode cX6_ridesOn 81 = .ok (.bipush (-4), 2) := by decide +kernel
theorem dX6_ridesOn_83 : decode cX6_ridesOn 83 = .ok (.if_icmp .eq 105, 3) := by decide +kernel
theorem dX6_ridesOn_86 : decode cX6_ridesOn 86 = .ok (.iload_n 3, 1) := by decide +kernel
theorem dX6_ridesOn_87 : decode cX6_ridesOn 87 = .ok (.iload_n 1, 1) := by decide +kernel
theorem dX6_ridesOn_88 : decode cX6_ridesOn 88 = .ok (.if_icmp .ne 24, 3) := by decide +kernel
theorem dX6_ridesOn_91 : decode cX6_ridesOn 91 = .ok (.iload_n 2, 1) := by decide +kernel
theorem dX6_ridesOn_92 : decode cX6_ridesOn 92 = .ok (.aload_n 0, 1) := by decide +kernel
theorem dX6_ridesOn_93 : decode cX6_ridesOn 93 = .ok (.getfield 7, 3) := by decide +kernel
theorem dX6_ridesOn_96 : decode cX6_ridesOn 96 = .ok (.sipush 442, 3) := by decide +kernel
theorem dX6_ridesOn_99 : decode cX6_ridesOn 99 = .ok (.iload_n 3, 1) := by decide +kernel
theorem dX6_ridesOn_100 : decode cX6_ridesOn 100 = .ok (.iadd, 1) := by decide +kernel
theorem dX6_ridesOn_101 : decode cX6_ridesOn 101 = .ok (.iaload, 1) := by decide +kernel
theorem dX6_ridesOn_102 : decode cX6_ridesOn 102 = .ok (.invokestatic 122, 3) := by decide +kernel
theorem dX6_ridesOn_105 : decode cX6_ridesOn 105 = .ok (.ifCond .eq 7, 3) := by decide +kernel
theorem dX6_ridesOn_108 : decode cX6_ridesOn 108 = .ok (.iconst 1, 1) := by decide +kernel
theorem dX6_ridesOn_109 : decode cX6_ridesOn 109 = .ok (.goto 4, 3) := by decide +kernel
theorem dX6_ridesOn_112 : decode cX6_ridesOn 112 = .ok (.iconst 0, 1) := by decide +kernel
theorem dX6_ridesOn_113 : decode cX6_ridesOn 113 = .ok (.istore 4, 2) := by decide +kernel
theorem dX6_ridesOn_115 : decode cX6_ridesOn 115 = .ok (.aload_n 0, 1) := by decide +kernel
theorem dX6_ridesOn_116 : decode cX6_ridesOn 116 = .ok (.sipush 434, 3) := by decide +kernel
theorem dX6_ridesOn_119 : decode cX6_ridesOn 119 = .ok (.iload_n 3, 1) := by decide +kernel
theorem dX6_ridesOn_120 : decode cX6_ridesOn 120 = .ok (.invokevirtual 140, 3) := by decide +kernel
theorem dX6_ridesOn_123 : decode cX6_ridesOn 123 = .ok (.aload_n 0, 1) := by decide +kernel
theorem dX6_ridesOn_124 : decode cX6_ridesOn 124 = .ok (.getfield 7, 3) := by decide +kernel
theorem dX6_ridesOn_127 : decode cX6_ridesOn 127 = .ok (.sipush 446, 3) := by decide +kernel
theorem dX6_ridesOn_130 : decode cX6_ridesOn 130 = .ok (.iload_n 3, 1) := by decide +kernel
theorem dX6_ridesOn_131 : decode cX6_ridesOn 131 = .ok (.iadd, 1) := by decide +kernel
theorem dX6_ridesOn_132 : decode cX6_ridesOn 132 = .ok (.dup2, 1) := by decide +kernel
theorem dX6_ridesOn_133 : decode cX6_ridesOn 133 = .ok (.iaload, 1) := by decide +kernel
theorem dX6_ridesOn_134 : decode cX6_ridesOn 134 = .ok (.iload 4, 2) := by decide +kernel
theorem dX6_ridesOn_136 : decode cX6_ridesOn 136 = .ok (.ifCond .eq 8, 3) := by decide +kernel
theorem dX6_ridesOn_139 : decode cX6_ridesOn 139 = .ok (.bipush 30, 2) := by decide +kernel
theorem dX6_ridesOn_141 : decode cX6_ridesOn 141 = .ok (.goto 4, 3) := by decide +kernel
theorem dX6_ridesOn_144 : decode cX6_ridesOn 144 = .ok (.iconst 0, 1) := by decide +kernel
theorem dX6_ridesOn_145 : decode cX6_ridesOn 145 = .ok (.iadd, 1) := by decide +kernel
theorem dX6_ridesOn_146 : decode cX6_ridesOn 146 = .ok (.iastore, 1) := by decide +kernel
theorem dX6_ridesOn_147 : decode cX6_ridesOn 147 = .ok (.aload_n 0, 1) := by decide +kernel
theorem dX6_ridesOn_148 : decode cX6_ridesOn 148 = .ok (.getfield 26, 3) := by decide +kernel
theorem dX6_ridesOn_151 : decode cX6_ridesOn 151 = .ok (.bipush 9, 2) := by decide +kernel
theorem dX6_ridesOn_153 : decode cX6_ridesOn 153 = .ok (.iload_n 3, 1) := by decide +kernel
theorem dX6_ridesOn_154 : decode cX6_ridesOn 154 = .ok (.imul, 1) := by decide +kernel
theorem dX6_ridesOn_155 : decode cX6_ridesOn 155 = .ok (.aload_n 0, 1) := by decide +kernel
theorem dX6_ridesOn_156 : decode cX6_ridesOn 156 = .ok (.getfield 7, 3) := by decide +kernel
theorem dX6_ridesOn_159 : decode cX6_ridesOn 159 = .ok (.sipush 442, 3) := by decide +kernel
theorem dX6_ridesOn_162 : decode cX6_ridesOn 162 = .ok (.iload_n 3, 1) := by decide +kernel
theorem dX6_ridesOn_163 : decode cX6_ridesOn 163 = .ok (.iadd, 1) := by decide +kernel
theorem dX6_ridesOn_164 : decode cX6_ridesOn 164 = .ok (.iaload, 1) := by decide +kernel
theorem dX6_ridesOn_165 : decode cX6_ridesOn 165 = .ok (.iadd, 1) := by decide +kernel
theorem dX6_ridesOn_166 : decode cX6_ridesOn 166 = .ok (.aload_n 0, 1) := by decide +kernel
theorem dX6_ridesOn_167 : decode cX6_ridesOn 167 = .ok (.getfield 7, 3) := by decide +kernel
theorem dX6_ridesOn_170 : decode cX6_ridesOn 170 = .ok (.sipush 446, 3) := by decide +kernel
theorem dX6_ridesOn_173 : decode cX6_ridesOn 173 = .ok (.iload_n 3, 1) := by decide +kernel
theorem dX6_ridesOn_174 : decode cX6_ridesOn 174 = .ok (.iadd, 1) := by decide +kernel
theorem dX6_ridesOn_175 : decode cX6_ridesOn 175 = .ok (.iaload, 1) := by decide +kernel
theorem dX6_ridesOn_176 : decode cX6_ridesOn 176 = .ok (.iastore, 1) := by decide +kernel
theorem dX6_ridesOn_177 : decode cX6_ridesOn 177 = .ok (.aload_n 0, 1) := by decide +kernel
theorem dX6_ridesOn_178 : decode cX6_ridesOn 178 = .ok (.sipush 434, 3) := by decide +kernel
theorem dX6_ridesOn_181 : decode cX6_ridesOn 181 = .ok (.invokevirtual 128, 3) := by decide +kernel
theorem dX6_ridesOn_184 : decode cX6_ridesOn 184 = .ok (.istore_n 3, 1) := by decide +kernel
theorem dX6_ridesOn_185 : decode cX6_ridesOn 185 = .ok (.goto (-105), 3) := by decide +kernel
theorem dX6_ridesOn_188 : decode cX6_ridesOn 188 = .ok (.return_, 1) := by decide +kernel
theorem dX6_foretells_0 : decode cX6_foretells 0 = .ok (.aload_n 0, 1) := by decide +kernel
theorem dX6_foretells_1 : decode cX6_foretells 1 = .ok (.invokevirtual 150, 3) := by decide +kernel
theorem dX6_foretells_4 : decode cX6_foretells 4 = .ok (.aload_n 0, 1) := by decide +kernel
theorem dX6_foretells_5 : decode cX6_foretells 5 = .ok (.bipush (-4), 2) := by decide +kernel
theorem dX6_foretells_7 : decode cX6_foretells 7 = .ok (.iconst 0, 1) := by decide +kernel
theorem dX6_foretells_8 : decode cX6_foretells 8 = .ok (.invokevirtual 153, 3) := by decide +kernel
theorem dX6_foretells_11 : decode cX6_foretells 11 = .ok (.return_, 1) := by decide +kernel
theorem dX6_ahead_0 : decode cX6_ahead 0 = .ok (.aload_n 0, 1) := by decide +kernel
theorem dX6_ahead_1 : decode cX6_ahead 1 = .ok (.iload_n 1, 1) := by decide +kernel
theorem dX6_ahead_2 : decode cX6_ahead 2 = .ok (.invokevirtual 42, 3) := by decide +kernel
theorem dX6_ahead_5 : decode cX6_ahead 5 = .ok (.ifCond .eq 13, 3) := by decide +kernel
theorem dX6_ahead_8 : decode cX6_ahead 8 = .ok (.iload_n 2, 1) := by decide +kernel
theorem dX6_ahead_9 : decode cX6_ahead 9 = .ok (.i2l, 1) := by decide +kernel
theorem dX6_ahead_10 : decode cX6_ahead 10 = .ok (.lconst 0, 1) := by decide +kernel
theorem dX6_ahead_11 : decode cX6_ahead 11 = .ok (.lconst 1, 1) := by decide +kernel
theorem dX6_ahead_12 : decode cX6_ahead 12 = .ok (.invokestatic 38, 3) := by decide +kernel
theorem dX6_ahead_15 : decode cX6_ahead 15 = .ok (.ifCond .ne 5, 3) := by decide +kernel
theorem dX6_ahead_18 : decode cX6_ahead 18 = .ok (.iconst (-1), 1) := by decide +kernel
theorem dX6_ahead_19 : decode cX6_ahead 19 = .ok (.ireturn, 1) := by decide +kernel
theorem dX6_ahead_20 : decode cX6_ahead 20 = .ok (.aload_n 0, 1) := by decide +kernel
theorem dX6_ahead_21 : decode cX6_ahead 21 = .ok (.invokevirtual 156, 3) := by decide +kernel
theorem dX6_ahead_24 : decode cX6_ahead 24 = .ok (.aload_n 0, 1) := by decide +kernel
theorem dX6_ahead_25 : decode cX6_ahead 25 = .ok (.getfield 7, 3) := by decide +kernel
theorem dX6_ahead_28 : decode cX6_ahead 28 = .ok (.sipush 434, 3) := by decide +kernel
theorem dX6_ahead_31 : decode cX6_ahead 31 = .ok (.iload_n 2, 1) := by decide +kernel
theorem dX6_ahead_32 : decode cX6_ahead 32 = .ok (.ifCond .ne 8, 3) := by decide +kernel
theorem dX6_ahead_35 : decode cX6_ahead 35 = .ok (.bipush 12, 2) := by decide +kernel
theorem dX6_ahead_37 : decode cX6_ahead 37 = .ok (.goto 5, 3) := by decide +kernel
theorem dX6_ahead_40 : decode cX6_ahead 40 = .ok (.bipush 16, 2) := by decide +kernel
theorem dX6_ahead_42 : decode cX6_ahead 42 = .ok (.iadd, 1) := by decide +kernel
theorem dX6_ahead_43 : decode cX6_ahead 43 = .ok (.iload_n 1, 1) := by decide +kernel
theorem dX6_ahead_44 : decode cX6_ahead 44 = .ok (.iadd, 1) := by decide +kernel
theorem dX6_ahead_45 : decode cX6_ahead 45 = .ok (.iaload, 1) := by decide +kernel
theorem dX6_ahead_46 : decode cX6_ahead 46 = .ok (.ireturn, 1) := by decide +kernel
theorem dX6_comes_0 : decode cX6_comes 0 = .ok (.aload_n 0, 1) := by decide +kernel
theorem dX6_comes_1 : decode cX6_comes 1 = .ok (.iload_n 1, 1) := by decide +kernel
theorem dX6_comes_2 : decode cX6_comes 2 = .ok (.invokevirtual 42, 3) := by decide +kernel
theorem dX6_comes_5 : decode cX6_comes 5 = .ok (.ifCond .eq 20, 3) := by decide +kernel
theorem dX6_comes_8 : decode cX6_comes 8 = .ok (.iload_n 2, 1) := by decide +kernel
theorem dX6_comes_9 : decode cX6_comes 9 = .ok (.i2l, 1) := by decide +kernel
theorem dX6_comes_10 : decode cX6_comes 10 = .ok (.lconst 0, 1) := by decide +kernel
theorem dX6_comes_11 : decode cX6_comes 11 = .ok (.aload_n 0, 1) := by decide +kernel
theorem dX6_comes_12 : decode cX6_comes 12 = .ok (.getfield 7, 3) := by decide +kernel
theorem dX6_comes_15 : decode cX6_comes 15 = .ok (.bipush 21, 2) := by decide +kernel
theorem dX6_comes_17 : decode cX6_comes 17 = .ok (.iaload, 1) := by decide +kernel
theorem dX6_comes_18 : decode cX6_comes 18 = .ok (.i2l, 1) := by decide +kernel
theorem dX6_comes_19 : decode cX6_comes 19 = .ok (.invokestatic 38, 3) := by decide +kernel
theorem dX6_comes_22 : decode cX6_comes 22 = .ok (.ifCond .ne 5, 3) := by decide +kernel
theorem dX6_comes_25 : decode cX6_comes 25 = .ok (.iconst (-1), 1) := by decide +kernel
theorem dX6_comes_26 : decode cX6_comes 26 = .ok (.ireturn, 1) := by decide +kernel
theorem dX6_comes_27 : decode cX6_comes 27 = .ok (.aload_n 0, 1) := by decide +kernel
theorem dX6_comes_28 : decode cX6_comes 28 = .ok (.invokevirtual 156, 3) := by decide +kernel
theorem dX6_comes_31 : decode cX6_comes 31 = .ok (.aload_n 0, 1) := by decide +kernel
theorem dX6_comes_32 : decode cX6_comes 32 = .ok (.getfield 26, 3) := by decide +kernel
theorem dX6_comes_35 : decode cX6_comes 35 = .ok (.bipush 9, 2) := by decide +kernel
theorem dX6_comes_37 : decode cX6_comes 37 = .ok (.iload_n 1, 1) := by decide +kernel
theorem dX6_comes_38 : decode cX6_comes 38 = .ok (.imul, 1) := by decide +kernel
theorem dX6_comes_39 : decode cX6_comes 39 = .ok (.iload_n 2, 1) := by decide +kernel
theorem dX6_comes_40 : decode cX6_comes 40 = .ok (.iadd, 1) := by decide +kernel
theorem dX6_comes_41 : decode cX6_comes 41 = .ok (.iaload, 1) := by decide +kernel
theorem dX6_comes_42 : decode cX6_comes 42 = .ok (.ireturn, 1) := by decide +kernel
theorem dX6_firstTried_0 : decode cX6_firstTried 0 = .ok (.bipush (-4), 2) := by decide +kernel
theorem dX6_firstTried_2 : decode cX6_firstTried 2 = .ok (.istore_n 1, 1) := by decide +kernel
theorem dX6_firstTried_3 : decode cX6_firstTried 3 = .ok (.iconst 0, 1) := by decide +kernel
theorem dX6_firstTried_4 : decode cX6_firstTried 4 = .ok (.istore_n 2, 1) := by decide +kernel
theorem dX6_firstTried_5 : decode cX6_firstTried 5 = .ok (.iload_n 2, 1) := by decide +kernel
theorem dX6_firstTried_6 : decode cX6_firstTried 6 = .ok (.aload_n 0, 1) := by decide +kernel
theorem dX6_firstTried_7 : decode cX6_firstTried 7 = .ok (.getfield 7, 3) := by decide +kernel
theorem dX6_firstTried_10 : decode cX6_firstTried 10 = .ok (.bipush 22, 2) := by decide +kernel
theorem dX6_firstTried_12 : decode cX6_firstTried 12 = .ok (.iaload, 1) := by decide +kernel
theorem dX6_firstTried_13 : decode cX6_firstTried 13 = .ok (.if_icmp .ge 44, 3) := by decide +kernel
theorem dX6_firstTried_16 : decode cX6_firstTried 16 = .ok (.iload_n 1, 1) := by decide +kernel
theorem dX6_firstTried_17 : decode cX6_firstTried 17 = .ok (.bipush (-4), 2) := by decide +kernel
theorem dX6_firstTried_19 : decode cX6_firstTried 19 = .ok (.if_icmp .eq 26, 3) := by decide +kernel
theorem dX6_firstTried_22 : decode cX6_firstTried 22 = .ok (.aload_n 0, 1) := by decide +kernel
theorem dX6_firstTried_23 : decode cX6_firstTried 23 = .ok (.getfield 7, 3) := by decide +kernel
theorem dX6_firstTried_26 : decode cX6_firstTried 26 = .ok (.sipush 446, 3) := by decide +kernel
theorem dX6_firstTried_29 : decode cX6_firstTried 29 = .ok (.iload_n 2, 1) := by decide +kernel
theorem dX6_firstTried_30 : decode cX6_firstTried 30 = .ok (.iadd, 1) := by decide +kernel
theorem dX6_firstTried_31 : decode cX6_firstTried 31 = .ok (.iaload, 1) := by decide +kernel
theorem dX6_firstTried_32 : decode cX6_firstTried 32 = .ok (.aload_n 0, 1) := by decide +kernel
theorem dX6_firstTried_33 : decode cX6_firstTried 33 = .ok (.getfield 7, 3) := by decide +kernel
theorem dX6_firstTried_36 : decode cX6_firstTried 36 = .ok (.sipush 446, 3) := by decide +kernel
theorem dX6_firstTried_39 : decode cX6_firstTried 39 = .ok (.iload_n 1, 1) := by decide +kernel
theorem dX6_firstTried_40 : decode cX6_firstTried 40 = .ok (.iadd, 1) := by decide +kernel
theorem dX6_firstTried_41 : decode cX6_firstTried 41 = .ok (.iaload, 1) := by decide +kernel
theorem dX6_firstTried_42 : decode cX6_firstTried 42 = .ok (.if_icmp .ge 7, 3) := by decide +kernel
theorem dX6_firstTried_45 : decode cX6_firstTried 45 = .ok (.iload_n 2, 1) := by decide +kernel
theorem dX6_firstTried_46 : decode cX6_firstTried 46 = .ok (.goto 4, 3) := by decide +kernel
theorem dX6_firstTried_49 : decode cX6_firstTried 49 = .ok (.iload_n 1, 1) := by decide +kernel
theorem dX6_firstTried_50 : decode cX6_firstTried 50 = .ok (.istore_n 1, 1) := by decide +kernel
theorem dX6_firstTried_51 : decode cX6_firstTried 51 = .ok (.iinc 2 1, 3) := by decide +kernel
theorem dX6_firstTried_54 : decode cX6_firstTried 54 = .ok (.goto (-49), 3) := by decide +kernel
theorem dX6_firstTried_57 : decode cX6_firstTried 57 = .ok (.iload_n 1, 1) := by decide +kernel
theorem dX6_firstTried_58 : decode cX6_firstTried 58 = .ok (.ireturn, 1) := by decide +kernel
theorem dX6_first_0 : decode cX6_first 0 = .ok (.aload_n 0, 1) := by decide +kernel
theorem dX6_first_1 : decode cX6_first 1 = .ok (.invokevirtual 156, 3) := by decide +kernel
theorem dX6_first_4 : decode cX6_first 4 = .ok (.aload_n 0, 1) := by decide +kernel
theorem dX6_first_5 : decode cX6_first 5 = .ok (.invokevirtual 159, 3) := by decide +kernel
theorem dX6_first_8 : decode cX6_first 8 = .ok (.ireturn, 1) := by decide +kernel
theorem dX6_caught_0 : decode cX6_caught 0 = .ok (.aload_n 0, 1) := by decide +kernel
theorem dX6_caught_1 : decode cX6_caught 1 = .ok (.iload_n 1, 1) := by decide +kernel
theorem dX6_caught_2 : decode cX6_caught 2 = .ok (.iload_n 2, 1) := by decide +kernel
theorem dX6_caught_3 : decode cX6_caught 3 = .ok (.invokevirtual 144, 3) := by decide +kernel
theorem dX6_caught_6 : decode cX6_caught 6 = .ok (.ifCond .ne 5, 3) := by decide +kernel
theorem dX6_caught_9 : decode cX6_caught 9 = .ok (.iconst (-1), 1) := by decide +kernel
theorem dX6_caught_10 : decode cX6_caught 10 = .ok (.ireturn, 1) := by decide +kernel
theorem dX6_caught_11 : decode cX6_caught 11 = .ok (.aload_n 0, 1) := by decide +kernel
theorem dX6_caught_12 : decode cX6_caught 12 = .ok (.invokevirtual 156, 3) := by decide +kernel
theorem dX6_caught_15 : decode cX6_caught 15 = .ok (.aload_n 0, 1) := by decide +kernel
theorem dX6_caught_16 : decode cX6_caught 16 = .ok (.getfield 7, 3) := by decide +kernel
theorem dX6_caught_19 : decode cX6_caught 19 = .ok (.bipush 8, 2) := by decide +kernel
theorem dX6_caught_21 : decode cX6_caught 21 = .ok (.iload_n 1, 1) := by decide +kernel
theorem dX6_caught_22 : decode cX6_caught 22 = .ok (.iadd, 1) := by decide +kernel
theorem dX6_caught_23 : decode cX6_caught 23 = .ok (.iaload, 1) := by decide +kernel
theorem dX6_caught_24 : decode cX6_caught 24 = .ok (.aload_n 0, 1) := by decide +kernel
theorem dX6_caught_25 : decode cX6_caught 25 = .ok (.getfield 7, 3) := by decide +kernel
theorem dX6_caught_28 : decode cX6_caught 28 = .ok (.bipush 8, 2) := by decide +kernel
theorem dX6_caught_30 : decode cX6_caught 30 = .ok (.iload_n 2, 1) := by decide +kernel
theorem dX6_caught_31 : decode cX6_caught 31 = .ok (.iadd, 1) := by decide +kernel
theorem dX6_caught_32 : decode cX6_caught 32 = .ok (.iaload, 1) := by decide +kernel
theorem dX6_caught_33 : decode cX6_caught 33 = .ok (.if_icmp .le 15, 3) := by decide +kernel
theorem dX6_caught_36 : decode cX6_caught 36 = .ok (.aload_n 0, 1) := by decide +kernel
theorem dX6_caught_37 : decode cX6_caught 37 = .ok (.getfield 7, 3) := by decide +kernel
theorem dX6_caught_40 : decode cX6_caught 40 = .ok (.bipush 8, 2) := by decide +kernel
theorem dX6_caught_42 : decode cX6_caught 42 = .ok (.iload_n 1, 1) := by decide +kernel
theorem dX6_caught_43 : decode cX6_caught 43 = .ok (.iadd, 1) := by decide +kernel
theorem dX6_caught_44 : decode cX6_caught 44 = .ok (.iaload, 1) := by decide +kernel
theorem dX6_caught_45 : decode cX6_caught 45 = .ok (.goto 12, 3) := by decide +kernel
theorem dX6_caught_48 : decode cX6_caught 48 = .ok (.aload_n 0, 1) := by decide +kernel
theorem dX6_caught_49 : decode cX6_caught 49 = .ok (.getfield 7, 3) := by decide +kernel
theorem dX6_caught_52 : decode cX6_caught 52 = .ok (.bipush 8, 2) := by decide +kernel
theorem dX6_caught_54 : decode cX6_caught 54 = .ok (.iload_n 2, 1) := by decide +kernel
theorem dX6_caught_55 : decode cX6_caught 55 = .ok (.iadd, 1) := by decide +kernel
theorem dX6_caught_56 : decode cX6_caught 56 = .ok (.iaload, 1) := by decide +kernel
theorem dX6_caught_57 : decode cX6_caught 57 = .ok (.istore_n 3, 1) := by decide +kernel
theorem dX6_caught_58 : decode cX6_caught 58 = .ok (.iload_n 3, 1) := by decide +kernel
theorem dX6_caught_59 : decode cX6_caught 59 = .ok (.iconst 1, 1) := by decide +kernel
theorem dX6_caught_60 : decode cX6_caught 60 = .ok (.if_icmp .ge 7, 3) := by decide +kernel
theorem dX6_caught_63 : decode cX6_caught 63 = .ok (.iconst 1, 1) := by decide +kernel
theorem dX6_caught_64 : decode cX6_caught 64 = .ok (.goto 4, 3) := by decide +kernel
theorem dX6_caught_67 : decode cX6_caught 67 = .ok (.iload_n 3, 1) := by decide +kernel
theorem dX6_caught_68 : decode cX6_caught 68 = .ok (.istore 4, 2) := by decide +kernel
theorem dX6_caught_70 : decode cX6_caught 70 = .ok (.iload 4, 2) := by decide +kernel
theorem dX6_caught_72 : decode cX6_caught 72 = .ok (.aload_n 0, 1) := by decide +kernel
theorem dX6_caught_73 : decode cX6_caught 73 = .ok (.getfield 7, 3) := by decide +kernel
theorem dX6_caught_76 : decode cX6_caught 76 = .ok (.bipush 21, 2) := by decide +kernel
theorem dX6_caught_78 : decode cX6_caught 78 = .ok (.iaload, 1) := by decide +kernel
theorem dX6_caught_79 : decode cX6_caught 79 = .ok (.if_icmp .gt 39, 3) := by decide +kernel
theorem dX6_caught_82 : decode cX6_caught 82 = .ok (.aload_n 0, 1) := by decide +kernel
theorem dX6_caught_83 : decode cX6_caught 83 = .ok (.getfield 26, 3) := by decide +kernel
theorem dX6_caught_86 : decode cX6_caught 86 = .ok (.bipush 9, 2) := by decide +kernel
theorem dX6_caught_88 : decode cX6_caught 88 = .ok (.iload_n 2, 1) := by decide +kernel
theorem dX6_caught_89 : decode cX6_caught 89 = .ok (.imul, 1) := by decide +kernel
theorem dX6_caught_90 : decode cX6_caught 90 = .ok (.iload 4, 2) := by decide +kernel
theorem dX6_caught_92 : decode cX6_caught 92 = .ok (.iadd, 1) := by decide +kernel
theorem dX6_caught_93 : decode cX6_caught 93 = .ok (.iaload, 1) := by decide +kernel
theorem dX6_caught_94 : decode cX6_caught 94 = .ok (.aload_n 0, 1) := by decide +kernel
theorem dX6_caught_95 : decode cX6_caught 95 = .ok (.getfield 26, 3) := by decide +kernel
theorem dX6_caught_98 : decode cX6_caught 98 = .ok (.bipush 9, 2) := by decide +kernel
theorem dX6_caught_100 : decode cX6_caught 100 = .ok (.iload_n 1, 1) := by decide +kernel
theorem dX6_caught_101 : decode cX6_caught 101 = .ok (.imul, 1) := by decide +kernel
theorem dX6_caught_102 : decode cX6_caught 102 = .ok (.iload 4, 2) := by decide +kernel
theorem dX6_caught_104 : decode cX6_caught 104 = .ok (.iadd, 1) := by decide +kernel
theorem dX6_caught_105 : decode cX6_caught 105 = .ok (.iaload, 1) := by decide +kernel
theorem dX6_caught_106 : decode cX6_caught 106 = .ok (.if_icmp .gt 6, 3) := by decide +kernel
theorem dX6_caught_109 : decode cX6_caught 109 = .ok (.iload 4, 2) := by decide +kernel
theorem dX6_caught_111 : decode cX6_caught 111 = .ok (.ireturn, 1) := by decide +kernel
theorem dX6_caught_112 : decode cX6_caught 112 = .ok (.iinc 4 1, 3) := by decide +kernel
theorem dX6_caught_115 : decode cX6_caught 115 = .ok (.goto (-45), 3) := by decide +kernel
theorem dX6_caught_118 : decode cX6_caught 118 = .ok (.bipush (-4), 2) := by decide +kernel
theorem dX6_caught_120 : decode cX6_caught 120 = .ok (.ireturn, 1) := by decide +kernel
theorem dX6_best_0 : decode cX6_best 0 = .ok (.aload_n 0, 1) := by decide +kernel
theorem dX6_best_1 : decode cX6_best 1 = .ok (.iload_n 1, 1) := by decide +kernel
theorem dX6_best_2 : decode cX6_best 2 = .ok (.invokevirtual 42, 3) := by decide +kernel
theorem dX6_best_5 : decode cX6_best 5 = .ok (.ifCond .eq 13, 3) := by decide +kernel
theorem dX6_best_8 : decode cX6_best 8 = .ok (.iload_n 2, 1) := by decide +kernel
theorem dX6_best_9 : decode cX6_best 9 = .ok (.i2l, 1) := by decide +kernel
theorem dX6_best_10 : decode cX6_best 10 = .ok (.lconst 0, 1) := by decide +kernel
theorem dX6_best_11 : decode cX6_best 11 = .ok (.lconst 1, 1) := by decide +kernel
theorem dX6_best_12 : decode cX6_best 12 = .ok (.invokestatic 38, 3) := by decide +kernel
theorem dX6_best_15 : decode cX6_best 15 = .ok (.ifCond .ne 5, 3) := by decide +kernel
theorem dX6_best_18 : decode cX6_best 18 = .ok (.iconst (-1), 1) := by decide +kernel
theorem dX6_best_19 : decode cX6_best 19 = .ok (.ireturn, 1) := by decide +kernel
theorem dX6_best_20 : decode cX6_best 20 = .ok (.iconst 0, 1) := by decide +kernel
theorem dX6_best_21 : decode cX6_best 21 = .ok (.istore_n 3, 1) := by decide +kernel
theorem dX6_best_22 : decode cX6_best 22 = .ok (.ldc 162, 2) := by decide +kernel
theorem dX6_best_24 : decode cX6_best 24 = .ok (.istore 4, 2) := by decide +kernel
theorem dX6_best_26 : decode cX6_best 26 = .ok (.iconst 0, 1) := by decide +kernel
theorem dX6_best_27 : decode cX6_best 27 = .ok (.istore 5, 2) := by decide +kernel
theorem dX6_best_29 : decode cX6_best 29 = .ok (.iload 5, 2) := by decide +kernel
theorem dX6_best_31 : decode cX6_best 31 = .ok (.iconst 1, 1) := by decide +kernel
theorem dX6_best_32 : decode cX6_best 32 = .ok (.aload_n 0, 1) := by decide +kernel
theorem dX6_best_33 : decode cX6_best 33 = .ok (.getfield 7, 3) := by decide +kernel
theorem dX6_best_36 : decode cX6_best 36 = .ok (.bipush 21, 2) := by decide +kernel
theorem dX6_best_38 : decode cX6_best 38 = .ok (.iaload, 1) := by decide +kernel
theorem dX6_best_39 : decode cX6_best 39 = .ok (.ishl, 1) := by decide +kernel
theorem dX6_best_40 : decode cX6_best 40 = .ok (.if_icmp .ge 103, 3) := by decide +kernel
theorem dX6_best_43 : decode cX6_best 43 = .ok (.aload_n 0, 1) := by decide +kernel
theorem dX6_best_44 : decode cX6_best 44 = .ok (.invokevirtual 150, 3) := by decide +kernel
theorem dX6_best_47 : decode cX6_best 47 = .ok (.aload_n 0, 1) := by decide +kernel
theorem dX6_best_48 : decode cX6_best 48 = .ok (.getfield 7, 3) := by decide +kernel
theorem dX6_best_51 : decode cX6_best 51 = .ok (.sipush 478, 3) := by decide +kernel
theorem dX6_best_54 : decode cX6_best 54 = .ok (.iload_n 1, 1) := by decide +kernel
theorem dX6_best_55 : decode cX6_best 55 = .ok (.iadd, 1) := by decide +kernel
theorem dX6_best_56 : decode cX6_best 56 = .ok (.iload 5, 2) := by decide +kernel
theorem dX6_best_58 : decode cX6_best 58 = .ok (.iastore, 1) := by decide +kernel
theorem dX6_best_59 : decode cX6_best 59 = .ok (.aload_n 0, 1) := by decide +kernel
theorem dX6_best_60 : decode cX6_best 60 = .ok (.bipush (-4), 2) := by decide +kernel
theorem dX6_best_62 : decode cX6_best 62 = .ok (.iconst 0, 1) := by decide +kernel
theorem dX6_best_63 : decode cX6_best 63 = .ok (.invokevirtual 153, 3) := by decide +kernel
theorem dX6_best_66 : decode cX6_best 66 = .ok (.aload_n 0, 1) := by decide +kernel
theorem dX6_best_67 : decode cX6_best 67 = .ok (.getfield 7, 3) := by decide +kernel
theorem dX6_best_70 : decode cX6_best 70 = .ok (.sipush 446, 3) := by decide +kernel
theorem dX6_best_73 : decode cX6_best 73 = .ok (.iload_n 1, 1) := by decide +kernel
theorem dX6_best_74 : decode cX6_best 74 = .ok (.iadd, 1) := by decide +kernel
theorem dX6_best_75 : decode cX6_best 75 = .ok (.iaload, 1) := by decide +kernel
theorem dX6_best_76 : decode cX6_best 76 = .ok (.istore 6, 2) := by decide +kernel
theorem dX6_best_78 : decode cX6_best 78 = .ok (.iload 6, 2) := by decide +kernel
theorem dX6_best_80 : decode cX6_best 80 = .ok (.iload 4, 2) := by decide +kernel
theorem dX6_best_82 : decode cX6_best 82 = .ok (.if_icmp .lt 22, 3) := by decide +kernel
theorem dX6_best_85 : decode cX6_best 85 = .ok (.iload 6, 2) := by decide +kernel
theorem dX6_best_87 : decode cX6_best 87 = .ok (.iload 4, 2) := by decide +kernel
theorem dX6_best_89 : decode cX6_best 89 = .ok (.if_icmp .ne 19, 3) := by decide +kernel
theorem dX6_best_92 : decode cX6_best 92 = .ok (.iload 5, 2) := by decide +kernel
theorem dX6_best_94 : decode cX6_best 94 = .ok (.invokestatic 163, 3) := by decide +kernel
theorem dX6_best_97 : decode cX6_best 97 = .ok (.iload_n 3, 1) := by decide +kernel
theorem dX6_best_98 : decode cX6_best 98 = .ok (.invokestatic 163, 3) := by decide +kernel
theorem dX6_best_101 : decode cX6_best 101 = .ok (.if_icmp .ge 7, 3) := by decide +kernel
theorem dX6_best_104 : decode cX6_best 104 = .ok (.iconst 1, 1) := by decide +kernel
theorem dX6_best_105 : decode cX6_best 105 = .ok (.goto 4, 3) := by decide +kernel
theorem dX6_best_108 : decode cX6_best 108 = .ok (.iconst 0, 1) := by decide +kernel
theorem dX6_best_109 : decode cX6_best 109 = .ok (.istore 7, 2) := by decide +kernel
theorem dX6_best_111 : decode cX6_best 111 = .ok (.iload 7, 2) := by decide +kernel
theorem dX6_best_113 : decode cX6_best 113 = .ok (.ifCond .eq 8, 3) := by decide +kernel
theorem dX6_best_116 : decode cX6_best 116 = .ok (.iload 5, 2) := by decide +kernel
theorem dX6_best_118 : decode cX6_best 118 = .ok (.goto 4, 3) := by decide +kernel
theorem dX6_best_121 : decode cX6_best 121 = .ok (.iload_n 3, 1) := by decide +kernel
theorem dX6_best_122 : decode cX6_best 122 = .ok (.istore_n 3, 1) := by decide +kernel
theorem dX6_best_123 : decode cX6_best 123 = .ok (.iload 7, 2) := by decide +kernel
theorem dX6_best_125 : decode cX6_best 125 = .ok (.ifCond .eq 8, 3) := by decide +kernel
theorem dX6_best_128 : decode cX6_best 128 = .ok (.iload 6, 2) := by decide +kernel
theorem dX6_best_130 : decode cX6_best 130 = .ok (.goto 5, 3) := by decide +kernel
theorem dX6_best_133 : decode cX6_best 133 = .ok (.iload 4, 2) := by decide +kernel
theorem dX6_best_135 : decode cX6_best 135 = .ok (.istore 4, 2) := by decide +kernel
theorem dX6_best_137 : decode cX6_best 137 = .ok (.iinc 5 1, 3) := by decide +kernel
theorem dX6_best_140 : decode cX6_best 140 = .ok (.goto (-111), 3) := by decide +kernel
theorem dX6_best_143 : decode cX6_best 143 = .ok (.iload_n 2, 1) := by decide +kernel
theorem dX6_best_144 : decode cX6_best 144 = .ok (.ifCond .ne 7, 3) := by decide +kernel
theorem dX6_best_147 : decode cX6_best 147 = .ok (.iload_n 3, 1) := by decide +kernel
theorem dX6_best_148 : decode cX6_best 148 = .ok (.goto 5, 3) := by decide +kernel
theorem dX6_best_151 : decode cX6_best 151 = .ok (.iload 4, 2) := by decide +kernel
theorem dX6_best_153 : decode cX6_best 153 = .ok (.ireturn, 1) := by decide +kernel
theorem dX6_earlier_0 : decode cX6_earlier 0 = .ok (.aload_n 0, 1) := by decide +kernel
theorem dX6_earlier_1 : decode cX6_earlier 1 = .ok (.iload_n 1, 1) := by decide +kernel
theorem dX6_earlier_2 : decode cX6_earlier 2 = .ok (.iload_n 2, 1) := by decide +kernel
theorem dX6_earlier_3 : decode cX6_earlier 3 = .ok (.invokevirtual 144, 3) := by decide +kernel
theorem dX6_earlier_6 : decode cX6_earlier 6 = .ok (.ifCond .ne 5, 3) := by decide +kernel
theorem dX6_earlier_9 : decode cX6_earlier 9 = .ok (.iconst (-1), 1) := by decide +kernel
theorem dX6_earlier_10 : decode cX6_earlier 10 = .ok (.ireturn, 1) := by decide +kernel
theorem dX6_earlier_11 : decode cX6_earlier 11 = .ok (.iconst 0, 1) := by decide +kernel
theorem dX6_earlier_12 : decode cX6_earlier 12 = .ok (.istore_n 3, 1) := by decide +kernel
theorem dX6_earlier_13 : decode cX6_earlier 13 = .ok (.iload_n 3, 1) := by decide +kernel
theorem dX6_earlier_14 : decode cX6_earlier 14 = .ok (.sipush 300, 3) := by decide +kernel
theorem dX6_earlier_17 : decode cX6_earlier 17 = .ok (.if_icmp .gt 72, 3) := by decide +kernel
theorem dX6_earlier_20 : decode cX6_earlier 20 = .ok (.iload_n 3, 1) := by decide +kernel
theorem dX6_earlier_21 : decode cX6_earlier 21 = .ok (.aload_n 0, 1) := by decide +kernel
theorem dX6_earlier_22 : decode cX6_earlier 22 = .ok (.getfield 7, 3) := by decide +kernel
theorem dX6_earlier_25 : decode cX6_earlier 25 = .ok (.bipush 12, 2) := by decide +kernel
theorem dX6_earlier_27 : decode cX6_earlier 27 = .ok (.iload_n 1, 1) := by decide +kernel
theorem dX6_earlier_28 : decode cX6_earlier 28 = .ok (.iadd, 1) := by decide +kernel
theorem dX6_earlier_29 : decode cX6_earlier 29 = .ok (.iaload, 1) := by decide +kernel
theorem dX6_earlier_30 : decode cX6_earlier 30 = .ok (.if_icmp .gt 59, 3) := by decide +kernel
theorem dX6_earlier_33 : decode cX6_earlier 33 = .ok (.aload_n 0, 1) := by decide +kernel
theorem dX6_earlier_34 : decode cX6_earlier 34 = .ok (.invokevirtual 150, 3) := by decide +kernel
theorem dX6_earlier_37 : decode cX6_earlier 37 = .ok (.aload_n 0, 1) := by decide +kernel
theorem dX6_earlier_38 : decode cX6_earlier 38 = .ok (.getfield 7, 3) := by decide +kernel
theorem dX6_earlier_41 : decode cX6_earlier 41 = .ok (.sipush 446, 3) := by decide +kernel
theorem dX6_earlier_44 : decode cX6_earlier 44 = .ok (.iload_n 1, 1) := by decide +kernel
theorem dX6_earlier_45 : decode cX6_earlier 45 = .ok (.iadd, 1) := by decide +kernel
theorem dX6_earlier_46 : decode cX6_earlier 46 = .ok (.dup2, 1) := by decide +kernel
theorem dX6_earlier_47 : decode cX6_earlier 47 = .ok (.iaload, 1) := by decide +kernel
theorem dX6_earlier_48 : decode cX6_earlier 48 = .ok (.iload_n 3, 1) := by decide +kernel
theorem dX6_earlier_49 : decode cX6_earlier 49 = .ok (.isub, 1) := by decide +kernel
theorem dX6_earlier_50 : decode cX6_earlier 50 = .ok (.iastore, 1) := by decide +kernel
theorem dX6_earlier_51 : decode cX6_earlier 51 = .ok (.aload_n 0, 1) := by decide +kernel
theorem dX6_earlier_52 : decode cX6_earlier 52 = .ok (.bipush (-4), 2) := by decide +kernel
theorem dX6_earlier_54 : decode cX6_earlier 54 = .ok (.iconst 0, 1) := by decide +kernel
theorem dX6_earlier_55 : decode cX6_earlier 55 = .ok (.invokevirtual 153, 3) := by decide +kernel
theorem dX6_earlier_58 : decode cX6_earlier 58 = .ok (.aload_n 0, 1) := by decide +kernel
theorem dX6_earlier_59 : decode cX6_earlier 59 = .ok (.getfield 7, 3) := by decide +kernel
theorem dX6_earlier_62 : decode cX6_earlier 62 = .ok (.sipush 446, 3) := by decide +kernel
theorem dX6_earlier_65 : decode cX6_earlier 65 = .ok (.iload_n 1, 1) := by decide +kernel
theorem dX6_earlier_66 : decode cX6_earlier 66 = .ok (.iadd, 1) := by decide +kernel
theorem dX6_earlier_67 : decode cX6_earlier 67 = .ok (.iaload, 1) := by decide +kernel
theorem dX6_earlier_68 : decode cX6_earlier 68 = .ok (.aload_n 0, 1) := by decide +kernel
theorem dX6_earlier_69 : decode cX6_earlier 69 = .ok (.getfield 7, 3) := by decide +kernel
theorem dX6_earlier_72 : decode cX6_earlier 72 = .ok (.sipush 446, 3) := by decide +kernel
theorem dX6_earlier_75 : decode cX6_earlier 75 = .ok (.iload_n 2, 1) := by decide +kernel
theorem dX6_earlier_76 : decode cX6_earlier 76 = .ok (.iadd, 1) := by decide +kernel
theorem dX6_earlier_77 : decode cX6_earlier 77 = .ok (.iaload, 1) := by decide +kernel
theorem dX6_earlier_78 : decode cX6_earlier 78 = .ok (.if_icmp .ge 5, 3) := by decide +kernel
theorem dX6_earlier_81 : decode cX6_earlier 81 = .ok (.iload_n 3, 1) := by decide +kernel
theorem dX6_earlier_82 : decode cX6_earlier 82 = .ok (.ireturn, 1) := by decide +kernel
theorem dX6_earlier_83 : decode cX6_earlier 83 = .ok (.iinc 3 1, 3) := by decide +kernel
theorem dX6_earlier_86 : decode cX6_earlier 86 = .ok (.goto (-73), 3) := by decide +kernel
theorem dX6_earlier_89 : decode cX6_earlier 89 = .ok (.bipush (-4), 2) := by decide +kernel
theorem dX6_earlier_91 : decode cX6_earlier 91 = .ok (.ireturn, 1) := by decide +kernel
theorem dX6_purse_0 : decode cX6_purse 0 = .ok (.aload_n 0, 1) := by decide +kernel
theorem dX6_purse_1 : decode cX6_purse 1 = .ok (.iload_n 1, 1) := by decide +kernel
theorem dX6_purse_2 : decode cX6_purse 2 = .ok (.invokevirtual 42, 3) := by decide +kernel
theorem dX6_purse_5 : decode cX6_purse 5 = .ok (.ifCond .eq 15, 3) := by decide +kernel
theorem dX6_purse_8 : decode cX6_purse 8 = .ok (.iload_n 2, 1) := by decide +kernel
theorem dX6_purse_9 : decode cX6_purse 9 = .ok (.i2l, 1) := by decide +kernel
theorem dX6_purse_10 : decode cX6_purse 10 = .ok (.lconst 0, 1) := by decide +kernel
theorem dX6_purse_11 : decode cX6_purse 11 = .ok (.ldc2_w 166, 3) := by decide +kernel
theorem dX6_purse_14 : decode cX6_purse 14 = .ok (.invokestatic 38, 3) := by decide +kernel
theorem dX6_purse_17 : decode cX6_purse 17 = .ok (.ifCond .ne 5, 3) := by decide +kernel
theorem dX6_purse_20 : decode cX6_purse 20 = .ok (.iconst (-1), 1) := by decide +kernel
theorem dX6_purse_21 : decode cX6_purse 21 = .ok (.ireturn, 1) := by decide +kernel
theorem dX6_purse_22 : decode cX6_purse 22 = .ok (.iconst 0, 1) := by decide +kernel
theorem dX6_purse_23 : decode cX6_purse 23 = .ok (.istore_n 3, 1) := by decide +kernel
theorem dX6_purse_24 : decode cX6_purse 24 = .ok (.iload_n 3, 1) := by decide +kernel
theorem dX6_purse_25 : decode cX6_purse 25 = .ok (.bipush 100, 2) := by decide +kernel
theorem dX6_purse_27 : decode cX6_purse 27 = .ok (.if_icmp .ge 47, 3) := by decide +kernel
theorem dX6_purse_30 : decode cX6_purse 30 = .ok (.aload_n 0, 1) := by decide +kernel
theorem dX6_purse_31 : decode cX6_purse 31 = .ok (.invokevirtual 150, 3) := by decide +kernel
theorem dX6_purse_34 : decode cX6_purse 34 = .ok (.aload_n 0, 1) := by decide +kernel
theorem dX6_purse_35 : decode cX6_purse 35 = .ok (.getfield 7, 3) := by decide +kernel
theorem dX6_purse_38 : decode cX6_purse 38 = .ok (.sipush 450, 3) := by decide +kernel
theorem dX6_purse_41 : decode cX6_purse 41 = .ok (.iload_n 1, 1) := by decide +kernel
theorem dX6_purse_42 : decode cX6_purse 42 = .ok (.iadd, 1) := by decide +kernel
theorem dX6_purse_43 : decode cX6_purse 43 = .ok (.iload_n 3, 1) := by decide +kernel
theorem dX6_purse_44 : decode cX6_purse 44 = .ok (.iastore, 1) := by decide +kernel
theorem dX6_purse_45 : decode cX6_purse 45 = .ok (.aload_n 0, 1) := by decide +kernel
theorem dX6_purse_46 : decode cX6_purse 46 = .ok (.bipush (-4), 2) := by decide +kernel
theorem dX6_purse_48 : decode cX6_purse 48 = .ok (.iconst 0, 1) := by decide +kernel
theorem dX6_purse_49 : decode cX6_purse 49 = .ok (.invokevirtual 153, 3) := by decide +kernel
theorem dX6_purse_52 : decode cX6_purse 52 = .ok (.aload_n 0, 1) := by decide +kernel
theorem dX6_purse_53 : decode cX6_purse 53 = .ok (.getfield 7, 3) := by decide +kernel
theorem dX6_purse_56 : decode cX6_purse 56 = .ok (.sipush 446, 3) := by decide +kernel
theorem dX6_purse_59 : decode cX6_purse 59 = .ok (.iload_n 1, 1) := by decide +kernel
theorem dX6_purse_60 : decode cX6_purse 60 = .ok (.iadd, 1) := by decide +kernel
theorem dX6_purse_61 : decode cX6_purse 61 = .ok (.iaload, 1) := by decide +kernel
theorem dX6_purse_62 : decode cX6_purse 62 = .ok (.iload_n 2, 1) := by decide +kernel
theorem dX6_purse_63 : decode cX6_purse 63 = .ok (.if_icmp .gt 5, 3) := by decide +kernel
theorem dX6_purse_66 : decode cX6_purse 66 = .ok (.iload_n 3, 1) := by decide +kernel
theorem dX6_purse_67 : decode cX6_purse 67 = .ok (.ireturn, 1) := by decide +kernel
theorem dX6_purse_68 : decode cX6_purse 68 = .ok (.iinc 3 1, 3) := by decide +kernel
theorem dX6_purse_71 : decode cX6_purse 71 = .ok (.goto (-47), 3) := by decide +kernel
theorem dX6_purse_74 : decode cX6_purse 74 = .ok (.bipush (-4), 2) := by decide +kernel
theorem dX6_purse_76 : decode cX6_purse 76 = .ok (.ireturn, 1) := by decide +kernel
theorem dX6_loosened_0 : decode cX6_loosened 0 = .ok (.aload_n 0, 1) := by decide +kernel
theorem dX6_loosened_1 : decode cX6_loosened 1 = .ok (.iload_n 1, 1) := by decide +kernel
theorem dX6_loosened_2 : decode cX6_loosened 2 = .ok (.invokevirtual 42, 3) := by decide +kernel
theorem dX6_loosened_5 : decode cX6_loosened 5 = .ok (.ifCond .eq 13, 3) := by decide +kernel
theorem dX6_loosened_8 : decode cX6_loosened 8 = .ok (.iload_n 2, 1) := by decide +kernel
theorem dX6_loosened_9 : decode cX6_loosened 9 = .ok (.i2l, 1) := by decide +kernel
theorem dX6_loosened_10 : decode cX6_loosened 10 = .ok (.lconst 0, 1) := by decide +kernel
theorem dX6_loosened_11 : decode cX6_loosened 11 = .ok (.lconst 1, 1) := by decide +kernel
theorem dX6_loosened_12 : decode cX6_loosened 12 = .ok (.invokestatic 38, 3) := by decide +kernel
theorem dX6_loosened_15 : decode cX6_loosened 15 = .ok (.ifCond .ne 5, 3) := by decide +kernel
theorem dX6_loosened_18 : decode cX6_loosened 18 = .ok (.iconst (-1), 1) := by decide +kernel
theorem dX6_loosened_19 : decode cX6_loosened 19 = .ok (.ireturn, 1) := by decide +kernel
theorem dX6_loosened_20 : decode cX6_loosened 20 = .ok (.bipush (-4), 2) := by decide +kernel
theorem dX6_loosened_22 : decode cX6_loosened 22 = .ok (.istore_n 3, 1) := by decide +kernel
theorem dX6_loosened_23 : decode cX6_loosened 23 = .ok (.bipush (-4), 2) := by decide +kernel
theorem dX6_loosened_25 : decode cX6_loosened 25 = .ok (.istore 4, 2) := by decide +kernel
theorem dX6_loosened_27 : decode cX6_loosened 27 = .ok (.aload_n 0, 1) := by decide +kernel
theorem dX6_loosened_28 : decode cX6_loosened 28 = .ok (.getfield 7, 3) := by decide +kernel
theorem dX6_loosened_31 : decode cX6_loosened 31 = .ok (.bipush 8, 2) := by decide +kernel
theorem dX6_loosened_33 : decode cX6_loosened 33 = .ok (.iload_n 1, 1) := by decide +kernel
theorem dX6_loosened_34 : decode cX6_loosened 34 = .ok (.iadd, 1) := by decide +kernel
theorem dX6_loosened_35 : decode cX6_loosened 35 = .ok (.iaload, 1) := by decide +kernel
theorem dX6_loosened_36 : decode cX6_loosened 36 = .ok (.istore 5, 2) := by decide +kernel
theorem dX6_loosened_38 : decode cX6_loosened 38 = .ok (.iload 5, 2) := by decide +kernel
theorem dX6_loosened_40 : decode cX6_loosened 40 = .ok (.aload_n 0, 1) := by decide +kernel
theorem dX6_loosened_41 : decode cX6_loosened 41 = .ok (.getfield 7, 3) := by decide +kernel
theorem dX6_loosened_44 : decode cX6_loosened 44 = .ok (.bipush 21, 2) := by decide +kernel
theorem dX6_loosened_46 : decode cX6_loosened 46 = .ok (.iaload, 1) := by decide +kernel
theorem dX6_loosened_47 : decode cX6_loosened 47 = .ok (.if_icmp .ge 70, 3) := by decide +kernel
theorem dX6_loosened_50 : decode cX6_loosened 50 = .ok (.aload_n 0, 1) := by decide +kernel
theorem dX6_loosened_51 : decode cX6_loosened 51 = .ok (.invokevirtual 150, 3) := by decide +kernel
theorem dX6_loosened_54 : decode cX6_loosened 54 = .ok (.aload_n 0, 1) := by decide +kernel
theorem dX6_loosened_55 : decode cX6_loosened 55 = .ok (.iload_n 1, 1) := by decide +kernel
theorem dX6_loosened_56 : decode cX6_loosened 56 = .ok (.iconst 1, 1) := by decide +kernel
theorem dX6_loosened_57 : decode cX6_loosened 57 = .ok (.iload 5, 2) := by decide +kernel
theorem dX6_loosened_59 : decode cX6_loosened 59 = .ok (.ishl, 1) := by decide +kernel
theorem dX6_loosened_60 : decode cX6_loosened 60 = .ok (.invokevirtual 153, 3) := by decide +kernel
theorem dX6_loosened_63 : decode cX6_loosened 63 = .ok (.aload_n 0, 1) := by decide +kernel
theorem dX6_loosened_64 : decode cX6_loosened 64 = .ok (.getfield 7, 3) := by decide +kernel
theorem dX6_loosened_67 : decode cX6_loosened 67 = .ok (.sipush 446, 3) := by decide +kernel
theorem dX6_loosened_70 : decode cX6_loosened 70 = .ok (.iload_n 1, 1) := by decide +kernel
theorem dX6_loosened_71 : decode cX6_loosened 71 = .ok (.iadd, 1) := by decide +kernel
theorem dX6_loosened_72 : decode cX6_loosened 72 = .ok (.iaload, 1) := by decide +kernel
theorem dX6_loosened_73 : decode cX6_loosened 73 = .ok (.istore 6, 2) := by decide +kernel
theorem dX6_loosened_75 : decode cX6_loosened 75 = .ok (.iload_n 3, 1) := by decide +kernel
theorem dX6_loosened_76 : decode cX6_loosened 76 = .ok (.bipush (-4), 2) := by decide +kernel
theorem dX6_loosened_78 : decode cX6_loosened 78 = .ok (.if_icmp .eq 10, 3) := by decide +kernel
theorem dX6_loosened_81 : decode cX6_loosened 81 = .ok (.iload 6, 2) := by decide +kernel
theorem dX6_loosened_83 : decode cX6_loosened 83 = .ok (.iload 4, 2) := by decide +kernel
theorem dX6_loosened_85 : decode cX6_loosened 85 = .ok (.if_icmp .le 8, 3) := by decide +kernel
theorem dX6_loosened_88 : decode cX6_loosened 88 = .ok (.iload 5, 2) := by decide +kernel
theorem dX6_loosened_90 : decode cX6_loosened 90 = .ok (.goto 4, 3) := by decide +kernel
theorem dX6_loosened_93 : decode cX6_loosened 93 = .ok (.iload_n 3, 1) := by decide +kernel
theorem dX6_loosened_94 : decode cX6_loosened 94 = .ok (.istore_n 3, 1) := by decide +kernel
theorem dX6_loosened_95 : decode cX6_loosened 95 = .ok (.iload 6, 2) := by decide +kernel
theorem dX6_loosened_97 : decode cX6_loosened 97 = .ok (.iload 4, 2) := by decide +kernel
theorem dX6_loosened_99 : decode cX6_loosened 99 = .ok (.if_icmp .le 8, 3) := by decide +kernel
theorem dX6_loosened_102 : decode cX6_loosened 102 = .ok (.iload 6, 2) := by decide +kernel
theorem dX6_loosened_104 : decode cX6_loosened 104 = .ok (.goto 5, 3) := by decide +kernel
theorem dX6_loosened_107 : decode cX6_loosened 107 = .ok (.iload 4, 2) := by decide +kernel
theorem dX6_loosened_109 : decode cX6_loosened 109 = .ok (.istore 4, 2) := by decide +kernel
theorem dX6_loosened_111 : decode cX6_loosened 111 = .ok (.iinc 5 1, 3) := by decide +kernel
theorem dX6_loosened_114 : decode cX6_loosened 114 = .ok (.goto (-76), 3) := by decide +kernel
theorem dX6_loosened_117 : decode cX6_loosened 117 = .ok (.iload_n 2, 1) := by decide +kernel
theorem dX6_loosened_118 : decode cX6_loosened 118 = .ok (.ifCond .ne 7, 3) := by decide +kernel
theorem dX6_loosened_121 : decode cX6_loosened 121 = .ok (.iload_n 3, 1) := by decide +kernel
theorem dX6_loosened_122 : decode cX6_loosened 122 = .ok (.goto 5, 3) := by decide +kernel
theorem dX6_loosened_125 : decode cX6_loosened 125 = .ok (.iload 4, 2) := by decide +kernel
theorem dX6_loosened_127 : decode cX6_loosened 127 = .ok (.ireturn, 1) := by decide +kernel
theorem dX6_layDuel_0 : decode cX6_layDuel 0 = .ok (.iconst 0, 1) := by decide +kernel
theorem dX6_layDuel_1 : decode cX6_layDuel 1 = .ok (.istore_n 3, 1) := by decide +kernel
theorem dX6_layDuel_2 : decode cX6_layDuel 2 = .ok (.iload_n 3, 1) := by decide +kernel
theorem dX6_layDuel_3 : decode cX6_layDuel 3 = .ok (.aload_n 0, 1) := by decide +kernel
theorem dX6_layDuel_4 : decode cX6_layDuel 4 = .ok (.getfield 7, 3) := by decide +kernel
theorem dX6_layDuel_7 : decode cX6_layDuel 7 = .ok (.bipush 21, 2) := by decide +kernel
theorem dX6_layDuel_9 : decode cX6_layDuel 9 = .ok (.iaload, 1) := by decide +kernel
theorem dX6_layDuel_10 : decode cX6_layDuel 10 = .ok (.if_icmp .gt 133, 3) := by decide +kernel
theorem dX6_layDuel_13 : decode cX6_layDuel 13 = .ok (.iconst 0, 1) := by decide +kernel
theorem dX6_layDuel_14 : decode cX6_layDuel 14 = .ok (.istore 4, 2) := by decide +kernel
theorem dX6_layDuel_16 : decode cX6_layDuel 16 = .ok (.iload 4, 2) := by decide +kernel
theorem dX6_layDuel_18 : decode cX6_layDuel 18 = .ok (.aload_n 0, 1) := by decide +kernel
theorem dX6_layDuel_19 : decode cX6_layDuel 19 = .ok (.getfield 7, 3) := by decide +kernel
theorem dX6_layDuel_22 : decode cX6_layDuel 22 = .ok (.bipush 21, 2) := by decide +kernel
theorem dX6_layDuel_24 : decode cX6_layDuel 24 = .ok (.iaload, 1) := by decide +kernel
theorem dX6_layDuel_25 : decode cX6_layDuel 25 = .ok (.if_icmp .gt 112, 3) := by decide +kernel
theorem dX6_layDuel_28 : decode cX6_layDuel 28 = .ok (.aload_n 0, 1) := by decide +kernel
theorem dX6_layDuel_29 : decode cX6_layDuel 29 = .ok (.invokevirtual 150, 3) := by decide +kernel
theorem dX6_layDuel_32 : decode cX6_layDuel 32 = .ok (.aload_n 0, 1) := by decide +kernel
theorem dX6_layDuel_33 : decode cX6_layDuel 33 = .ok (.getfield 7, 3) := by decide +kernel
theorem dX6_layDuel_36 : decode cX6_layDuel 36 = .ok (.sipush 478, 3) := by decide +kernel
theorem dX6_layDuel_39 : decode cX6_layDuel 39 = .ok (.iload_n 1, 1) := by decide +kernel
theorem dX6_layDuel_40 : decode cX6_layDuel 40 = .ok (.iadd, 1) := by decide +kernel
theorem dX6_layDuel_41 : decode cX6_layDuel 41 = .ok (.iload_n 3, 1) := by decide +kernel
theorem dX6_layDuel_42 : decode cX6_layDuel 42 = .ok (.ifCond .ne 7, 3) := by decide +kernel
theorem dX6_layDuel_45 : decode cX6_layDuel 45 = .ok (.iconst 0, 1) := by decide +kernel
theorem dX6_layDuel_46 : decode cX6_layDuel 46 = .ok (.goto 8, 3) := by decide +kernel
theorem dX6_layDuel_49 : decode cX6_layDuel 49 = .ok (.iconst 1, 1) := by decide +kernel
theorem dX6_layDuel_50 : decode cX6_layDuel 50 = .ok (.iload_n 3, 1) := by decide +kernel
theorem dX6_layDuel_51 : decode cX6_layDuel 51 = .ok (.iconst 1, 1) := by decide +kernel
theorem dX6_layDuel_52 : decode cX6_layDuel 52 = .ok (.isub, 1) := by decide +kernel
theorem dX6_layDuel_53 : decode cX6_layDuel 53 = .ok (.ishl, 1) := by decide +kernel
theorem dX6_layDuel_54 : decode cX6_layDuel 54 = .ok (.iastore, 1) := by decide +kernel
theorem dX6_layDuel_55 : decode cX6_layDuel 55 = .ok (.aload_n 0, 1) := by decide +kernel
theorem dX6_layDuel_56 : decode cX6_layDuel 56 = .ok (.getfield 7, 3) := by decide +kernel
theorem dX6_layDuel_59 : decode cX6_layDuel 59 = .ok (.sipush 478, 3) := by decide +kernel
theorem dX6_layDuel_62 : decode cX6_layDuel 62 = .ok (.iload_n 2, 1) := by decide +kernel
theorem dX6_layDuel_63 : decode cX6_layDuel 63 = .ok (.iadd, 1) := by decide +kernel
theorem dX6_layDuel_64 : decode cX6_layDuel 64 = .ok (.iload 4, 2) := by decide +kernel
theorem dX6_layDuel_66 : decode cX6_layDuel 66 = .ok (.ifCond .ne 7, 3) := by decide +kernel
theorem dX6_layDuel_69 : decode cX6_layDuel 69 = .ok (.iconst 0, 1) := by decide +kernel
theorem dX6_layDuel_70 : decode cX6_layDuel 70 = .ok (.goto 9, 3) := by decide +kernel
theorem dX6_layDuel_73 : decode cX6_layDuel 73 = .ok (.iconst 1, 1) := by decide +kernel
theorem dX6_layDuel_74 : decode cX6_layDuel 74 = .ok (.iload 4, 2) := by decide +kernel
theorem dX6_layDuel_76 : decode cX6_layDuel 76 = .ok (.iconst 1, 1) := by decide +kernel
theorem dX6_layDuel_77 : decode cX6_layDuel 77 = .ok (.isub, 1) := by decide +kernel
theorem dX6_layDuel_78 : decode cX6_layDuel 78 = .ok (.ishl, 1) := by decide +kernel
theorem dX6_layDuel_79 : decode cX6_layDuel 79 = .ok (.iastore, 1) := by decide +kernel
theorem dX6_layDuel_80 : decode cX6_layDuel 80 = .ok (.aload_n 0, 1) := by decide +kernel
theorem dX6_layDuel_81 : decode cX6_layDuel 81 = .ok (.bipush (-4), 2) := by decide +kernel
theorem dX6_layDuel_83 : decode cX6_layDuel 83 = .ok (.iconst 0, 1) := by decide +kernel
theorem dX6_layDuel_84 : decode cX6_layDuel 84 = .ok (.invokevirtual 153, 3) := by decide +kernel
theorem dX6_layDuel_87 : decode cX6_layDuel 87 = .ok (.aload_n 0, 1) := by decide +kernel
theorem dX6_layDuel_88 : decode cX6_layDuel 88 = .ok (.getfield 29, 3) := by decide +kernel
theorem dX6_layDuel_91 : decode cX6_layDuel 91 = .ok (.bipush 9, 2) := by decide +kernel
theorem dX6_layDuel_93 : decode cX6_layDuel 93 = .ok (.iload_n 3, 1) := by decide +kernel
theorem dX6_layDuel_94 : decode cX6_layDuel 94 = .ok (.imul, 1) := by decide +kernel
theorem dX6_layDuel_95 : decode cX6_layDuel 95 = .ok (.iload 4, 2) := by decide +kernel
theorem dX6_layDuel_97 : decode cX6_layDuel 97 = .ok (.iadd, 1) := by decide +kernel
theorem dX6_layDuel_98 : decode cX6_layDuel 98 = .ok (.aload_n 0, 1) := by decide +kernel
theorem dX6_layDuel_99 : decode cX6_layDuel 99 = .ok (.getfield 7, 3) := by decide +kernel
theorem dX6_layDuel_102 : decode cX6_layDuel 102 = .ok (.sipush 446, 3) := by decide +kernel
theorem dX6_layDuel_105 : decode cX6_layDuel 105 = .ok (.iload_n 1, 1) := by decide +kernel
theorem dX6_layDuel_106 : decode cX6_layDuel 106 = .ok (.iadd, 1) := by decide +kernel
theorem dX6_layDuel_107 : decode cX6_layDuel 107 = .ok (.iaload, 1) := by decide +kernel
theorem dX6_layDuel_108 : decode cX6_layDuel 108 = .ok (.iastore, 1) := by decide +kernel
theorem dX6_layDuel_109 : decode cX6_layDuel 109 = .ok (.aload_n 0, 1) := by decide +kernel
theorem dX6_layDuel_110 : decode cX6_layDuel 110 = .ok (.getfield 32, 3) := by decide +kernel
theorem dX6_layDuel_113 : decode cX6_layDuel 113 = .ok (.bipush 9, 2) := by decide +kernel
theorem dX6_layDuel_115 : decode cX6_layDuel 115 = .ok (.iload_n 3, 1) := by decide +kernel
theorem dX6_layDuel_116 : decode cX6_layDuel 116 = .ok (.imul, 1) := by decide +kernel
theorem dX6_layDuel_117 : decode cX6_layDuel 117 = .ok (.iload 4, 2) := by decide +kernel
theorem dX6_layDuel_119 : decode cX6_layDuel 119 = .ok (.iadd, 1) := by decide +kernel
theorem dX6_layDuel_120 : decode cX6_layDuel 120 = .ok (.aload_n 0, 1) := by decide +kernel
theorem dX6_layDuel_121 : decode cX6_layDuel 121 = .ok (.getfield 7, 3) := by decide +kernel
theorem dX6_layDuel_124 : decode cX6_layDuel 124 = .ok (.sipush 446, 3) := by decide +kernel
theorem dX6_layDuel_127 : decode cX6_layDuel 127 = .ok (.iload_n 2, 1) := by decide +kernel
theorem dX6_layDuel_128 : decode cX6_layDuel 128 = .ok (.iadd, 1) := by decide +kernel
theorem dX6_layDuel_129 : decode cX6_layDuel 129 = .ok (.iaload, 1) := by decide +kernel
theorem dX6_layDuel_130 : decode cX6_layDuel 130 = .ok (.iastore, 1) := by decide +kernel
theorem dX6_layDuel_131 : decode cX6_layDuel 131 = .ok (.iinc 4 1, 3) := by decide +kernel
theorem dX6_layDuel_134 : decode cX6_layDuel 134 = .ok (.goto (-118), 3) := by decide +kernel
theorem dX6_layDuel_137 : decode cX6_layDuel 137 = .ok (.iinc 3 1, 3) := by decide +kernel
theorem dX6_layDuel_140 : decode cX6_layDuel 140 = .ok (.goto (-138), 3) := by decide +kernel
theorem dX6_layDuel_143 : decode cX6_layDuel 143 = .ok (.return_, 1) := by decide +kernel
theorem dX6_rests_0 : decode cX6_rests 0 = .ok (.iconst 1, 1) := by decide +kernel
theorem dX6_rests_1 : decode cX6_rests 1 = .ok (.istore_n 3, 1) := by decide +kernel
theorem dX6_rests_2 : decode cX6_rests 2 = .ok (.iconst 0, 1) := by decide +kernel
theorem dX6_rests_3 : decode cX6_rests 3 = .ok (.istore 4, 2) := by decide +kernel
theorem dX6_rests_5 : decode cX6_rests 5 = .ok (.iload 4, 2) := by decide +kernel
theorem dX6_rests_7 : decode cX6_rests 7 = .ok (.aload_n 0, 1) := by decide +kernel
theorem dX6_rests_8 : decode cX6_rests 8 = .ok (.getfield 7, 3) := by decide +kernel
theorem dX6_rests_11 : decode cX6_rests 11 = .ok (.bipush 21, 2) := by decide +kernel
theorem dX6_rests_13 : decode cX6_rests 13 = .ok (.iaload, 1) := by decide +kernel
theorem dX6_rests_14 : decode cX6_rests 14 = .ok (.if_icmp .gt 71, 3) := by decide +kernel
theorem dX6_rests_17 : decode cX6_rests 17 = .ok (.iload_n 3, 1) := by decide +kernel
theorem dX6_rests_18 : decode cX6_rests 18 = .ok (.ifCond .eq 59, 3) := by decide +kernel
theorem dX6_rests_21 : decode cX6_rests 21 = .ok (.aload_n 0, 1) := by decide +kernel
theorem dX6_rests_22 : decode cX6_rests 22 = .ok (.getfield 29, 3) := by decide +kernel
theorem dX6_rests_25 : decode cX6_rests 25 = .ok (.bipush 9, 2) := by decide +kernel
theorem dX6_rests_27 : decode cX6_rests 27 = .ok (.iload 4, 2) := by decide +kernel
theorem dX6_rests_29 : decode cX6_rests 29 = .ok (.imul, 1) := by decide +kernel
theorem dX6_rests_30 : decode cX6_rests 30 = .ok (.iload_n 2, 1) := by decide +kernel
theorem dX6_rests_31 : decode cX6_rests 31 = .ok (.iadd, 1) := by decide +kernel
theorem dX6_rests_32 : decode cX6_rests 32 = .ok (.iaload, 1) := by decide +kernel
theorem dX6_rests_33 : decode cX6_rests 33 = .ok (.aload_n 0, 1) := by decide +kernel
theorem dX6_rests_34 : decode cX6_rests 34 = .ok (.getfield 29, 3) := by decide +kernel
theorem dX6_rests_37 : decode cX6_rests 37 = .ok (.bipush 9, 2) := by decide +kernel
theorem dX6_rests_39 : decode cX6_rests 39 = .ok (.iload_n 1, 1) := by decide +kernel
theorem dX6_rests_40 : decode cX6_rests 40 = .ok (.imul, 1) := by decide +kernel
theorem dX6_rests_41 : decode cX6_rests 41 = .ok (.iload_n 2, 1) := by decide +kernel
theorem dX6_rests_42 : decode cX6_rests 42 = .ok (.iadd, 1) := by decide +kernel
theorem dX6_rests_43 : decode cX6_rests 43 = .ok (.iaload, 1) := by decide +kernel
theorem dX6_rests_44 : decode cX6_rests 44 = .ok (.if_icmp .lt 33, 3) := by decide +kernel
theorem dX6_rests_47 : decode cX6_rests 47 = .ok (.aload_n 0, 1) := by decide +kernel
theorem dX6_rests_48 : decode cX6_rests 48 = .ok (.getfield 32, 3) := by decide +kernel
theorem dX6_rests_51 : decode cX6_rests 51 = .ok (.bipush 9, 2) := by decide +kernel
theorem dX6_rests_53 : decode cX6_rests 53 = .ok (.iload_n 1, 1) := by decide +kernel
theorem dX6_rests_54 : decode cX6_rests 54 = .ok (.imul, 1) := by decide +kernel
theorem dX6_rests_55 : decode cX6_rests 55 = .ok (.iload 4, 2) := by decide +kernel
theorem dX6_rests_57 : decode cX6_rests 57 = .ok (.iadd, 1) := by decide +kernel
theorem dX6_rests_58 : decode cX6_rests 58 = .ok (.iaload, 1) := by decide +kernel
theorem dX6_rests_59 : decode cX6_rests 59 = .ok (.aload_n 0, 1) := by decide +kernel
theorem dX6_rests_60 : decode cX6_rests 60 = .ok (.getfield 32, 3) := by decide +kernel
theorem dX6_rests_63 : decode cX6_rests 63 = .ok (.bipush 9, 2) := by decide +kernel
theorem dX6_rests_65 : decode cX6_rests 65 = .ok (.iload_n 1, 1) := by decide +kernel
theorem dX6_rests_66 : decode cX6_rests 66 = .ok (.imul, 1) := by decide +kernel
theorem dX6_rests_67 : decode cX6_rests 67 = .ok (.iload_n 2, 1) := by decide +kernel
theorem dX6_rests_68 : decode cX6_rests 68 = .ok (.iadd, 1) := by decide +kernel
theorem dX6_rests_69 : decode cX6_rests 69 = .ok (.iaload, 1) := by decide +kernel
theorem dX6_rests_70 : decode cX6_rests 70 = .ok (.if_icmp .lt 7, 3) := by decide +kernel
theorem dX6_rests_73 : decode cX6_rests 73 = .ok (.iconst 1, 1) := by decide +kernel
theorem dX6_rests_74 : decode cX6_rests 74 = .ok (.goto 4, 3) := by decide +kernel
theorem dX6_rests_77 : decode cX6_rests 77 = .ok (.iconst 0, 1) := by decide +kernel
theorem dX6_rests_78 : decode cX6_rests 78 = .ok (.istore_n 3, 1) := by decide +kernel
theorem dX6_rests_79 : decode cX6_rests 79 = .ok (.iinc 4 1, 3) := by decide +kernel
theorem dX6_rests_82 : decode cX6_rests 82 = .ok (.goto (-77), 3) := by decide +kernel
theorem dX6_rests_85 : decode cX6_rests 85 = .ok (.iload_n 3, 1) := by decide +kernel
theorem dX6_rests_86 : decode cX6_rests 86 = .ok (.ireturn, 1) := by decide +kernel
theorem dX6_duel_0 : decode cX6_duel 0 = .ok (.aload_n 0, 1) := by decide +kernel
theorem dX6_duel_1 : decode cX6_duel 1 = .ok (.iload_n 1, 1) := by decide +kernel
theorem dX6_duel_2 : decode cX6_duel 2 = .ok (.iload_n 2, 1) := by decide +kernel
theorem dX6_duel_3 : decode cX6_duel 3 = .ok (.invokevirtual 144, 3) := by decide +kernel
theorem dX6_duel_6 : decode cX6_duel 6 = .ok (.ifCond .eq 13, 3) := by decide +kernel
theorem dX6_duel_9 : decode cX6_duel 9 = .ok (.iload_n 3, 1) := by decide +kernel
theorem dX6_duel_10 : decode cX6_duel 10 = .ok (.i2l, 1) := by decide +kernel
theorem dX6_duel_11 : decode cX6_duel 11 = .ok (.lconst 0, 1) := by decide +kernel
theorem dX6_duel_12 : decode cX6_duel 12 = .ok (.lconst 1, 1) := by decide +kernel
theorem dX6_duel_13 : decode cX6_duel 13 = .ok (.invokestatic 38, 3) := by decide +kernel
theorem dX6_duel_16 : decode cX6_duel 16 = .ok (.ifCond .ne 5, 3) := by decide +kernel
theorem dX6_duel_19 : decode cX6_duel 19 = .ok (.iconst (-1), 1) := by decide +kernel
theorem dX6_duel_20 : decode cX6_duel 20 = .ok (.ireturn, 1) := by decide +kernel
theorem dX6_duel_21 : decode cX6_duel 21 = .ok (.aload_n 0, 1) := by decide +kernel
theorem dX6_duel_22 : decode cX6_duel 22 = .ok (.iload_n 1, 1) := by decide +kernel
theorem dX6_duel_23 : decode cX6_duel 23 = .ok (.iload_n 2, 1) := by decide +kernel
theorem dX6_duel_24 : decode cX6_duel 24 = .ok (.invokevirtual 168, 3) := by decide +kernel
theorem dX6_duel_27 : decode cX6_duel 27 = .ok (.iconst 0, 1) := by decide +kernel
theorem dX6_duel_28 : decode cX6_duel 28 = .ok (.istore 4, 2) := by decide +kernel
theorem dX6_duel_30 : decode cX6_duel 30 = .ok (.bipush (-4), 2) := by decide +kernel
theorem dX6_duel_32 : decode cX6_duel 32 = .ok (.istore 5, 2) := by decide +kernel
theorem dX6_duel_34 : decode cX6_duel 34 = .ok (.iconst 0, 1) := by decide +kernel
theorem dX6_duel_35 : decode cX6_duel 35 = .ok (.istore 6, 2) := by decide +kernel
theorem dX6_duel_37 : decode cX6_duel 37 = .ok (.iload 6, 2) := by decide +kernel
theorem dX6_duel_39 : decode cX6_duel 39 = .ok (.aload_n 0, 1) := by decide +kernel
theorem dX6_duel_40 : decode cX6_duel 40 = .ok (.getfield 7, 3) := by decide +kernel
theorem dX6_duel_43 : decode cX6_duel 43 = .ok (.bipush 21, 2) := by decide +kernel
theorem dX6_duel_45 : decode cX6_duel 45 = .ok (.iaload, 1) := by decide +kernel
theorem dX6_duel_46 : decode cX6_duel 46 = .ok (.if_icmp .gt 82, 3) := by decide +kernel
theorem dX6_duel_49 : decode cX6_duel 49 = .ok (.iconst 0, 1) := by decide +kernel
theorem dX6_duel_50 : decode cX6_duel 50 = .ok (.istore 7, 2) := by decide +kernel
theorem dX6_duel_52 : decode cX6_duel 52 = .ok (.iload 7, 2) := by decide +kernel
theorem dX6_duel_54 : decode cX6_duel 54 = .ok (.aload_n 0, 1) := by decide +kernel
theorem dX6_duel_55 : decode cX6_duel 55 = .ok (.getfield 7, 3) := by decide +kernel
theorem dX6_duel_58 : decode cX6_duel 58 = .ok (.bipush 21, 2) := by decide +kernel
theorem dX6_duel_60 : decode cX6_duel 60 = .ok (.iaload, 1) := by decide +kernel
theorem dX6_duel_61 : decode cX6_duel 61 = .ok (.if_icmp .gt 61, 3) := by decide +kernel
theorem dX6_duel_64 : decode cX6_duel 64 = .ok (.aload_n 0, 1) := by decide +kernel
theorem dX6_duel_65 : decode cX6_duel 65 = .ok (.iload 6, 2) := by decide +kernel
theorem dX6_duel_67 : decode cX6_duel 67 = .ok (.iload 7, 2) := by decide +kernel
theorem dX6_duel_69 : decode cX6_duel 69 = .ok (.invokevirtual 171, 3) := by decide +kernel
theorem dX6_duel_72 : decode cX6_duel 72 = .ok (.istore 8, 2) := by decide +kernel
theorem dX6_duel_74 : decode cX6_duel 74 = .ok (.iload 8, 2) := by decide +kernel
theorem dX6_duel_76 : decode cX6_duel 76 = .ok (.ifCond .eq 21, 3) := by decide +kernel
theorem dX6_duel_79 : decode cX6_duel 79 = .ok (.iload 5, 2) := by decide +kernel
theorem dX6_duel_81 : decode cX6_duel 81 = .ok (.bipush (-4), 2) := by decide +kernel
theorem dX6_duel_83 : decode cX6_duel 83 = .ok (.if_icmp .ne 14, 3) := by decide +kernel
theorem dX6_duel_86 : decode cX6_duel 86 = .ok (.bipush 100, 2) := by decide +kernel
theorem dX6_duel_88 : decode cX6_duel 88 = .ok (.iload 6, 2) := by decide +kernel
theorem dX6_duel_90 : decode cX6_duel 90 = .ok (.imul, 1) := by decide +kernel
theorem dX6_duel_91 : decode cX6_duel 91 = .ok (.iload 7, 2) := by decide +kernel
theorem dX6_duel_93 : decode cX6_duel 93 = .ok (.iadd, 1) := by decide +kernel
theorem dX6_duel_94 : decode cX6_duel 94 = .ok (.goto 5, 3) := by decide +kernel
theorem dX6_duel_97 : decode cX6_duel 97 = .ok (.iload 5, 2) := by decide +kernel
theorem dX6_duel_99 : decode cX6_duel 99 = .ok (.istore 5, 2) := by decide +kernel
theorem dX6_duel_101 : decode cX6_duel 101 = .ok (.iload 4, 2) := by decide +kernel
theorem dX6_duel_103 : decode cX6_duel 103 = .ok (.iload 8, 2) := by decide +kernel
theorem dX6_duel_105 : decode cX6_duel 105 = .ok (.ifCond .eq 7, 3) := by decide +kernel
theorem dX6_duel_108 : decode cX6_duel 108 = .ok (.iconst 1, 1) := by decide +kernel
theorem dX6_duel_109 : decode cX6_duel 109 = .ok (.goto 4, 3) := by decide +kernel
theorem dX6_duel_112 : decode cX6_duel 112 = .ok (.iconst 0, 1) := by decide +kernel
theorem dX6_duel_113 : decode cX6_duel 113 = .ok (.iadd, 1) := by decide +kernel
theorem dX6_duel_114 : decode cX6_duel 114 = .ok (.istore 4, 2) := by decide +kernel
theorem dX6_duel_116 : decode cX6_duel 116 = .ok (.iinc 7 1, 3) := by decide +kernel
theorem dX6_duel_119 : decode cX6_duel 119 = .ok (.goto (-67), 3) := by decide +kernel
theorem dX6_duel_122 : decode cX6_duel 122 = .ok (.iinc 6 1, 3) := by decide +kernel
theorem dX6_duel_125 : decode cX6_duel 125 = .ok (.goto (-88), 3) := by decide +kernel
theorem dX6_duel_128 : decode cX6_duel 128 = .ok (.iload_n 3, 1) := by decide +kernel
theorem dX6_duel_129 : decode cX6_duel 129 = .ok (.ifCond .ne 8, 3) := by decide +kernel
theorem dX6_duel_132 : decode cX6_duel 132 = .ok (.iload 4, 2) := by decide +kernel
theorem dX6_duel_134 : decode cX6_duel 134 = .ok (.goto 5, 3) := by decide +kernel
theorem dX6_duel_137 : decode cX6_duel 137 = .ok (.iload 5, 2) := by decide +kernel
theorem dX6_duel_139 : decode cX6_duel 139 = .ok (.ireturn, 1) := by decide +kernel
theorem dX6_luck_0 : decode cX6_luck 0 = .ok (.aload_n 0, 1) := by decide +kernel
theorem dX6_luck_1 : decode cX6_luck 1 = .ok (.iload_n 1, 1) := by decide +kernel
theorem dX6_luck_2 : decode cX6_luck 2 = .ok (.invokevirtual 42, 3) := by decide +kernel
theorem dX6_luck_5 : decode cX6_luck 5 = .ok (.ifCond .eq 25, 3) := by decide +kernel
theorem dX6_luck_8 : decode cX6_luck 8 = .ok (.iload_n 2, 1) := by decide +kernel
theorem dX6_luck_9 : decode cX6_luck 9 = .ok (.i2l, 1) := by decide +kernel
theorem dX6_luck_10 : decode cX6_luck 10 = .ok (.lconst 0, 1) := by decide +kernel
theorem dX6_luck_11 : decode cX6_luck 11 = .ok (.ldc2_w 174, 3) := by decide +kernel
theorem dX6_luck_14 : decode cX6_luck 14 = .ok (.invokestatic 38, 3) := by decide +kernel
theorem dX6_luck_17 : decode cX6_luck 17 = .ok (.ifCond .eq 13, 3) := by decide +kernel
theorem dX6_luck_20 : decode cX6_luck 20 = .ok (.iload_n 3, 1) := by decide +kernel
theorem dX6_luck_21 : decode cX6_luck 21 = .ok (.i2l, 1) := by decide +kernel
theorem dX6_luck_22 : decode cX6_luck 22 = .ok (.lconst 0, 1) := by decide +kernel
theorem dX6_luck_23 : decode cX6_luck 23 = .ok (.lconst 1, 1) := by decide +kernel
theorem dX6_luck_24 : decode cX6_luck 24 = .ok (.invokestatic 38, 3) := by decide +kernel
theorem dX6_luck_27 : decode cX6_luck 27 = .ok (.ifCond .ne 5, 3) := by decide +kernel
theorem dX6_luck_30 : decode cX6_luck 30 = .ok (.iconst (-1), 1) := by decide +kernel
theorem dX6_luck_31 : decode cX6_luck 31 = .ok (.ireturn, 1) := by decide +kernel
theorem dX6_luck_32 : decode cX6_luck 32 = .ok (.aload_n 0, 1) := by decide +kernel
theorem dX6_luck_33 : decode cX6_luck 33 = .ok (.getfield 7, 3) := by decide +kernel
theorem dX6_luck_36 : decode cX6_luck 36 = .ok (.bipush 8, 2) := by decide +kernel
theorem dX6_luck_38 : decode cX6_luck 38 = .ok (.iload_n 1, 1) := by decide +kernel
theorem dX6_luck_39 : decode cX6_luck 39 = .ok (.iadd, 1) := by decide +kernel
theorem dX6_luck_40 : decode cX6_luck 40 = .ok (.iaload, 1) := by decide +kernel
theorem dX6_luck_41 : decode cX6_luck 41 = .ok (.istore 4, 2) := by decide +kernel
theorem dX6_luck_43 : decode cX6_luck 43 = .ok (.aload_n 0, 1) := by decide +kernel
theorem dX6_luck_44 : decode cX6_luck 44 = .ok (.getfield 7, 3) := by decide +kernel
theorem dX6_luck_47 : decode cX6_luck 47 = .ok (.bipush 21, 2) := by decide +kernel
theorem dX6_luck_49 : decode cX6_luck 49 = .ok (.iaload, 1) := by decide +kernel
theorem dX6_luck_50 : decode cX6_luck 50 = .ok (.iload 4, 2) := by decide +kernel
theorem dX6_luck_52 : decode cX6_luck 52 = .ok (.isub, 1) := by decide +kernel
theorem dX6_luck_53 : decode cX6_luck 53 = .ok (.istore 5, 2) := by decide +kernel
theorem dX6_luck_55 : decode cX6_luck 55 = .ok (.iconst 0, 1) := by decide +kernel
theorem dX6_luck_56 : decode cX6_luck 56 = .ok (.istore 6, 2) := by decide +kernel
theorem dX6_luck_58 : decode cX6_luck 58 = .ok (.iconst 1, 1) := by decide +kernel
theorem dX6_luck_59 : decode cX6_luck 59 = .ok (.istore 7, 2) := by decide +kernel
theorem dX6_luck_61 : decode cX6_luck 61 = .ok (.iconst 0, 1) := by decide +kernel
theorem dX6_luck_62 : decode cX6_luck 62 = .ok (.istore 8, 2) := by decide +kernel
theorem dX6_luck_64 : decode cX6_luck 64 = .ok (.iload 8, 2) := by decide +kernel
theorem dX6_luck_66 : decode cX6_luck 66 = .ok (.iload 5, 2) := by decide +kernel
theorem dX6_luck_68 : decode cX6_luck 68 = .ok (.if_icmp .ge 16, 3) := by decide +kernel
theorem dX6_luck_71 : decode cX6_luck 71 = .ok (.iload 7, 2) := by decide +kernel
theorem dX6_luck_73 : decode cX6_luck 73 = .ok (.bipush 10, 2) := by decide +kernel
theorem dX6_luck_75 : decode cX6_luck 75 = .ok (.imul, 1) := by decide +kernel
theorem dX6_luck_76 : decode cX6_luck 76 = .ok (.istore 7, 2) := by decide +kernel
theorem dX6_luck_78 : decode cX6_luck 78 = .ok (.iinc 8 1, 3) := by decide +kernel
theorem dX6_luck_81 : decode cX6_luck 81 = .ok (.goto (-17), 3) := by decide +kernel
theorem dX6_luck_84 : decode cX6_luck 84 = .ok (.iconst 0, 1) := by decide +kernel
theorem dX6_luck_85 : decode cX6_luck 85 = .ok (.istore 8, 2) := by decide +kernel
theorem dX6_luck_87 : decode cX6_luck 87 = .ok (.iload 8, 2) := by decide +kernel
theorem dX6_luck_89 : decode cX6_luck 89 = .ok (.iconst 1, 1) := by decide +kernel
theorem dX6_luck_90 : decode cX6_luck 90 = .ok (.iload 5, 2) := by decide +kernel
theorem dX6_luck_92 : decode cX6_luck 92 = .ok (.ishl, 1) := by decide +kernel
theorem dX6_luck_93 : decode cX6_luck 93 = .ok (.if_icmp .ge 84, 3) := by decide +kernel
theorem dX6_luck_96 : decode cX6_luck 96 = .ok (.iconst 1, 1) := by decide +kernel
theorem dX6_luck_97 : decode cX6_luck 97 = .ok (.istore 9, 2) := by decide +kernel
theorem dX6_luck_99 : decode cX6_luck 99 = .ok (.iconst 0, 1) := by decide +kernel
theorem dX6_luck_100 : decode cX6_luck 100 = .ok (.istore 10, 2) := by decide +kernel
theorem dX6_luck_102 : decode cX6_luck 102 = .ok (.iload 10, 2) := by decide +kernel
theorem dX6_luck_104 : decode cX6_luck 104 = .ok (.iload 5, 2) := by decide +kernel
theorem dX6_luck_106 : decode cX6_luck 106 = .ok (.if_icmp .ge 32, 3) := by decide +kernel
theorem dX6_luck_109 : decode cX6_luck 109 = .ok (.iload 9, 2) := by decide +kernel
theorem dX6_luck_111 : decode cX6_luck 111 = .ok (.iload 8, 2) := by decide +kernel
theorem dX6_luck_113 : decode cX6_luck 113 = .ok (.iload 10, 2) := by decide +kernel
theorem dX6_luck_115 : decode cX6_luck 115 = .ok (.invokestatic 122, 3) := by decide +kernel
theorem dX6_luck_118 : decode cX6_luck 118 = .ok (.ifCond .eq 7, 3) := by decide +kernel
theorem dX6_luck_121 : decode cX6_luck 121 = .ok (.iload_n 2, 1) := by decide +kernel
theorem dX6_luck_122 : decode cX6_luck 122 = .ok (.goto 7, 3) := by decide +kernel
theorem dX6_luck_125 : decode cX6_luck 125 = .ok (.bipush 10, 2) := by decide +kernel
theorem dX6_luck_127 : decode cX6_luck 127 = .ok (.iload_n 2, 1) := by decide +kernel
theorem dX6_luck_128 : decode cX6_luck 128 = .ok (.isub, 1) := by decide +kernel
theorem dX6_luck_129 : decode cX6_luck 129 = .ok (.imul, 1) := by decide +kernel
theorem dX6_luck_130 : decode cX6_luck 130 = .ok (.istore 9, 2) := by decide +kernel
theorem dX6_luck_132 : decode cX6_luck 132 = .ok (.iinc 10 1, 3) := by decide +kernel
theorem dX6_luck_135 : decode cX6_luck 135 = .ok (.goto (-33), 3) := by decide +kernel
theorem dX6_luck_138 : decode cX6_luck 138 = .ok (.aload_n 0, 1) := by decide +kernel
theorem dX6_luck_139 : decode cX6_luck 139 = .ok (.invokevirtual 150, 3) := by decide +kernel
theorem dX6_luck_142 : decode cX6_luck 142 = .ok (.aload_n 0, 1) := by decide +kernel
theorem dX6_luck_143 : decode cX6_luck 143 = .ok (.iload_n 1, 1) := by decide +kernel
theorem dX6_luck_144 : decode cX6_luck 144 = .ok (.iload 8, 2) := by decide +kernel
theorem dX6_luck_146 : decode cX6_luck 146 = .ok (.iload 4, 2) := by decide +kernel
theorem dX6_luck_148 : decode cX6_luck 148 = .ok (.ishl, 1) := by decide +kernel
theorem dX6_luck_149 : decode cX6_luck 149 = .ok (.invokevirtual 153, 3) := by decide +kernel
theorem dX6_luck_152 : decode cX6_luck 152 = .ok (.iload 6, 2) := by decide +kernel
theorem dX6_luck_154 : decode cX6_luck 154 = .ok (.aload_n 0, 1) := by decide +kernel
theorem dX6_luck_155 : decode cX6_luck 155 = .ok (.invokevirtual 159, 3) := by decide +kernel
theorem dX6_luck_158 : decode cX6_luck 158 = .ok (.iload_n 1, 1) := by decide +kernel
theorem dX6_luck_159 : decode cX6_luck 159 = .ok (.if_icmp .ne 8, 3) := by decide +kernel
theorem dX6_luck_162 : decode cX6_luck 162 = .ok (.iload 9, 2) := by decide +kernel
theorem dX6_luck_164 : decode cX6_luck 164 = .ok (.goto 4, 3) := by decide +kernel
theorem dX6_luck_167 : decode cX6_luck 167 = .ok (.iconst 0, 1) := by decide +kernel
theorem dX6_luck_168 : decode cX6_luck 168 = .ok (.iadd, 1) := by decide +kernel
theorem dX6_luck_169 : decode cX6_luck 169 = .ok (.istore 6, 2) := by decide +kernel
theorem dX6_luck_171 : decode cX6_luck 171 = .ok (.iinc 8 1, 3) := by decide +kernel
theorem dX6_luck_174 : decode cX6_luck 174 = .ok (.goto (-87), 3) := by decide +kernel
theorem dX6_luck_177 : decode cX6_luck 177 = .ok (.iload 6, 2) := by decide +kernel
theorem dX6_luck_179 : decode cX6_luck 179 = .ok (.istore 8, 2) := by decide +kernel
theorem dX6_luck_181 : decode cX6_luck 181 = .ok (.iload 7, 2) := by decide +kernel
theorem dX6_luck_183 : decode cX6_luck 183 = .ok (.istore 9, 2) := by decide +kernel
theorem dX6_luck_185 : decode cX6_luck 185 = .ok (.iload 9, 2) := by decide +kernel
theorem dX6_luck_187 : decode cX6_luck 187 = .ok (.ifCond .eq 21, 3) := by decide +kernel
theorem dX6_luck_190 : decode cX6_luck 190 = .ok (.iload 8, 2) := by decide +kernel
theorem dX6_luck_192 : decode cX6_luck 192 = .ok (.iload 9, 2) := by decide +kernel
theorem dX6_luck_194 : decode cX6_luck 194 = .ok (.irem, 1) := by decide +kernel
theorem dX6_luck_195 : decode cX6_luck 195 = .ok (.istore 10, 2) := by decide +kernel
theorem dX6_luck_197 : decode cX6_luck 197 = .ok (.iload 9, 2) := by decide +kernel
theorem dX6_luck_199 : decode cX6_luck 199 = .ok (.istore 8, 2) := by decide +kernel
theorem dX6_luck_201 : decode cX6_luck 201 = .ok (.iload 10, 2) := by decide +kernel
theorem dX6_luck_203 : decode cX6_luck 203 = .ok (.istore 9, 2) := by decide +kernel
theorem dX6_luck_205 : decode cX6_luck 205 = .ok (.goto (-20), 3) := by decide +kernel
theorem dX6_luck_208 : decode cX6_luck 208 = .ok (.iload_n 3, 1) := by decide +kernel
theorem dX6_luck_209 : decode cX6_luck 209 = .ok (.ifCond .ne 11, 3) := by decide +kernel
theorem dX6_luck_212 : decode cX6_luck 212 = .ok (.iload 6, 2) := by decide +kernel
theorem dX6_luck_214 : decode cX6_luck 214 = .ok (.iload 8, 2) := by decide +kernel
theorem dX6_luck_216 : decode cX6_luck 216 = .ok (.idiv, 1) := by decide +kernel
theorem dX6_luck_217 : decode cX6_luck 217 = .ok (.goto 8, 3) := by decide +kernel
theorem dX6_luck_220 : decode cX6_luck 220 = .ok (.iload 7, 2) := by decide +kernel
theorem dX6_luck_222 : decode cX6_luck 222 = .ok (.iload 8, 2) := by decide +kernel
theorem dX6_luck_224 : decode cX6_luck 224 = .ok (.idiv, 1) := by decide +kernel
theorem dX6_luck_225 : decode cX6_luck 225 = .ok (.ireturn, 1) := by decide +kernel
theorem dX6_image_0 : decode cX6_image 0 = .ok (.aload_n 0, 1) := by decide +kernel
theorem dX6_image_1 : decode cX6_image 1 = .ok (.iconst 0, 1) := by decide +kernel
theorem dX6_image_2 : decode cX6_image 2 = .ok (.sipush 217, 3) := by decide +kernel
theorem dX6_image_5 : decode cX6_image 5 = .ok (.sipush 217, 3) := by decide +kernel
theorem dX6_image_8 : decode cX6_image 8 = .ok (.invokevirtual 118, 3) := by decide +kernel
theorem dX6_image_11 : decode cX6_image 11 = .ok (.aload_n 0, 1) := by decide +kernel
theorem dX6_image_12 : decode cX6_image 12 = .ok (.iconst 1, 1) := by decide +kernel
theorem dX6_image_13 : decode cX6_image 13 = .ok (.putfield 176, 3) := by decide +kernel
theorem dX6_image_16 : decode cX6_image 16 = .ok (.iconst 1, 1) := by decide +kernel
theorem dX6_image_17 : decode cX6_image 17 = .ok (.ireturn, 1) := by decide +kernel
theorem dX6_restore_0 : decode cX6_restore 0 = .ok (.aload_n 0, 1) := by decide +kernel
theorem dX6_restore_1 : decode cX6_restore 1 = .ok (.getfield 176, 3) := by decide +kernel
theorem dX6_restore_4 : decode cX6_restore 4 = .ok (.ifCond .ne 6, 3) := by decide +kernel
theorem dX6_restore_7 : decode cX6_restore 7 = .ok (.bipush (-4), 2) := by decide +kernel
theorem dX6_restore_9 : decode cX6_restore 9 = .ok (.ireturn, 1) := by decide +kernel
theorem dX6_restore_10 : decode cX6_restore 10 = .ok (.aload_n 0, 1) := by decide +kernel
theorem dX6_restore_11 : decode cX6_restore 11 = .ok (.sipush 217, 3) := by decide +kernel
theorem dX6_restore_14 : decode cX6_restore 14 = .ok (.iconst 0, 1) := by decide +kernel
theorem dX6_restore_15 : decode cX6_restore 15 = .ok (.sipush 217, 3) := by decide +kernel
theorem dX6_restore_18 : decode cX6_restore 18 = .ok (.invokevirtual 118, 3) := by decide +kernel
theorem dX6_restore_21 : decode cX6_restore 21 = .ok (.iconst 1, 1) := by decide +kernel
theorem dX6_restore_22 : decode cX6_restore 22 = .ok (.ireturn, 1) := by decide +kernel
theorem dX6_isSheet_0 : decode cX6_isSheet 0 = .ok (.iload_n 0, 1) := by decide +kernel
theorem dX6_isSheet_1 : decode cX6_isSheet 1 = .ok (.i2l, 1) := by decide +kernel
theorem dX6_isSheet_2 : decode cX6_isSheet 2 = .ok (.lconst 0, 1) := by decide +kernel
theorem dX6_isSheet_3 : decode cX6_isSheet 3 = .ok (.ldc2_w 180, 3) := by decide +kernel
theorem dX6_isSheet_6 : decode cX6_isSheet 6 = .ok (.invokestatic 38, 3) := by decide +kernel
theorem dX6_isSheet_9 : decode cX6_isSheet 9 = .ok (.ireturn, 1) := by decide +kernel
theorem dX6_isLane_0 : decode cX6_isLane 0 = .ok (.iload_n 0, 1) := by decide +kernel
theorem dX6_isLane_1 : decode cX6_isLane 1 = .ok (.invokestatic 182, 3) := by decide +kernel
theorem dX6_isLane_4 : decode cX6_isLane 4 = .ok (.ifCond .eq 19, 3) := by decide +kernel
theorem dX6_isLane_7 : decode cX6_isLane 7 = .ok (.iload_n 1, 1) := by decide +kernel
theorem dX6_isLane_8 : decode cX6_isLane 8 = .ok (.i2l, 1) := by decide +kernel
theorem dX6_isLane_9 : decode cX6_isLane 9 = .ok (.lconst 0, 1) := by decide +kernel
theorem dX6_isLane_10 : decode cX6_isLane 10 = .ok (.ldc2_w 180, 3) := by decide +kernel
theorem dX6_isLane_13 : decode cX6_isLane 13 = .ok (.invokestatic 38, 3) := by decide +kernel
theorem dX6_isLane_16 : decode cX6_isLane 16 = .ok (.ifCond .eq 7, 3) := by decide +kernel
theorem dX6_isLane_19 : decode cX6_isLane 19 = .ok (.iconst 1, 1) := by decide +kernel
theorem dX6_isLane_20 : decode cX6_isLane 20 = .ok (.goto 4, 3) := by decide +kernel
theorem dX6_isLane_23 : decode cX6_isLane 23 = .ok (.iconst 0, 1) := by decide +kernel
theorem dX6_isLane_24 : decode cX6_isLane 24 = .ok (.ireturn, 1) := by decide +kernel
theorem dX6_against_0 : decode cX6_against 0 = .ok (.aload_n 0, 1) := by decide +kernel
theorem dX6_against_1 : decode cX6_against 1 = .ok (.getfield 23, 3) := by decide +kernel
theorem dX6_against_4 : decode cX6_against 4 = .ok (.iload_n 1, 1) := by decide +kernel
theorem dX6_against_5 : decode cX6_against 5 = .ok (.iaload, 1) := by decide +kernel
theorem dX6_against_6 : decode cX6_against 6 = .ok (.ifCond .ge 6, 3) := by decide +kernel
theorem dX6_against_9 : decode cX6_against 9 = .ok (.bipush (-11), 2) := by decide +kernel
theorem dX6_against_11 : decode cX6_against 11 = .ok (.ireturn, 1) := by decide +kernel
theorem dX6_against_12 : decode cX6_against 12 = .ok (.aload_n 0, 1) := by decide +kernel
theorem dX6_against_13 : decode cX6_against 13 = .ok (.getfield 20, 3) := by decide +kernel
theorem dX6_against_16 : decode cX6_against 16 = .ok (.iload_n 1, 1) := by decide +kernel
theorem dX6_against_17 : decode cX6_against 17 = .ok (.iaload, 1) := by decide +kernel
theorem dX6_against_18 : decode cX6_against 18 = .ok (.iload_n 2, 1) := by decide +kernel
theorem dX6_against_19 : decode cX6_against 19 = .ok (.if_icmp .eq 6, 3) := by decide +kernel
theorem dX6_against_22 : decode cX6_against 22 = .ok (.bipush (-12), 2) := by decide +kernel
theorem dX6_against_24 : decode cX6_against 24 = .ok (.ireturn, 1) := by decide +kernel
theorem dX6_against_25 : decode cX6_against 25 = .ok (.iload_n 3, 1) := by decide +kernel
theorem dX6_against_26 : decode cX6_against 26 = .ok (.ifCond .lt 25, 3) := by decide +kernel
theorem dX6_against_29 : decode cX6_against 29 = .ok (.iload 4, 2) := by decide +kernel
theorem dX6_against_31 : decode cX6_against 31 = .ok (.ifCond .lt 20, 3) := by decide +kernel
theorem dX6_against_34 : decode cX6_against 34 = .ok (.iload_n 3, 1) := by decide +kernel
theorem dX6_against_35 : decode cX6_against 35 = .ok (.i2l, 1) := by decide +kernel
theorem dX6_against_36 : decode cX6_against 36 = .ok (.iload 4, 2) := by decide +kernel
theorem dX6_against_38 : decode cX6_against 38 = .ok (.i2l, 1) := by decide +kernel
theorem dX6_against_39 : decode cX6_against 39 = .ok (.ladd, 1) := by decide +kernel
theorem dX6_against_40 : decode cX6_against 40 = .ok (.aload_n 0, 1) := by decide +kernel
theorem dX6_against_41 : decode cX6_against 41 = .ok (.getfield 23, 3) := by decide +kernel
theorem dX6_against_44 : decode cX6_against 44 = .ok (.iload_n 1, 1) := by decide +kernel
theorem dX6_against_45 : decode cX6_against 45 = .ok (.iaload, 1) := by decide +kernel
theorem dX6_against_46 : decode cX6_against 46 = .ok (.i2l, 1) := by decide +kernel
theorem dX6_against_47 : decode cX6_against 47 = .ok (.lcmp, 1) := by decide +kernel
theorem dX6_against_48 : decode cX6_against 48 = .ok (.ifCond .le 8, 3) := by decide +kernel
theorem dX6_against_51 : decode cX6_against 51 = .ok (.bipush (-13), 2) := by decide +kernel
theorem dX6_against_53 : decode cX6_against 53 = .ok (.goto 4, 3) := by decide +kernel
theorem dX6_against_56 : decode cX6_against 56 = .ok (.iconst 0, 1) := by decide +kernel
theorem dX6_against_57 : decode cX6_against 57 = .ok (.ireturn, 1) := by decide +kernel
theorem dX6_cut_0 : decode cX6_cut 0 = .ok (.iload_n 0, 1) := by decide +kernel
theorem dX6_cut_1 : decode cX6_cut 1 = .ok (.ifCond .ne 10, 3) := by decide +kernel
theorem dX6_cut_4 : decode cX6_cut 4 = .ok (.lload_n 1, 1) := by decide +kernel
theorem dX6_cut_5 : decode cX6_cut 5 = .ok (.l2i, 1) := by decide +kernel
theorem dX6_cut_6 : decode cX6_cut 6 = .ok (.i2b, 1) := by decide +kernel
theorem dX6_cut_7 : decode cX6_cut 7 = .ok (.i2l, 1) := by decide +kernel
theorem dX6_cut_8 : decode cX6_cut 8 = .ok (.goto 27, 3) := by decide +kernel
theorem dX6_cut_11 : decode cX6_cut 11 = .ok (.iload_n 0, 1) := by decide +kernel
theorem dX6_cut_12 : decode cX6_cut 12 = .ok (.iconst 1, 1) := by decide +kernel
theorem dX6_cut_13 : decode cX6_cut 13 = .ok (.if_icmp .ne 10, 3) := by decide +kernel
theorem dX6_cut_16 : decode cX6_cut 16 = .ok (.lload_n 1, 1) := by decide +kernel
theorem dX6_cut_17 : decode cX6_cut 17 = .ok (.l2i, 1) := by decide +kernel
theorem dX6_cut_18 : decode cX6_cut 18 = .ok (.i2s, 1) := by decide +kernel
theorem dX6_cut_19 : decode cX6_cut 19 = .ok (.i2l, 1) := by decide +kernel
theorem dX6_cut_20 : decode cX6_cut 20 = .ok (.goto 15, 3) := by decide +kernel
theorem dX6_cut_23 : decode cX6_cut 23 = .ok (.iload_n 0, 1) := by decide +kernel
theorem dX6_cut_24 : decode cX6_cut 24 = .ok (.iconst 2, 1) := by decide +kernel
theorem dX6_cut_25 : decode cX6_cut 25 = .ok (.if_icmp .ne 9, 3) := by decide +kernel
theorem dX6_cut_28 : decode cX6_cut 28 = .ok (.lload_n 1, 1) := by decide +kernel
theorem dX6_cut_29 : decode cX6_cut 29 = .ok (.l2i, 1) := by decide +kernel
theorem dX6_cut_30 : decode cX6_cut 30 = .ok (.i2l, 1) := by decide +kernel
theorem dX6_cut_31 : decode cX6_cut 31 = .ok (.goto 4, 3) := by decide +kernel
theorem dX6_cut_34 : decode cX6_cut 34 = .ok (.lload_n 1, 1) := by decide +kernel
theorem dX6_cut_35 : decode cX6_cut 35 = .ok (.lreturn, 1) := by decide +kernel
theorem dX6_passed_0 : decode cX6_passed 0 = .ok (.aload_n 0, 1) := by decide +kernel
theorem dX6_passed_1 : decode cX6_passed 1 = .ok (.iload_n 1, 1) := by decide +kernel
theorem dX6_passed_2 : decode cX6_passed 2 = .ok (.invokevirtual 42, 3) := by decide +kernel
theorem dX6_passed_5 : decode cX6_passed 5 = .ok (.ifCond .eq 24, 3) := by decide +kernel
theorem dX6_passed_8 : decode cX6_passed 8 = .ok (.iload_n 2, 1) := by decide +kernel
theorem dX6_passed_9 : decode cX6_passed 9 = .ok (.iload_n 3, 1) := by decide +kernel
theorem dX6_passed_10 : decode cX6_passed 10 = .ok (.invokestatic 185, 3) := by decide +kernel
theorem dX6_passed_13 : decode cX6_passed 13 = .ok (.ifCond .eq 16, 3) := by decide +kernel
theorem dX6_passed_16 : decode cX6_passed 16 = .ok (.iload 5, 2) := by decide +kernel
theorem dX6_passed_18 : decode cX6_passed 18 = .ok (.i2l, 1) := by decide +kernel
theorem dX6_passed_19 : decode cX6_passed 19 = .ok (.lconst 1, 1) := by decide +kernel
theorem dX6_passed_20 : decode cX6_passed 20 = .ok (.ldc2_w 188, 3) := by decide +kernel
theorem dX6_passed_23 : decode cX6_passed 23 = .ok (.invokestatic 38, 3) := by decide +kernel
theorem dX6_passed_26 : decode cX6_passed 26 = .ok (.ifCond .ne 5, 3) := by decide +kernel
theorem dX6_passed_29 : decode cX6_passed 29 = .ok (.iconst (-1), 1) := by decide +kernel
theorem dX6_passed_30 : decode cX6_passed 30 = .ok (.ireturn, 1) := by decide +kernel
theorem dX6_passed_31 : decode cX6_passed 31 = .ok (.aload_n 0, 1) := by decide +kernel
theorem dX6_passed_32 : decode cX6_passed 32 = .ok (.iload_n 2, 1) := by decide +kernel
theorem dX6_passed_33 : decode cX6_passed 33 = .ok (.iload_n 3, 1) := by decide +kernel
theorem dX6_passed_34 : decode cX6_passed 34 = .ok (.iload 4, 2) := by decide +kernel
theorem dX6_passed_36 : decode cX6_passed 36 = .ok (.iload 5, 2) := by decide +kernel
theorem dX6_passed_38 : decode cX6_passed 38 = .ok (.invokevirtual 190, 3) := by decide +kernel
theorem dX6_passed_41 : decode cX6_passed 41 = .ok (.istore 6, 2) := by decide +kernel
theorem dX6_passed_43 : decode cX6_passed 43 = .ok (.iload 6, 2) := by decide +kernel
theorem dX6_passed_45 : decode cX6_passed 45 = .ok (.ifCond .ge 6, 3) := by decide +kernel
theorem dX6_passed_48 : decode cX6_passed 48 = .ok (.iload 6, 2) := by decide +kernel
theorem dX6_passed_50 : decode cX6_passed 50 = .ok (.ireturn, 1) := by decide +kernel
theorem dX6_passed_51 : decode cX6_passed 51 = .ok (.aload_n 0, 1) := by decide +kernel
theorem dX6_passed_52 : decode cX6_passed 52 = .ok (.getfield 7, 3) := by decide +kernel
theorem dX6_passed_55 : decode cX6_passed 55 = .ok (.bipush 8, 2) := by decide +kernel
theorem dX6_passed_57 : decode cX6_passed 57 = .ok (.iload_n 1, 1) := by decide +kernel
theorem dX6_passed_58 : decode cX6_passed 58 = .ok (.iadd, 1) := by decide +kernel
theorem dX6_passed_59 : decode cX6_passed 59 = .ok (.iaload, 1) := by decide +kernel
theorem dX6_passed_60 : decode cX6_passed 60 = .ok (.istore 7, 2) := by decide +kernel
theorem dX6_passed_62 : decode cX6_passed 62 = .ok (.iload 5, 2) := by decide +kernel
theorem dX6_passed_64 : decode cX6_passed 64 = .ok (.aload_n 0, 1) := by decide +kernel
theorem dX6_passed_65 : decode cX6_passed 65 = .ok (.getfield 7, 3) := by decide +kernel
theorem dX6_passed_68 : decode cX6_passed 68 = .ok (.bipush 21, 2) := by decide +kernel
theorem dX6_passed_70 : decode cX6_passed 70 = .ok (.iaload, 1) := by decide +kernel
theorem dX6_passed_71 : decode cX6_passed 71 = .ok (.iload 7, 2) := by decide +kernel
theorem dX6_passed_73 : decode cX6_passed 73 = .ok (.isub, 1) := by decide +kernel
theorem dX6_passed_74 : decode cX6_passed 74 = .ok (.if_icmp .le 6, 3) := by decide +kernel
theorem dX6_passed_77 : decode cX6_passed 77 = .ok (.bipush (-2), 2) := by decide +kernel
theorem dX6_passed_79 : decode cX6_passed 79 = .ok (.ireturn, 1) := by decide +kernel
theorem dX6_passed_80 : decode cX6_passed 80 = .ok (.iconst 0, 1) := by decide +kernel
theorem dX6_passed_81 : decode cX6_passed 81 = .ok (.istore 8, 2) := by decide +kernel
theorem dX6_passed_83 : decode cX6_passed 83 = .ok (.iconst 0, 1) := by decide +kernel
theorem dX6_passed_84 : decode cX6_passed 84 = .ok (.istore 9, 2) := by decide +kernel
theorem dX6_passed_86 : decode cX6_passed 86 = .ok (.iload 9, 2) := by decide +kernel
theorem dX6_passed_88 : decode cX6_passed 88 = .ok (.iconst 4, 1) := by decide +kernel
theorem dX6_passed_89 : decode cX6_passed 89 = .ok (.if_icmp .gt 118, 3) := by decide +kernel
theorem dX6_passed_92 : decode cX6_passed 92 = .ok (.aload_n 0, 1) := by decide +kernel
theorem dX6_passed_93 : decode cX6_passed 93 = .ok (.invokevirtual 150, 3) := by decide +kernel
theorem dX6_passed_96 : decode cX6_passed 96 = .ok (.aload_n 0, 1) := by decide +kernel
theorem dX6_passed_97 : decode cX6_passed 97 = .ok (.getfield 7, 3) := by decide +kernel
theorem dX6_passed_100 : decode cX6_passed 100 = .ok (.sipush 474, 3) := by decide +kernel
theorem dX6_passed_103 : decode cX6_passed 103 = .ok (.iload_n 1, 1) := by decide +kernel
theorem dX6_passed_104 : decode cX6_passed 104 = .ok (.iadd, 1) := by decide +kernel
theorem dX6_passed_105 : decode cX6_passed 105 = .ok (.iload 9, 2) := by decide +kernel
theorem dX6_passed_107 : decode cX6_passed 107 = .ok (.iastore, 1) := by decide +kernel
theorem dX6_passed_108 : decode cX6_passed 108 = .ok (.aload_n 0, 1) := by decide +kernel
theorem dX6_passed_109 : decode cX6_passed 109 = .ok (.bipush (-4), 2) := by decide +kernel
theorem dX6_passed_111 : decode cX6_passed 111 = .ok (.iconst 0, 1) := by decide +kernel
theorem dX6_passed_112 : decode cX6_passed 112 = .ok (.invokevirtual 153, 3) := by decide +kernel
theorem dX6_passed_115 : decode cX6_passed 115 = .ok (.iconst 1, 1) := by decide +kernel
theorem dX6_passed_116 : decode cX6_passed 116 = .ok (.istore 10, 2) := by decide +kernel
theorem dX6_passed_118 : decode cX6_passed 118 = .ok (.iconst 0, 1) := by decide +kernel
theorem dX6_passed_119 : decode cX6_passed 119 = .ok (.istore 11, 2) := by decide +kernel
theorem dX6_passed_121 : decode cX6_passed 121 = .ok (.iload 11, 2) := by decide +kernel
theorem dX6_passed_123 : decode cX6_passed 123 = .ok (.iload 5, 2) := by decide +kernel
theorem dX6_passed_125 : decode cX6_passed 125 = .ok (.if_icmp .ge 58, 3) := by decide +kernel
theorem dX6_passed_128 : decode cX6_passed 128 = .ok (.iload 10, 2) := by decide +kernel
theorem dX6_passed_130 : decode cX6_passed 130 = .ok (.ifCond .eq 44, 3) := by decide +kernel
theorem dX6_passed_133 : decode cX6_passed 133 = .ok (.aload_n 0, 1) := by decide +kernel
theorem dX6_passed_134 : decode cX6_passed 134 = .ok (.getfield 26, 3) := by decide +kernel
theorem dX6_passed_137 : decode cX6_passed 137 = .ok (.bipush 9, 2) := by decide +kernel
theorem dX6_passed_139 : decode cX6_passed 139 = .ok (.iload_n 1, 1) := by decide +kernel
theorem dX6_passed_140 : decode cX6_passed 140 = .ok (.imul, 1) := by decide +kernel
theorem dX6_passed_141 : decode cX6_passed 141 = .ok (.iload 7, 2) := by decide +kernel
theorem dX6_passed_143 : decode cX6_passed 143 = .ok (.iadd, 1) := by decide +kernel
theorem dX6_passed_144 : decode cX6_passed 144 = .ok (.iconst 1, 1) := by decide +kernel
theorem dX6_passed_145 : decode cX6_passed 145 = .ok (.iadd, 1) := by decide +kernel
theorem dX6_passed_146 : decode cX6_passed 146 = .ok (.iload 11, 2) := by decide +kernel
theorem dX6_passed_148 : decode cX6_passed 148 = .ok (.iadd, 1) := by decide +kernel
theorem dX6_passed_149 : decode cX6_passed 149 = .ok (.iaload, 1) := by decide +kernel
theorem dX6_passed_150 : decode cX6_passed 150 = .ok (.i2l, 1) := by decide +kernel
theorem dX6_passed_151 : decode cX6_passed 151 = .ok (.aload_n 0, 1) := by decide +kernel
theorem dX6_passed_152 : decode cX6_passed 152 = .ok (.getfield 16, 3) := by decide +kernel
theorem dX6_passed_155 : decode cX6_passed 155 = .ok (.bipush 24, 2) := by decide +kernel
theorem dX6_passed_157 : decode cX6_passed 157 = .ok (.iload_n 2, 1) := by decide +kernel
theorem dX6_passed_158 : decode cX6_passed 158 = .ok (.imul, 1) := by decide +kernel
theorem dX6_passed_159 : decode cX6_passed 159 = .ok (.iload 4, 2) := by decide +kernel
theorem dX6_passed_161 : decode cX6_passed 161 = .ok (.iadd, 1) := by decide +kernel
theorem dX6_passed_162 : decode cX6_passed 162 = .ok (.iload 11, 2) := by decide +kernel
theorem dX6_passed_164 : decode cX6_passed 164 = .ok (.iadd, 1) := by decide +kernel
theorem dX6_passed_165 : decode cX6_passed 165 = .ok (.laload, 1) := by decide +kernel
theorem dX6_passed_166 : decode cX6_passed 166 = .ok (.lcmp, 1) := by decide +kernel
theorem dX6_passed_167 : decode cX6_passed 167 = .ok (.ifCond .ne 7, 3) := by decide +kernel
theorem dX6_passed_170 : decode cX6_passed 170 = .ok (.iconst 1, 1) := by decide +kernel
theorem dX6_passed_171 : decode cX6_passed 171 = .ok (.goto 4, 3) := by decide +kernel
theorem dX6_passed_174 : decode cX6_passed 174 = .ok (.iconst 0, 1) := by decide +kernel
theorem dX6_passed_175 : decode cX6_passed 175 = .ok (.istore 10, 2) := by decide +kernel
theorem dX6_passed_177 : decode cX6_passed 177 = .ok (.iinc 11 1, 3) := by decide +kernel
theorem dX6_passed_180 : decode cX6_passed 180 = .ok (.goto (-59), 3) := by decide +kernel
theorem dX6_passed_183 : decode cX6_passed 183 = .ok (.iload 8, 2) := by decide +kernel
theorem dX6_passed_185 : decode cX6_passed 185 = .ok (.iload 10, 2) := by decide +kernel
theorem dX6_passed_187 : decode cX6_passed 187 = .ok (.ifCond .eq 10, 3) := by decide +kernel
theorem dX6_passed_190 : decode cX6_passed 190 = .ok (.iconst 1, 1) := by decide +kernel
theorem dX6_passed_191 : decode cX6_passed 191 = .ok (.iload 9, 2) := by decide +kernel
theorem dX6_passed_193 : decode cX6_passed 193 = .ok (.ishl, 1) := by decide +kernel
theorem dX6_passed_194 : decode cX6_passed 194 = .ok (.goto 4, 3) := by decide +kernel
theorem dX6_passed_197 : decode cX6_passed 197 = .ok (.iconst 0, 1) := by decide +kernel
theorem dX6_passed_198 : decode cX6_passed 198 = .ok (.ior, 1) := by decide +kernel
theorem dX6_passed_199 : decode cX6_passed 199 = .ok (.istore 8, 2) := by decide +kernel
theorem dX6_passed_201 : decode cX6_passed 201 = .ok (.iinc 9 1, 3) := by decide +kernel
theorem dX6_passed_204 : decode cX6_passed 204 = .ok (.goto (-118), 3) := by decide +kernel
theorem dX6_passed_207 : decode cX6_passed 207 = .ok (.iload 8, 2) := by decide +kernel
theorem dX6_passed_209 : decode cX6_passed 209 = .ok (.ireturn, 1) := by decide +kernel
theorem dX6_film_0 : decode cX6_film 0 = .ok (.aload_n 0, 1) := by decide +kernel
theorem dX6_film_1 : decode cX6_film 1 = .ok (.iload_n 1, 1) := by decide +kernel
theorem dX6_film_2 : decode cX6_film 2 = .ok (.invokevirtual 42, 3) := by decide +kernel
theorem dX6_film_5 : decode cX6_film 5 = .ok (.ifCond .eq 24, 3) := by decide +kernel
theorem dX6_film_8 : decode cX6_film 8 = .ok (.iload_n 2, 1) := by decide +kernel
theorem dX6_film_9 : decode cX6_film 9 = .ok (.i2l, 1) := by decide +kernel
theorem dX6_film_10 : decode cX6_film 10 = .ok (.lconst 1, 1) := by decide +kernel
theorem dX6_film_11 : decode cX6_film 11 = .ok (.ldc2_w 188, 3) := by decide +kernel
theorem dX6_film_14 : decode cX6_film 14 = .ok (.invokestatic 38, 3) := by decide +kernel
theorem dX6_film_17 : decode cX6_film 17 = .ok (.ifCond .eq 12, 3) := by decide +kernel
theorem dX6_film_20 : decode cX6_film 20 = .ok (.iload_n 3, 1) := by decide +kernel
theorem dX6_film_21 : decode cX6_film 21 = .ok (.iload 4, 2) := by decide +kernel
theorem dX6_film_23 : decode cX6_film 23 = .ok (.invokestatic 185, 3) := by decide +kernel
theorem dX6_film_26 : decode cX6_film 26 = .ok (.ifCond .ne 5, 3) := by decide +kernel
theorem dX6_film_29 : decode cX6_film 29 = .ok (.iconst (-1), 1) := by decide +kernel
theorem dX6_film_30 : decode cX6_film 30 = .ok (.ireturn, 1) := by decide +kernel
theorem dX6_film_31 : decode cX6_film 31 = .ok (.aload_n 0, 1) := by decide +kernel
theorem dX6_film_32 : decode cX6_film 32 = .ok (.iload_n 3, 1) := by decide +kernel
theorem dX6_film_33 : decode cX6_film 33 = .ok (.iload 4, 2) := by decide +kernel
theorem dX6_film_35 : decode cX6_film 35 = .ok (.iload 5, 2) := by decide +kernel
theorem dX6_film_37 : decode cX6_film 37 = .ok (.iload_n 2, 1) := by decide +kernel
theorem dX6_film_38 : decode cX6_film 38 = .ok (.invokevirtual 190, 3) := by decide +kernel
theorem dX6_film_41 : decode cX6_film 41 = .ok (.istore 6, 2) := by decide +kernel
theorem dX6_film_43 : decode cX6_film 43 = .ok (.iload 6, 2) := by decide +kernel
theorem dX6_film_45 : decode cX6_film 45 = .ok (.ifCond .ge 6, 3) := by decide +kernel
theorem dX6_film_48 : decode cX6_film 48 = .ok (.iload 6, 2) := by decide +kernel
theorem dX6_film_50 : decode cX6_film 50 = .ok (.ireturn, 1) := by decide +kernel
theorem dX6_film_51 : decode cX6_film 51 = .ok (.aload_n 0, 1) := by decide +kernel
theorem dX6_film_52 : decode cX6_film 52 = .ok (.getfield 7, 3) := by decide +kernel
theorem dX6_film_55 : decode cX6_film 55 = .ok (.bipush 8, 2) := by decide +kernel
theorem dX6_film_57 : decode cX6_film 57 = .ok (.iload_n 1, 1) := by decide +kernel
theorem dX6_film_58 : decode cX6_film 58 = .ok (.iadd, 1) := by decide +kernel
theorem dX6_film_59 : decode cX6_film 59 = .ok (.iaload, 1) := by decide +kernel
theorem dX6_film_60 : decode cX6_film 60 = .ok (.istore 7, 2) := by decide +kernel
theorem dX6_film_62 : decode cX6_film 62 = .ok (.iload_n 2, 1) := by decide +kernel
theorem dX6_film_63 : decode cX6_film 63 = .ok (.aload_n 0, 1) := by decide +kernel
theorem dX6_film_64 : decode cX6_film 64 = .ok (.getfield 7, 3) := by decide +kernel
theorem dX6_film_67 : decode cX6_film 67 = .ok (.bipush 21, 2) := by decide +kernel
theorem dX6_film_69 : decode cX6_film 69 = .ok (.iaload, 1) := by decide +kernel
theorem dX6_film_70 : decode cX6_film 70 = .ok (.iload 7, 2) := by decide +kernel
theorem dX6_film_72 : decode cX6_film 72 = .ok (.isub, 1) := by decide +kernel
theorem dX6_film_73 : decode cX6_film 73 = .ok (.if_icmp .le 6, 3) := by decide +kernel
theorem dX6_film_76 : decode cX6_film 76 = .ok (.bipush (-2), 2) := by decide +kernel
theorem dX6_film_78 : decode cX6_film 78 = .ok (.ireturn, 1) := by decide +kernel
theorem dX6_film_79 : decode cX6_film 79 = .ok (.aload_n 0, 1) := by decide +kernel
theorem dX6_film_80 : decode cX6_film 80 = .ok (.invokevirtual 156, 3) := by decide +kernel
theorem dX6_film_83 : decode cX6_film 83 = .ok (.iconst 0, 1) := by decide +kernel
theorem dX6_film_84 : decode cX6_film 84 = .ok (.istore 8, 2) := by decide +kernel
theorem dX6_film_86 : decode cX6_film 86 = .ok (.iload 8, 2) := by decide +kernel
theorem dX6_film_88 : decode cX6_film 88 = .ok (.iload_n 2, 1) := by decide +kernel
theorem dX6_film_89 : decode cX6_film 89 = .ok (.if_icmp .ge 47, 3) := by decide +kernel
theorem dX6_film_92 : decode cX6_film 92 = .ok (.aload_n 0, 1) := by decide +kernel
theorem dX6_film_93 : decode cX6_film 93 = .ok (.getfield 16, 3) := by decide +kernel
theorem dX6_film_96 : decode cX6_film 96 = .ok (.bipush 24, 2) := by decide +kernel
theorem dX6_film_98 : decode cX6_film 98 = .ok (.iload_n 3, 1) := by decide +kernel
theorem dX6_film_99 : decode cX6_film 99 = .ok (.imul, 1) := by decide +kernel
theorem dX6_film_100 : decode cX6_film 100 = .ok (.iload 5, 2) := by decide +kernel
theorem dX6_film_102 : decode cX6_film 102 = .ok (.iadd, 1) := by decide +kernel
theorem dX6_film_103 : decode cX6_film 103 = .ok (.iload 8, 2) := by decide +kernel
theorem dX6_film_105 : decode cX6_film 105 = .ok (.iadd, 1) := by decide +kernel
theorem dX6_film_106 : decode cX6_film 106 = .ok (.iload 4, 2) := by decide +kernel
theorem dX6_film_108 : decode cX6_film 108 = .ok (.aload_n 0, 1) := by decide +kernel
theorem dX6_film_109 : decode cX6_film 109 = .ok (.getfield 26, 3) := by decide +kernel
theorem dX6_film_112 : decode cX6_film 112 = .ok (.bipush 9, 2) := by decide +kernel
theorem dX6_film_114 : decode cX6_film 114 = .ok (.iload_n 1, 1) := by decide +kernel
theorem dX6_film_115 : decode cX6_film 115 = .ok (.imul, 1) := by decide +kernel
theorem dX6_film_116 : decode cX6_film 116 = .ok (.iload 7, 2) := by decide +kernel
theorem dX6_film_118 : decode cX6_film 118 = .ok (.iadd, 1) := by decide +kernel
theorem dX6_film_119 : decode cX6_film 119 = .ok (.iconst 1, 1) := by decide +kernel
theorem dX6_film_120 : decode cX6_film 120 = .ok (.iadd, 1) := by decide +kernel
theorem dX6_film_121 : decode cX6_film 121 = .ok (.iload 8, 2) := by decide +kernel
theorem dX6_film_123 : decode cX6_film 123 = .ok (.iadd, 1) := by decide +kernel
theorem dX6_film_124 : decode cX6_film 124 = .ok (.iaload, 1) := by decide +kernel
theorem dX6_film_125 : decode cX6_film 125 = .ok (.i2l, 1) := by decide +kernel
theorem dX6_film_126 : decode cX6_film 126 = .ok (.invokestatic 194, 3) := by decide +kernel
theorem dX6_film_129 : decode cX6_film 129 = .ok (.lastore, 1) := by decide +kernel
theorem dX6_film_130 : decode cX6_film 130 = .ok (.iinc 8 1, 3) := by decide +kernel
theorem dX6_film_133 : decode cX6_film 133 = .ok (.goto (-47), 3) := by decide +kernel
theorem dX6_film_136 : decode cX6_film 136 = .ok (.iload_n 2, 1) := by decide +kernel
theorem dX6_film_137 : decode cX6_film 137 = .ok (.ireturn, 1) := by decide +kernel
theorem dX6_sheet_0 : decode cX6_sheet 0 = .ok (.iload_n 1, 1) := by decide +kernel
theorem dX6_sheet_1 : decode cX6_sheet 1 = .ok (.iload_n 2, 1) := by decide +kernel
theorem dX6_sheet_2 : decode cX6_sheet 2 = .ok (.invokestatic 185, 3) := by decide +kernel
theorem dX6_sheet_5 : decode cX6_sheet 5 = .ok (.ifCond .eq 9, 3) := by decide +kernel
theorem dX6_sheet_8 : decode cX6_sheet 8 = .ok (.iload_n 3, 1) := by decide +kernel
theorem dX6_sheet_9 : decode cX6_sheet 9 = .ok (.bipush 24, 2) := by decide +kernel
theorem dX6_sheet_11 : decode cX6_sheet 11 = .ok (.if_icmp .le 5, 3) := by decide +kernel
theorem dX6_sheet_14 : decode cX6_sheet 14 = .ok (.iconst (-1), 1) := by decide +kernel
theorem dX6_sheet_15 : decode cX6_sheet 15 = .ok (.ireturn, 1) := by decide +kernel
theorem dX6_sheet_16 : decode cX6_sheet 16 = .ok (.iload_n 3, 1) := by decide +kernel
theorem dX6_sheet_17 : decode cX6_sheet 17 = .ok (.ifCond .ge 6, 3) := by decide +kernel
theorem dX6_sheet_20 : decode cX6_sheet 20 = .ok (.bipush (-14), 2) := by decide +kernel
theorem dX6_sheet_22 : decode cX6_sheet 22 = .ok (.ireturn, 1) := by decide +kernel
theorem dX6_sheet_23 : decode cX6_sheet 23 = .ok (.aload_n 0, 1) := by decide +kernel
theorem dX6_sheet_24 : decode cX6_sheet 24 = .ok (.getfield 20, 3) := by decide +kernel
theorem dX6_sheet_27 : decode cX6_sheet 27 = .ok (.iload_n 1, 1) := by decide +kernel
theorem dX6_sheet_28 : decode cX6_sheet 28 = .ok (.iload_n 2, 1) := by decide +kernel
theorem dX6_sheet_29 : decode cX6_sheet 29 = .ok (.iastore, 1) := by decide +kernel
theorem dX6_sheet_30 : decode cX6_sheet 30 = .ok (.aload_n 0, 1) := by decide +kernel
theorem dX6_sheet_31 : decode cX6_sheet 31 = .ok (.getfield 23, 3) := by decide +kernel
theorem dX6_sheet_34 : decode cX6_sheet 34 = .ok (.iload_n 1, 1) := by decide +kernel
theorem dX6_sheet_35 : decode cX6_sheet 35 = .ok (.iload_n 3, 1) := by decide +kernel
theorem dX6_sheet_36 : decode cX6_sheet 36 = .ok (.iastore, 1) := by decide +kernel
theorem dX6_sheet_37 : decode cX6_sheet 37 = .ok (.iconst 0, 1) := by decide +kernel
theorem dX6_sheet_38 : decode cX6_sheet 38 = .ok (.istore 4, 2) := by decide +kernel
theorem dX6_sheet_40 : decode cX6_sheet 40 = .ok (.iload 4, 2) := by decide +kernel
theorem dX6_sheet_42 : decode cX6_sheet 42 = .ok (.bipush 24, 2) := by decide +kernel
theorem dX6_sheet_44 : decode cX6_sheet 44 = .ok (.if_icmp .ge 22, 3) := by decide +kernel
theorem dX6_sheet_47 : decode cX6_sheet 47 = .ok (.aload_n 0, 1) := by decide +kernel
theorem dX6_sheet_48 : decode cX6_sheet 48 = .ok (.getfield 16, 3) := by decide +kernel
theorem dX6_sheet_51 : decode cX6_sheet 51 = .ok (.bipush 24, 2) := by decide +kernel
theorem dX6_sheet_53 : decode cX6_sheet 53 = .ok (.iload_n 1, 1) := by decide +kernel
theorem dX6_sheet_54 : decode cX6_sheet 54 = .ok (.imul, 1) := by decide +kernel
theorem dX6_sheet_55 : decode cX6_sheet 55 = .ok (.iload 4, 2) := by decide +kernel
theorem dX6_sheet_57 : decode cX6_sheet 57 = .ok (.iadd, 1) := by decide +kernel
theorem dX6_sheet_58 : decode cX6_sheet 58 = .ok (.lconst 0, 1) := by decide +kernel
theorem dX6_sheet_59 : decode cX6_sheet 59 = .ok (.lastore, 1) := by decide +kernel
theorem dX6_sheet_60 : decode cX6_sheet 60 = .ok (.iinc 4 1, 3) := by decide +kernel
theorem dX6_sheet_63 : decode cX6_sheet 63 = .ok (.goto (-23), 3) := by decide +kernel
theorem dX6_sheet_66 : decode cX6_sheet 66 = .ok (.iload_n 3, 1) := by decide +kernel
theorem dX6_sheet_67 : decode cX6_sheet 67 = .ok (.ireturn, 1) := by decide +kernel
theorem dX6_drop_0 : decode cX6_drop 0 = .ok (.iload_n 1, 1) := by decide +kernel
theorem dX6_drop_1 : decode cX6_drop 1 = .ok (.invokestatic 182, 3) := by decide +kernel
theorem dX6_drop_4 : decode cX6_drop 4 = .ok (.ifCond .ne 5, 3) := by decide +kernel
theorem dX6_drop_7 : decode cX6_drop 7 = .ok (.iconst (-1), 1) := by decide +kernel
theorem dX6_drop_8 : decode cX6_drop 8 = .ok (.ireturn, 1) := by decide +kernel
theorem dX6_drop_9 : decode cX6_drop 9 = .ok (.aload_n 0, 1) := by decide +kernel
theorem dX6_drop_10 : decode cX6_drop 10 = .ok (.getfield 23, 3) := by decide +kernel
theorem dX6_drop_13 : decode cX6_drop 13 = .ok (.iload_n 1, 1) := by decide +kernel
theorem dX6_drop_14 : decode cX6_drop 14 = .ok (.iaload, 1) := by decide +kernel
theorem dX6_drop_15 : decode cX6_drop 15 = .ok (.ifCond .ge 6, 3) := by decide +kernel
theorem dX6_drop_18 : decode cX6_drop 18 = .ok (.bipush (-11), 2) := by decide +kernel
theorem dX6_drop_20 : decode cX6_drop 20 = .ok (.ireturn, 1) := by decide +kernel
theorem dX6_drop_21 : decode cX6_drop 21 = .ok (.aload_n 0, 1) := by decide +kernel
theorem dX6_drop_22 : decode cX6_drop 22 = .ok (.getfield 23, 3) := by decide +kernel
theorem dX6_drop_25 : decode cX6_drop 25 = .ok (.iload_n 1, 1) := by decide +kernel
theorem dX6_drop_26 : decode cX6_drop 26 = .ok (.iaload, 1) := by decide +kernel
theorem dX6_drop_27 : decode cX6_drop 27 = .ok (.istore_n 2, 1) := by decide +kernel
theorem dX6_drop_28 : decode cX6_drop 28 = .ok (.aload_n 0, 1) := by decide +kernel
theorem dX6_drop_29 : decode cX6_drop 29 = .ok (.getfield 23, 3) := by decide +kernel
theorem dX6_drop_32 : decode cX6_drop 32 = .ok (.iload_n 1, 1) := by decide +kernel
theorem dX6_drop_33 : decode cX6_drop 33 = .ok (.iconst (-1), 1) := by decide +kernel
theorem dX6_drop_34 : decode cX6_drop 34 = .ok (.iastore, 1) := by decide +kernel
theorem dX6_drop_35 : decode cX6_drop 35 = .ok (.iload_n 2, 1) := by decide +kernel
theorem dX6_drop_36 : decode cX6_drop 36 = .ok (.ireturn, 1) := by decide +kernel
theorem dX6_item_0 : decode cX6_item 0 = .ok (.iload_n 1, 1) := by decide +kernel
theorem dX6_item_1 : decode cX6_item 1 = .ok (.iload_n 2, 1) := by decide +kernel
theorem dX6_item_2 : decode cX6_item 2 = .ok (.invokestatic 185, 3) := by decide +kernel
theorem dX6_item_5 : decode cX6_item 5 = .ok (.ifCond .ne 5, 3) := by decide +kernel
theorem dX6_item_8 : decode cX6_item 8 = .ok (.iconst (-1), 1) := by decide +kernel
theorem dX6_item_9 : decode cX6_item 9 = .ok (.ireturn, 1) := by decide +kernel
theorem dX6_item_10 : decode cX6_item 10 = .ok (.aload_n 0, 1) := by decide +kernel
theorem dX6_item_11 : decode cX6_item 11 = .ok (.iload_n 1, 1) := by decide +kernel
theorem dX6_item_12 : decode cX6_item 12 = .ok (.iload_n 2, 1) := by decide +kernel
theorem dX6_item_13 : decode cX6_item 13 = .ok (.iload_n 3, 1) := by decide +kernel
theorem dX6_item_14 : decode cX6_item 14 = .ok (.iconst 1, 1) := by decide +kernel
theorem dX6_item_15 : decode cX6_item 15 = .ok (.invokevirtual 190, 3) := by decide +kernel
theorem dX6_item_18 : decode cX6_item 18 = .ok (.istore 6, 2) := by decide +kernel
theorem dX6_item_20 : decode cX6_item 20 = .ok (.iload 6, 2) := by decide +kernel
theorem dX6_item_22 : decode cX6_item 22 = .ok (.ifCond .ge 6, 3) := by decide +kernel
theorem dX6_item_25 : decode cX6_item 25 = .ok (.iload 6, 2) := by decide +kernel
theorem dX6_item_27 : decode cX6_item 27 = .ok (.ireturn, 1) := by decide +kernel
theorem dX6_item_28 : decode cX6_item 28 = .ok (.aload_n 0, 1) := by decide +kernel
theorem dX6_item_29 : decode cX6_item 29 = .ok (.getfield 16, 3) := by decide +kernel
theorem dX6_item_32 : decode cX6_item 32 = .ok (.bipush 24, 2) := by decide +kernel
theorem dX6_item_34 : decode cX6_item 34 = .ok (.iload_n 1, 1) := by decide +kernel
theorem dX6_item_35 : decode cX6_item 35 = .ok (.imul, 1) := by decide +kernel
theorem dX6_item_36 : decode cX6_item 36 = .ok (.iload_n 3, 1) := by decide +kernel
theorem dX6_item_37 : decode cX6_item 37 = .ok (.iadd, 1) := by decide +kernel
theorem dX6_item_38 : decode cX6_item 38 = .ok (.iload_n 2, 1) := by decide +kernel
theorem dX6_item_39 : decode cX6_item 39 = .ok (.lload 4, 2) := by decide +kernel
theorem dX6_item_41 : decode cX6_item 41 = .ok (.invokestatic 194, 3) := by decide +kernel
theorem dX6_item_44 : decode cX6_item 44 = .ok (.lastore, 1) := by decide +kernel
theorem dX6_item_45 : decode cX6_item 45 = .ok (.iconst 1, 1) := by decide +kernel
theorem dX6_item_46 : decode cX6_item 46 = .ok (.ireturn, 1) := by decide +kernel
theorem dX6_copy_0 : decode cX6_copy 0 = .ok (.iload_n 1, 1) := by decide +kernel
theorem dX6_copy_1 : decode cX6_copy 1 = .ok (.invokestatic 182, 3) := by decide +kernel
theorem dX6_copy_4 : decode cX6_copy 4 = .ok (.ifCond .eq 10, 3) := by decide +kernel
theorem dX6_copy_7 : decode cX6_copy 7 = .ok (.iload_n 3, 1) := by decide +kernel
theorem dX6_copy_8 : decode cX6_copy 8 = .ok (.invokestatic 182, 3) := by decide +kernel
theorem dX6_copy_11 : decode cX6_copy 11 = .ok (.ifCond .ne 5, 3) := by decide +kernel
theorem dX6_copy_14 : decode cX6_copy 14 = .ok (.iconst (-1), 1) := by decide +kernel
theorem dX6_copy_15 : decode cX6_copy 15 = .ok (.ireturn, 1) := by decide +kernel
theorem dX6_copy_16 : decode cX6_copy 16 = .ok (.aload_n 0, 1) := by decide +kernel
theorem dX6_copy_17 : decode cX6_copy 17 = .ok (.getfield 23, 3) := by decide +kernel
theorem dX6_copy_20 : decode cX6_copy 20 = .ok (.iload_n 1, 1) := by decide +kernel
theorem dX6_copy_21 : decode cX6_copy 21 = .ok (.iaload, 1) := by decide +kernel
theorem dX6_copy_22 : decode cX6_copy 22 = .ok (.ifCond .lt 12, 3) := by decide +kernel
theorem dX6_copy_25 : decode cX6_copy 25 = .ok (.aload_n 0, 1) := by decide +kernel
theorem dX6_copy_26 : decode cX6_copy 26 = .ok (.getfield 23, 3) := by decide +kernel
theorem dX6_copy_29 : decode cX6_copy 29 = .ok (.iload_n 3, 1) := by decide +kernel
theorem dX6_copy_30 : decode cX6_copy 30 = .ok (.iaload, 1) := by decide +kernel
theorem dX6_copy_31 : decode cX6_copy 31 = .ok (.ifCond .ge 6, 3) := by decide +kernel
theorem dX6_copy_34 : decode cX6_copy 34 = .ok (.bipush (-11), 2) := by decide +kernel
theorem dX6_copy_36 : decode cX6_copy 36 = .ok (.ireturn, 1) := by decide +kernel
theorem dX6_copy_37 : decode cX6_copy 37 = .ok (.aload_n 0, 1) := by decide +kernel
theorem dX6_copy_38 : decode cX6_copy 38 = .ok (.getfield 20, 3) := by decide +kernel
theorem dX6_copy_41 : decode cX6_copy 41 = .ok (.iload_n 1, 1) := by decide +kernel
theorem dX6_copy_42 : decode cX6_copy 42 = .ok (.iaload, 1) := by decide +kernel
theorem dX6_copy_43 : decode cX6_copy 43 = .ok (.aload_n 0, 1) := by decide +kernel
theorem dX6_copy_44 : decode cX6_copy 44 = .ok (.getfield 20, 3) := by decide +kernel
theorem dX6_copy_47 : decode cX6_copy 47 = .ok (.iload_n 3, 1) := by decide +kernel
theorem dX6_copy_48 : decode cX6_copy 48 = .ok (.iaload, 1) := by decide +kernel
theorem dX6_copy_49 : decode cX6_copy 49 = .ok (.if_icmp .eq 6, 3) := by decide +kernel
theorem dX6_copy_52 : decode cX6_copy 52 = .ok (.bipush (-12), 2) := by decide +kernel
theorem dX6_copy_54 : decode cX6_copy 54 = .ok (.ireturn, 1) := by decide +kernel
theorem dX6_copy_55 : decode cX6_copy 55 = .ok (.aload_n 0, 1) := by decide +kernel
theorem dX6_copy_56 : decode cX6_copy 56 = .ok (.iload_n 1, 1) := by decide +kernel
theorem dX6_copy_57 : decode cX6_copy 57 = .ok (.aload_n 0, 1) := by decide +kernel
theorem dX6_copy_58 : decode cX6_copy 58 = .ok (.getfield 20, 3) := by decide +kernel
theorem dX6_copy_61 : decode cX6_copy 61 = .ok (.iload_n 1, 1) := by decide +kernel
theorem dX6_copy_62 : decode cX6_copy 62 = .ok (.iaload, 1) := by decide +kernel
theorem dX6_copy_63 : decode cX6_copy 63 = .ok (.iload_n 2, 1) := by decide +kernel
theorem dX6_copy_64 : decode cX6_copy 64 = .ok (.iload 5, 2) := by decide +kernel
theorem dX6_copy_66 : decode cX6_copy 66 = .ok (.invokevirtual 190, 3) := by decide +kernel
theorem dX6_copy_69 : decode cX6_copy 69 = .ok (.ifCond .lt 21, 3) := by decide +kernel
theorem dX6_copy_72 : decode cX6_copy 72 = .ok (.aload_n 0, 1) := by decide +kernel
theorem dX6_copy_73 : decode cX6_copy 73 = .ok (.iload_n 3, 1) := by decide +kernel
theorem dX6_copy_74 : decode cX6_copy 74 = .ok (.aload_n 0, 1) := by decide +kernel
theorem dX6_copy_75 : decode cX6_copy 75 = .ok (.getfield 20, 3) := by decide +kernel
theorem dX6_copy_78 : decode cX6_copy 78 = .ok (.iload_n 3, 1) := by decide +kernel
theorem dX6_copy_79 : decode cX6_copy 79 = .ok (.iaload, 1) := by decide +kernel
theorem dX6_copy_80 : decode cX6_copy 80 = .ok (.iload 4, 2) := by decide +kernel
theorem dX6_copy_82 : decode cX6_copy 82 = .ok (.iload 5, 2) := by decide +kernel
theorem dX6_copy_84 : decode cX6_copy 84 = .ok (.invokevirtual 190, 3) := by decide +kernel
theorem dX6_copy_87 : decode cX6_copy 87 = .ok (.ifCond .ge 6, 3) := by decide +kernel
theorem dX6_copy_90 : decode cX6_copy 90 = .ok (.bipush (-13), 2) := by decide +kernel
theorem dX6_copy_92 : decode cX6_copy 92 = .ok (.ireturn, 1) := by decide +kernel
theorem dX6_copy_93 : decode cX6_copy 93 = .ok (.iconst 0, 1) := by decide +kernel
theorem dX6_copy_94 : decode cX6_copy 94 = .ok (.istore 6, 2) := by decide +kernel
theorem dX6_copy_96 : decode cX6_copy 96 = .ok (.iload 6, 2) := by decide +kernel
theorem dX6_copy_98 : decode cX6_copy 98 = .ok (.iload 5, 2) := by decide +kernel
theorem dX6_copy_100 : decode cX6_copy 100 = .ok (.if_icmp .ge 30, 3) := by decide +kernel
theorem dX6_copy_103 : decode cX6_copy 103 = .ok (.aload_n 0, 1) := by decide +kernel
theorem dX6_copy_104 : decode cX6_copy 104 = .ok (.getfield 35, 3) := by decide +kernel
theorem dX6_copy_107 : decode cX6_copy 107 = .ok (.iload 6, 2) := by decide +kernel
theorem dX6_copy_109 : decode cX6_copy 109 = .ok (.aload_n 0, 1) := by decide +kernel
theorem dX6_copy_110 : decode cX6_copy 110 = .ok (.getfield 16, 3) := by decide +kernel
theorem dX6_copy_113 : decode cX6_copy 113 = .ok (.bipush 24, 2) := by decide +kernel
theorem dX6_copy_115 : decode cX6_copy 115 = .ok (.iload_n 1, 1) := by decide +kernel
theorem dX6_copy_116 : decode cX6_copy 116 = .ok (.imul, 1) := by decide +kernel
theorem dX6_copy_117 : decode cX6_copy 117 = .ok (.iload_n 2, 1) := by decide +kernel
theorem dX6_copy_118 : decode cX6_copy 118 = .ok (.iadd, 1) := by decide +kernel
theorem dX6_copy_119 : decode cX6_copy 119 = .ok (.iload 6, 2) := by decide +kernel
theorem dX6_copy_121 : decode cX6_copy 121 = .ok (.iadd, 1) := by decide +kernel
theorem dX6_copy_122 : decode cX6_copy 122 = .ok (.laload, 1) := by decide +kernel
theorem dX6_copy_123 : decode cX6_copy 123 = .ok (.lastore, 1) := by decide +kernel
theorem dX6_copy_124 : decode cX6_copy 124 = .ok (.iinc 6 1, 3) := by decide +kernel
theorem dX6_copy_127 : decode cX6_copy 127 = .ok (.goto (-31), 3) := by decide +kernel
theorem dX6_copy_130 : decode cX6_copy 130 = .ok (.iconst 0, 1) := by decide +kernel
theorem dX6_copy_131 : decode cX6_copy 131 = .ok (.istore 6, 2) := by decide +kernel
theorem dX6_copy_133 : decode cX6_copy 133 = .ok (.iload 6, 2) := by decide +kernel
theorem dX6_copy_135 : decode cX6_copy 135 = .ok (.iload 5, 2) := by decide +kernel
theorem dX6_copy_137 : decode cX6_copy 137 = .ok (.if_icmp .ge 31, 3) := by decide +kernel
theorem dX6_copy_140 : decode cX6_copy 140 = .ok (.aload_n 0, 1) := by decide +kernel
theorem dX6_copy_141 : decode cX6_copy 141 = .ok (.getfield 16, 3) := by decide +kernel
theorem dX6_copy_144 : decode cX6_copy 144 = .ok (.bipush 24, 2) := by decide +kernel
theorem dX6_copy_146 : decode cX6_copy 146 = .ok (.iload_n 3, 1) := by decide +kernel
theorem dX6_copy_147 : decode cX6_copy 147 = .ok (.imul, 1) := by decide +kernel
theorem dX6_copy_148 : decode cX6_copy 148 = .ok (.iload 4, 2) := by decide +kernel
theorem dX6_copy_150 : decode cX6_copy 150 = .ok (.iadd, 1) := by decide +kernel
theorem dX6_copy_151 : decode cX6_copy 151 = .ok (.iload 6, 2) := by decide +kernel
theorem dX6_copy_153 : decode cX6_copy 153 = .ok (.iadd, 1) := by decide +kernel
theorem dX6_copy_154 : decode cX6_copy 154 = .ok (.aload_n 0, 1) := by decide +kernel
theorem dX6_copy_155 : decode cX6_copy 155 = .ok (.getfield 35, 3) := by decide +kernel
theorem dX6_copy_158 : decode cX6_copy 158 = .ok (.iload 6, 2) := by decide +kernel
theorem dX6_copy_160 : decode cX6_copy 160 = .ok (.laload, 1) := by decide +kernel
theorem dX6_copy_161 : decode cX6_copy 161 = .ok (.lastore, 1) := by decide +kernel
theorem dX6_copy_162 : decode cX6_copy 162 = .ok (.iinc 6 1, 3) := by decide +kernel
theorem dX6_copy_165 : decode cX6_copy 165 = .ok (.goto (-32), 3) := by decide +kernel
theorem dX6_copy_168 : decode cX6_copy 168 = .ok (.iload 5, 2) := by decide +kernel
theorem dX6_copy_170 : decode cX6_copy 170 = .ok (.ireturn, 1) := by decide +kernel
end
section
theorem dL_law_0 : decode cL_law 0 = .ok (.new 7, 3) := by decide +kernel
theorem dL_law_3 : decode cL_law 3 = .ok (.dup, 1) := by decide +kernel
theorem dL_law_4 : decode cL_law 4 = .ok (.invokespecial 9, 3) := by decide +kernel
theorem dL_law_7 : decode cL_law 7 = .ok (.astore_n 1, 1) := by decide +kernel
theorem dL_law_8 : decode cL_law 8 = .ok (.new 10, 3) := by decide +kernel
theorem dL_law_11 : decode cL_law 11 = .ok (.dup, 1) := by decide +kernel
theorem dL_law_12 : decode cL_law 12 = .ok (.invokespecial 12, 3) := by decide +kernel
theorem dL_law_15 : decode cL_law 15 = .ok (.astore_n 2, 1) := by decide +kernel
theorem dL_law_16 : decode cL_law 16 = .ok (.iconst 0, 1) := by decide +kernel
theorem dL_law_17 : decode cL_law 17 = .ok (.istore_n 3, 1) := by decide +kernel
theorem dL_law_18 : decode cL_law 18 = .ok (.iload_n 3, 1) := by decide +kernel
theorem dL_law_19 : decode cL_law 19 = .ok (.aload_n 0, 1) := by decide +kernel
theorem dL_law_20 : decode cL_law 20 = .ok (.arraylength, 1) := by decide +kernel
theorem dL_law_21 : decode cL_law 21 = .ok (.bipush 6, 2) := by decide +kernel
theorem dL_law_23 : decode cL_law 23 = .ok (.isub, 1) := by decide +kernel
theorem dL_law_24 : decode cL_law 24 = .ok (.if_icmp .gt 1271, 3) := by decide +kernel
theorem dL_law_27 : decode cL_law 27 = .ok (.aload_n 0, 1) := by decide +kernel
theorem dL_law_28 : decode cL_law 28 = .ok (.iload_n 3, 1) := by decide +kernel
theorem dL_law_29 : decode cL_law 29 = .ok (.iaload, 1) := by decide +kernel
theorem dL_law_30 : decode cL_law 30 = .ok (.bipush 63, 2) := by decide +kernel
theorem dL_law_32 : decode cL_law 32 = .ok (.iand, 1) := by decide +kernel
theorem dL_law_33 : decode cL_law 33 = .ok (.tableswitch 1256 0 32 #[147, 190, 233, 266, 299, 332, 355, 378, 391, 414, 437, 460, 503, 526, 539, 562, 595, 628, 641, 674, 707, 740, 773, 806, 849, 892, 905, 918, 981, 1044, 1087, 1110, 1193], 147) := by decide +kernel
theorem dL_law_180 : decode cL_law 180 = .ok (.aload_n 1, 1) := by decide +kernel
theorem dL_law_181 : decode cL_law 181 = .ok (.aload_n 0, 1) := by decide +kernel
theorem dL_law_182 : decode cL_law 182 = .ok (.iload_n 3, 1) := by decide +kernel
theorem dL_law_183 : decode cL_law 183 = .ok (.iconst 1, 1) := by decide +kernel
theorem dL_law_184 : decode cL_law 184 = .ok (.iadd, 1) := by decide +kernel
theorem dL_law_185 : decode cL_law 185 = .ok (.iaload, 1) := by decide +kernel
theorem dL_law_186 : decode cL_law 186 = .ok (.aload_n 0, 1) := by decide +kernel
theorem dL_law_187 : decode cL_law 187 = .ok (.iload_n 3, 1) := by decide +kernel
theorem dL_law_188 : decode cL_law 188 = .ok (.iconst 2, 1) := by decide +kernel
theorem dL_law_189 : decode cL_law 189 = .ok (.iadd, 1) := by decide +kernel
theorem dL_law_190 : decode cL_law 190 = .ok (.iaload, 1) := by decide +kernel
theorem dL_law_191 : decode cL_law 191 = .ok (.aload_n 0, 1) := by decide +kernel
theorem dL_law_192 : decode cL_law 192 = .ok (.iload_n 3, 1) := by decide +kernel
theorem dL_law_193 : decode cL_law 193 = .ok (.iconst 3, 1) := by decide +kernel
theorem dL_law_194 : decode cL_law 194 = .ok (.iadd, 1) := by decide +kernel
theorem dL_law_195 : decode cL_law 195 = .ok (.iaload, 1) := by decide +kernel
theorem dL_law_196 : decode cL_law 196 = .ok (.invokevirtual 13, 3) := by decide +kernel
theorem dL_law_199 : decode cL_law 199 = .ok (.aload_n 2, 1) := by decide +kernel
theorem dL_law_200 : decode cL_law 200 = .ok (.aload_n 0, 1) := by decide +kernel
theorem dL_law_201 : decode cL_law 201 = .ok (.iload_n 3, 1) := by decide +kernel
theorem dL_law_202 : decode cL_law 202 = .ok (.iconst 1, 1) := by decide +kernel
theorem dL_law_203 : decode cL_law 203 = .ok (.iadd, 1) := by decide +kernel
theorem dL_law_204 : decode cL_law 204 = .ok (.iaload, 1) := by decide +kernel
theorem dL_law_205 : decode cL_law 205 = .ok (.aload_n 0, 1) := by decide +kernel
theorem dL_law_206 : decode cL_law 206 = .ok (.iload_n 3, 1) := by decide +kernel
theorem dL_law_207 : decode cL_law 207 = .ok (.iconst 2, 1) := by decide +kernel
theorem dL_law_208 : decode cL_law 208 = .ok (.iadd, 1) := by decide +kernel
theorem dL_law_209 : decode cL_law 209 = .ok (.iaload, 1) := by decide +kernel
theorem dL_law_210 : decode cL_law 210 = .ok (.aload_n 0, 1) := by decide +kernel
theorem dL_law_211 : decode cL_law 211 = .ok (.iload_n 3, 1) := by decide +kernel
theorem dL_law_212 : decode cL_law 212 = .ok (.iconst 3, 1) := by decide +kernel
theorem dL_law_213 : decode cL_law 213 = .ok (.iadd, 1) := by decide +kernel
theorem dL_law_214 : decode cL_law 214 = .ok (.iaload, 1) := by decide +kernel
theorem dL_law_215 : decode cL_law 215 = .ok (.invokevirtual 17, 3) := by decide +kernel
theorem dL_law_218 : decode cL_law 218 = .ok (.if_icmp .eq 1071, 3) := by decide +kernel
theorem dL_law_221 : decode cL_law 221 = .ok (.iconst 0, 1) := by decide +kernel
theorem dL_law_222 : decode cL_law 222 = .ok (.ireturn, 1) := by decide +kernel
theorem dL_law_223 : decode cL_law 223 = .ok (.aload_n 1, 1) := by decide +kernel
theorem dL_law_224 : decode cL_law 224 = .ok (.aload_n 0, 1) := by decide +kernel
theorem dL_law_225 : decode cL_law 225 = .ok (.iload_n 3, 1) := by decide +kernel
theorem dL_law_226 : decode cL_law 226 = .ok (.iconst 1, 1) := by decide +kernel
theorem dL_law_227 : decode cL_law 227 = .ok (.iadd, 1) := by decide +kernel
theorem dL_law_228 : decode cL_law 228 = .ok (.iaload, 1) := by decide +kernel
theorem dL_law_229 : decode cL_law 229 = .ok (.aload_n 0, 1) := by decide +kernel
theorem dL_law_230 : decode cL_law 230 = .ok (.iload_n 3, 1) := by decide +kernel
theorem dL_law_231 : decode cL_law 231 = .ok (.iconst 2, 1) := by decide +kernel
theorem dL_law_232 : decode cL_law 232 = .ok (.iadd, 1) := by decide +kernel
theorem dL_law_233 : decode cL_law 233 = .ok (.iaload, 1) := by decide +kernel
theorem dL_law_234 : decode cL_law 234 = .ok (.aload_n 0, 1) := by decide +kernel
theorem dL_law_235 : decode cL_law 235 = .ok (.iload_n 3, 1) := by decide +kernel
theorem dL_law_236 : decode cL_law 236 = .ok (.iconst 3, 1) := by decide +kernel
theorem dL_law_237 : decode cL_law 237 = .ok (.iadd, 1) := by decide +kernel
theorem dL_law_238 : decode cL_law 238 = .ok (.iaload, 1) := by decide +kernel
theorem dL_law_239 : decode cL_law 239 = .ok (.invokevirtual 18, 3) := by decide +kernel
theorem dL_law_242 : decode cL_law 242 = .ok (.aload_n 2, 1) := by decide +kernel
theorem dL_law_243 : decode cL_law 243 = .ok (.aload_n 0, 1) := by decide +kernel
theorem dL_law_244 : decode cL_law 244 = .ok (.iload_n 3, 1) := by decide +kernel
theorem dL_law_245 : decode cL_law 245 = .ok (.iconst 1, 1) := by decide +kernel
theorem dL_law_246 : decode cL_law 246 = .ok (.iadd, 1) := by decide +kernel
theorem dL_law_247 : decode cL_law 247 = .ok (.iaload, 1) := by decide +kernel
theorem dL_law_248 : decode cL_law 248 = .ok (.aload_n 0, 1) := by decide +kernel
theorem dL_law_249 : decode cL_law 249 = .ok (.iload_n 3, 1) := by decide +kernel
theorem dL_law_250 : decode cL_law 250 = .ok (.iconst 2, 1) := by decide +kernel
theorem dL_law_251 : decode cL_law 251 = .ok (.iadd, 1) := by decide +kernel
theorem dL_law_252 : decode cL_law 252 = .ok (.iaload, 1) := by decide +kernel
theorem dL_law_253 : decode cL_law 253 = .ok (.aload_n 0, 1) := by decide +kernel
theorem dL_law_254 : decode cL_law 254 = .ok (.iload_n 3, 1) := by decide +kernel
theorem dL_law_255 : decode cL_law 255 = .ok (.iconst 3, 1) := by decide +kernel
theorem dL_law_256 : decode cL_law 256 = .ok (.iadd, 1) := by decide +kernel
theorem dL_law_257 : decode cL_law 257 = .ok (.iaload, 1) := by decide +kernel
theorem dL_law_258 : decode cL_law 258 = .ok (.invokevirtual 21, 3) := by decide +kernel
theorem dL_law_261 : decode cL_law 261 = .ok (.if_icmp .eq 1028, 3) := by decide +kernel
theorem dL_law_264 : decode cL_law 264 = .ok (.iconst 0, 1) := by decide +kernel
theorem dL_law_265 : decode cL_law 265 = .ok (.ireturn, 1) := by decide +kernel
theorem dL_law_266 : decode cL_law 266 = .ok (.aload_n 1, 1) := by decide +kernel
theorem dL_law_267 : decode cL_law 267 = .ok (.aload_n 0, 1) := by decide +kernel
theorem dL_law_268 : decode cL_law 268 = .ok (.iload_n 3, 1) := by decide +kernel
theorem dL_law_269 : decode cL_law 269 = .ok (.iconst 1, 1) := by decide +kernel
theorem dL_law_270 : decode cL_law 270 = .ok (.iadd, 1) := by decide +kernel
theorem dL_law_271 : decode cL_law 271 = .ok (.iaload, 1) := by decide +kernel
theorem dL_law_272 : decode cL_law 272 = .ok (.aload_n 0, 1) := by decide +kernel
theorem dL_law_273 : decode cL_law 273 = .ok (.iload_n 3, 1) := by decide +kernel
theorem dL_law_274 : decode cL_law 274 = .ok (.iconst 2, 1) := by decide +kernel
theorem dL_law_275 : decode cL_law 275 = .ok (.iadd, 1) := by decide +kernel
theorem dL_law_276 : decode cL_law 276 = .ok (.iaload, 1) := by decide +kernel
theorem dL_law_277 : decode cL_law 277 = .ok (.invokevirtual 22, 3) := by decide +kernel
theorem dL_law_280 : decode cL_law 280 = .ok (.aload_n 2, 1) := by decide +kernel
theorem dL_law_281 : decode cL_law 281 = .ok (.aload_n 0, 1) := by decide +kernel
theorem dL_law_282 : decode cL_law 282 = .ok (.iload_n 3, 1) := by decide +kernel
theorem dL_law_283 : decode cL_law 283 = .ok (.iconst 1, 1) := by decide +kernel
theorem dL_law_284 : decode cL_law 284 = .ok (.iadd, 1) := by decide +kernel
theorem dL_law_285 : decode cL_law 285 = .ok (.iaload, 1) := by decide +kernel
theorem dL_law_286 : decode cL_law 286 = .ok (.aload_n 0, 1) := by decide +kernel
theorem dL_law_287 : decode cL_law 287 = .ok (.iload_n 3, 1) := by decide +kernel
theorem dL_law_288 : decode cL_law 288 = .ok (.iconst 2, 1) := by decide +kernel
theorem dL_law_289 : decode cL_law 289 = .ok (.iadd, 1) := by decide +kernel
theorem dL_law_290 : decode cL_law 290 = .ok (.iaload, 1) := by decide +kernel
theorem dL_law_291 : decode cL_law 291 = .ok (.invokevirtual 26, 3) := by decide +kernel
theorem dL_law_294 : decode cL_law 294 = .ok (.if_icmp .eq 995, 3) := by decide +kernel
theorem dL_law_297 : decode cL_law 297 = .ok (.iconst 0, 1) := by decide +kernel
theorem dL_law_298 : decode cL_law 298 = .ok (.ireturn, 1) := by decide +kernel
theorem dL_law_299 : decode cL_law 299 = .ok (.aload_n 1, 1) := by decide +kernel
theorem dL_law_300 : decode cL_law 300 = .ok (.aload_n 0, 1) := by decide +kernel
theorem dL_law_301 : decode cL_law 301 = .ok (.iload_n 3, 1) := by decide +kernel
theorem dL_law_302 : decode cL_law 302 = .ok (.iconst 1, 1) := by decide +kernel
theorem dL_law_303 : decode cL_law 303 = .ok (.iadd, 1) := by decide +kernel
theorem dL_law_304 : decode cL_law 304 = .ok (.iaload, 1) := by decide +kernel
theorem dL_law_305 : decode cL_law 305 = .ok (.aload_n 0, 1) := by decide +kernel
theorem dL_law_306 : decode cL_law 306 = .ok (.iload_n 3, 1) := by decide +kernel
theorem dL_law_307 : decode cL_law 307 = .ok (.iconst 2, 1) := by decide +kernel
theorem dL_law_308 : decode cL_law 308 = .ok (.iadd, 1) := by decide +kernel
theorem dL_law_309 : decode cL_law 309 = .ok (.iaload, 1) := by decide +kernel
theorem dL_law_310 : decode cL_law 310 = .ok (.invokevirtual 27, 3) := by decide +kernel
theorem dL_law_313 : decode cL_law 313 = .ok (.aload_n 2, 1) := by decide +kernel
theorem dL_law_314 : decode cL_law 314 = .ok (.aload_n 0, 1) := by decide +kernel
theorem dL_law_315 : decode cL_law 315 = .ok (.iload_n 3, 1) := by decide +kernel
theorem dL_law_316 : decode cL_law 316 = .ok (.iconst 1, 1) := by decide +kernel
theorem dL_law_317 : decode cL_law 317 = .ok (.iadd, 1) := by decide +kernel
theorem dL_law_318 : decode cL_law 318 = .ok (.iaload, 1) := by decide +kernel
theorem dL_law_319 : decode cL_law 319 = .ok (.aload_n 0, 1) := by decide +kernel
theorem dL_law_320 : decode cL_law 320 = .ok (.iload_n 3, 1) := by decide +kernel
theorem dL_law_321 : decode cL_law 321 = .ok (.iconst 2, 1) := by decide +kernel
theorem dL_law_322 : decode cL_law 322 = .ok (.iadd, 1) := by decide +kernel
theorem dL_law_323 : decode cL_law 323 = .ok (.iaload, 1) := by decide +kernel
theorem dL_law_324 : decode cL_law 324 = .ok (.invokevirtual 30, 3) := by decide +kernel
theorem dL_law_327 : decode cL_law 327 = .ok (.if_icmp .eq 962, 3) := by decide +kernel
theorem dL_law_330 : decode cL_law 330 = .ok (.iconst 0, 1) := by decide +kernel
theorem dL_law_331 : decode cL_law 331 = .ok (.ireturn, 1) := by decide +kernel
theorem dL_law_332 : decode cL_law 332 = .ok (.aload_n 1, 1) := by decide +kernel
theorem dL_law_333 : decode cL_law 333 = .ok (.aload_n 0, 1) := by decide +kernel
theorem dL_law_334 : decode cL_law 334 = .ok (.iload_n 3, 1) := by decide +kernel
theorem dL_law_335 : decode cL_law 335 = .ok (.iconst 1, 1) := by decide +kernel
theorem dL_law_336 : decode cL_law 336 = .ok (.iadd, 1) := by decide +kernel
theorem dL_law_337 : decode cL_law 337 = .ok (.iaload, 1) := by decide +kernel
theorem dL_law_338 : decode cL_law 338 = .ok (.aload_n 0, 1) := by decide +kernel
theorem dL_law_339 : decode cL_law 339 = .ok (.iload_n 3, 1) := by decide +kernel
theorem dL_law_340 : decode cL_law 340 = .ok (.iconst 2, 1) := by decide +kernel
theorem dL_law_341 : decode cL_law 341 = .ok (.iadd, 1) := by decide +kernel
theorem dL_law_342 : decode cL_law 342 = .ok (.iaload, 1) := by decide +kernel
theorem dL_law_343 : decode cL_law 343 = .ok (.invokevirtual 31, 3) := by decide +kernel
theorem dL_law_346 : decode cL_law 346 = .ok (.aload_n 2, 1) := by decide +kernel
theorem dL_law_347 : decode cL_law 347 = .ok (.aload_n 0, 1) := by decide +kernel
theorem dL_law_348 : decode cL_law 348 = .ok (.iload_n 3, 1) := by decide +kernel
theorem dL_law_349 : decode cL_law 349 = .ok (.iconst 1, 1) := by decide +kernel
theorem dL_law_350 : decode cL_law 350 = .ok (.iadd, 1) := by decide +kernel
theorem dL_law_351 : decode cL_law 351 = .ok (.iaload, 1) := by decide +kernel
theorem dL_law_352 : decode cL_law 352 = .ok (.aload_n 0, 1) := by decide +kernel
theorem dL_law_353 : decode cL_law 353 = .ok (.iload_n 3, 1) := by decide +kernel
theorem dL_law_354 : decode cL_law 354 = .ok (.iconst 2, 1) := by decide +kernel
theorem dL_law_355 : decode cL_law 355 = .ok (.iadd, 1) := by decide +kernel
theorem dL_law_356 : decode cL_law 356 = .ok (.iaload, 1) := by decide +kernel
theorem dL_law_357 : decode cL_law 357 = .ok (.invokevirtual 34, 3) := by decide +kernel
theorem dL_law_360 : decode cL_law 360 = .ok (.if_icmp .eq 929, 3) := by decide +kernel
theorem dL_law_363 : decode cL_law 363 = .ok (.iconst 0, 1) := by decide +kernel
theorem dL_law_364 : decode cL_law 364 = .ok (.ireturn, 1) := by decide +kernel
theorem dL_law_365 : decode cL_law 365 = .ok (.aload_n 1, 1) := by decide +kernel
theorem dL_law_366 : decode cL_law 366 = .ok (.aload_n 0, 1) := by decide +kernel
theorem dL_law_367 : decode cL_law 367 = .ok (.iload_n 3, 1) := by decide +kernel
theorem dL_law_368 : decode cL_law 368 = .ok (.iconst 1, 1) := by decide +kernel
theorem dL_law_369 : decode cL_law 369 = .ok (.iadd, 1) := by decide +kernel
theorem dL_law_370 : decode cL_law 370 = .ok (.iaload, 1) := by decide +kernel
theorem dL_law_371 : decode cL_law 371 = .ok (.invokevirtual 35, 3) := by decide +kernel
theorem dL_law_374 : decode cL_law 374 = .ok (.aload_n 2, 1) := by decide +kernel
theorem dL_law_375 : decode cL_law 375 = .ok (.aload_n 0, 1) := by decide +kernel
theorem dL_law_376 : decode cL_law 376 = .ok (.iload_n 3, 1) := by decide +kernel
theorem dL_law_377 : decode cL_law 377 = .ok (.iconst 1, 1) := by decide +kernel
theorem dL_law_378 : decode cL_law 378 = .ok (.iadd, 1) := by decide +kernel
theorem dL_law_379 : decode cL_law 379 = .ok (.iaload, 1) := by decide +kernel
theorem dL_law_380 : decode cL_law 380 = .ok (.invokevirtual 39, 3) := by decide +kernel
theorem dL_law_383 : decode cL_law 383 = .ok (.if_icmp .eq 906, 3) := by decide +kernel
theorem dL_law_386 : decode cL_law 386 = .ok (.iconst 0, 1) := by decide +kernel
theorem dL_law_387 : decode cL_law 387 = .ok (.ireturn, 1) := by decide +kernel
theorem dL_law_388 : decode cL_law 388 = .ok (.aload_n 1, 1) := by decide +kernel
theorem dL_law_389 : decode cL_law 389 = .ok (.aload_n 0, 1) := by decide +kernel
theorem dL_law_390 : decode cL_law 390 = .ok (.iload_n 3, 1) := by decide +kernel
theorem dL_law_391 : decode cL_law 391 = .ok (.iconst 1, 1) := by decide +kernel
theorem dL_law_392 : decode cL_law 392 = .ok (.iadd, 1) := by decide +kernel
theorem dL_law_393 : decode cL_law 393 = .ok (.iaload, 1) := by decide +kernel
theorem dL_law_394 : decode cL_law 394 = .ok (.invokevirtual 40, 3) := by decide +kernel
theorem dL_law_397 : decode cL_law 397 = .ok (.aload_n 2, 1) := by decide +kernel
theorem dL_law_398 : decode cL_law 398 = .ok (.aload_n 0, 1) := by decide +kernel
theorem dL_law_399 : decode cL_law 399 = .ok (.iload_n 3, 1) := by decide +kernel
theorem dL_law_400 : decode cL_law 400 = .ok (.iconst 1, 1) := by decide +kernel
theorem dL_law_401 : decode cL_law 401 = .ok (.iadd, 1) := by decide +kernel
theorem dL_law_402 : decode cL_law 402 = .ok (.iaload, 1) := by decide +kernel
theorem dL_law_403 : decode cL_law 403 = .ok (.invokevirtual 43, 3) := by decide +kernel
theorem dL_law_406 : decode cL_law 406 = .ok (.if_icmp .eq 883, 3) := by decide +kernel
theorem dL_law_409 : decode cL_law 409 = .ok (.iconst 0, 1) := by decide +kernel
theorem dL_law_410 : decode cL_law 410 = .ok (.ireturn, 1) := by decide +kernel
theorem dL_law_411 : decode cL_law 411 = .ok (.aload_n 1, 1) := by decide +kernel
theorem dL_law_412 : decode cL_law 412 = .ok (.invokevirtual 44, 3) := by decide +kernel
theorem dL_law_415 : decode cL_law 415 = .ok (.aload_n 2, 1) := by decide +kernel
theorem dL_law_416 : decode cL_law 416 = .ok (.invokevirtual 48, 3) := by decide +kernel
theorem dL_law_419 : decode cL_law 419 = .ok (.if_icmp .eq 870, 3) := by decide +kernel
theorem dL_law_422 : decode cL_law 422 = .ok (.iconst 0, 1) := by decide +kernel
theorem dL_law_423 : decode cL_law 423 = .ok (.ireturn, 1) := by decide +kernel
theorem dL_law_424 : decode cL_law 424 = .ok (.aload_n 1, 1) := by decide +kernel
theorem dL_law_425 : decode cL_law 425 = .ok (.aload_n 0, 1) := by decide +kernel
theorem dL_law_426 : decode cL_law 426 = .ok (.iload_n 3, 1) := by decide +kernel
theorem dL_law_427 : decode cL_law 427 = .ok (.iconst 1, 1) := by decide +kernel
theorem dL_law_428 : decode cL_law 428 = .ok (.iadd, 1) := by decide +kernel
theorem dL_law_429 : decode cL_law 429 = .ok (.iaload, 1) := by decide +kernel
theorem dL_law_430 : decode cL_law 430 = .ok (.invokevirtual 49, 3) := by decide +kernel
theorem dL_law_433 : decode cL_law 433 = .ok (.aload_n 2, 1) := by decide +kernel
theorem dL_law_434 : decode cL_law 434 = .ok (.aload_n 0, 1) := by decide +kernel
theorem dL_law_435 : decode cL_law 435 = .ok (.iload_n 3, 1) := by decide +kernel
theorem dL_law_436 : decode cL_law 436 = .ok (.iconst 1, 1) := by decide +kernel
theorem dL_law_437 : decode cL_law 437 = .ok (.iadd, 1) := by decide +kernel
theorem dL_law_438 : decode cL_law 438 = .ok (.iaload, 1) := by decide +kernel
theorem dL_law_439 : decode cL_law 439 = .ok (.invokevirtual 52, 3) := by decide +kernel
theorem dL_law_442 : decode cL_law 442 = .ok (.if_icmp .eq 847, 3) := by decide +kernel
theorem dL_law_445 : decode cL_law 445 = .ok (.iconst 0, 1) := by decide +kernel
theorem dL_law_446 : decode cL_law 446 = .ok (.ireturn, 1) := by decide +kernel
theorem dL_law_447 : decode cL_law 447 = .ok (.aload_n 1, 1) := by decide +kernel
theorem dL_law_448 : decode cL_law 448 = .ok (.aload_n 0, 1) := by decide +kernel
theorem dL_law_449 : decode cL_law 449 = .ok (.iload_n 3, 1) := by decide +kernel
theorem dL_law_450 : decode cL_law 450 = .ok (.iconst 1, 1) := by decide +kernel
theorem dL_law_451 : decode cL_law 451 = .ok (.iadd, 1) := by decide +kernel
theorem dL_law_452 : decode cL_law 452 = .ok (.iaload, 1) := by decide +kernel
theorem dL_law_453 : decode cL_law 453 = .ok (.invokevirtual 53, 3) := by decide +kernel
theorem dL_law_456 : decode cL_law 456 = .ok (.aload_n 2, 1) := by decide +kernel
theorem dL_law_457 : decode cL_law 457 = .ok (.aload_n 0, 1) := by decide +kernel
theorem dL_law_458 : decode cL_law 458 = .ok (.iload_n 3, 1) := by decide +kernel
theorem dL_law_459 : decode cL_law 459 = .ok (.iconst 1, 1) := by decide +kernel
theorem dL_law_460 : decode cL_law 460 = .ok (.iadd, 1) := by decide +kernel
theorem dL_law_461 : decode cL_law 461 = .ok (.iaload, 1) := by decide +kernel
theorem dL_law_462 : decode cL_law 462 = .ok (.invokevirtual 56, 3) := by decide +kernel
theorem dL_law_465 : decode cL_law 465 = .ok (.if_icmp .eq 824, 3) := by decide +kernel
theorem dL_law_468 : decode cL_law 468 = .ok (.iconst 0, 1) := by decide +kernel
theorem dL_law_469 : decode cL_law 469 = .ok (.ireturn, 1) := by decide +kernel
theorem dL_law_470 : decode cL_law 470 = .ok (.aload_n 1, 1) := by decide +kernel
theorem dL_law_471 : decode cL_law 471 = .ok (.aload_n 0, 1) := by decide +kernel
theorem dL_law_472 : decode cL_law 472 = .ok (.iload_n 3, 1) := by decide +kernel
theorem dL_law_473 : decode cL_law 473 = .ok (.iconst 1, 1) := by decide +kernel
theorem dL_law_474 : decode cL_law 474 = .ok (.iadd, 1) := by decide +kernel
theorem dL_law_475 : decode cL_law 475 = .ok (.iaload, 1) := by decide +kernel
theorem dL_law_476 : decode cL_law 476 = .ok (.invokevirtual 57, 3) := by decide +kernel
theorem dL_law_479 : decode cL_law 479 = .ok (.aload_n 2, 1) := by decide +kernel
theorem dL_law_480 : decode cL_law 480 = .ok (.aload_n 0, 1) := by decide +kernel
theorem dL_law_481 : decode cL_law 481 = .ok (.iload_n 3, 1) := by decide +kernel
theorem dL_law_482 : decode cL_law 482 = .ok (.iconst 1, 1) := by decide +kernel
theorem dL_law_483 : decode cL_law 483 = .ok (.iadd, 1) := by decide +kernel
theorem dL_law_484 : decode cL_law 484 = .ok (.iaload, 1) := by decide +kernel
theorem dL_law_485 : decode cL_law 485 = .ok (.invokevirtual 60, 3) := by decide +kernel
theorem dL_law_488 : decode cL_law 488 = .ok (.if_icmp .eq 801, 3) := by decide +kernel
theorem dL_law_491 : decode cL_law 491 = .ok (.iconst 0, 1) := by decide +kernel
theorem dL_law_492 : decode cL_law 492 = .ok (.ireturn, 1) := by decide +kernel
theorem dL_law_493 : decode cL_law 493 = .ok (.aload_n 1, 1) := by decide +kernel
theorem dL_law_494 : decode cL_law 494 = .ok (.aload_n 0, 1) := by decide +kernel
theorem dL_law_495 : decode cL_law 495 = .ok (.iload_n 3, 1) := by decide +kernel
theorem dL_law_496 : decode cL_law 496 = .ok (.iconst 1, 1) := by decide +kernel
theorem dL_law_497 : decode cL_law 497 = .ok (.iadd, 1) := by decide +kernel
theorem dL_law_498 : decode cL_law 498 = .ok (.iaload, 1) := by decide +kernel
theorem dL_law_499 : decode cL_law 499 = .ok (.aload_n 0, 1) := by decide +kernel
theorem dL_law_500 : decode cL_law 500 = .ok (.iload_n 3, 1) := by decide +kernel
theorem dL_law_501 : decode cL_law 501 = .ok (.iconst 2, 1) := by decide +kernel
theorem dL_law_502 : decode cL_law 502 = .ok (.iadd, 1) := by decide +kernel
theorem dL_law_503 : decode cL_law 503 = .ok (.iaload, 1) := by decide +kernel
theorem dL_law_504 : decode cL_law 504 = .ok (.aload_n 0, 1) := by decide +kernel
theorem dL_law_505 : decode cL_law 505 = .ok (.iload_n 3, 1) := by decide +kernel
theorem dL_law_506 : decode cL_law 506 = .ok (.iconst 3, 1) := by decide +kernel
theorem dL_law_507 : decode cL_law 507 = .ok (.iadd, 1) := by decide +kernel
theorem dL_law_508 : decode cL_law 508 = .ok (.iaload, 1) := by decide +kernel
theorem dL_law_509 : decode cL_law 509 = .ok (.invokevirtual 61, 3) := by decide +kernel
theorem dL_law_512 : decode cL_law 512 = .ok (.aload_n 2, 1) := by decide +kernel
theorem dL_law_513 : decode cL_law 513 = .ok (.aload_n 0, 1) := by decide +kernel
theorem dL_law_514 : decode cL_law 514 = .ok (.iload_n 3, 1) := by decide +kernel
theorem dL_law_515 : decode cL_law 515 = .ok (.iconst 1, 1) := by decide +kernel
theorem dL_law_516 : decode cL_law 516 = .ok (.iadd, 1) := by decide +kernel
theorem dL_law_517 : decode cL_law 517 = .ok (.iaload, 1) := by decide +kernel
theorem dL_law_518 : decode cL_law 518 = .ok (.aload_n 0, 1) := by decide +kernel
theorem dL_law_519 : decode cL_law 519 = .ok (.iload_n 3, 1) := by decide +kernel
theorem dL_law_520 : decode cL_law 520 = .ok (.iconst 2, 1) := by decide +kernel
theorem dL_law_521 : decode cL_law 521 = .ok (.iadd, 1) := by decide +kernel
theorem dL_law_522 : decode cL_law 522 = .ok (.iaload, 1) := by decide +kernel
theorem dL_law_523 : decode cL_law 523 = .ok (.aload_n 0, 1) := by decide +kernel
theorem dL_law_524 : decode cL_law 524 = .ok (.iload_n 3, 1) := by decide +kernel
theorem dL_law_525 : decode cL_law 525 = .ok (.iconst 3, 1) := by decide +kernel
theorem dL_law_526 : decode cL_law 526 = .ok (.iadd, 1) := by decide +kernel
theorem dL_law_527 : decode cL_law 527 = .ok (.iaload, 1) := by decide +kernel
theorem dL_law_528 : decode cL_law 528 = .ok (.invokevirtual 64, 3) := by decide +kernel
theorem dL_law_531 : decode cL_law 531 = .ok (.if_icmp .eq 758, 3) := by decide +kernel
theorem dL_law_534 : decode cL_law 534 = .ok (.iconst 0, 1) := by decide +kernel
theorem dL_law_535 : decode cL_law 535 = .ok (.ireturn, 1) := by decide +kernel
theorem dL_law_536 : decode cL_law 536 = .ok (.aload_n 1, 1) := by decide +kernel
theorem dL_law_537 : decode cL_law 537 = .ok (.aload_n 0, 1) := by decide +kernel
theorem dL_law_538 : decode cL_law 538 = .ok (.iload_n 3, 1) := by decide +kernel
theorem dL_law_539 : decode cL_law 539 = .ok (.iconst 1, 1) := by decide +kernel
theorem dL_law_540 : decode cL_law 540 = .ok (.iadd, 1) := by decide +kernel
theorem dL_law_541 : decode cL_law 541 = .ok (.iaload, 1) := by decide +kernel
theorem dL_law_542 : decode cL_law 542 = .ok (.invokevirtual 65, 3) := by decide +kernel
theorem dL_law_545 : decode cL_law 545 = .ok (.aload_n 2, 1) := by decide +kernel
theorem dL_law_546 : decode cL_law 546 = .ok (.aload_n 0, 1) := by decide +kernel
theorem dL_law_547 : decode cL_law 547 = .ok (.iload_n 3, 1) := by decide +kernel
theorem dL_law_548 : decode cL_law 548 = .ok (.iconst 1, 1) := by decide +kernel
theorem dL_law_549 : decode cL_law 549 = .ok (.iadd, 1) := by decide +kernel
theorem dL_law_550 : decode cL_law 550 = .ok (.iaload, 1) := by decide +kernel
theorem dL_law_551 : decode cL_law 551 = .ok (.invokevirtual 68, 3) := by decide +kernel
theorem dL_law_554 : decode cL_law 554 = .ok (.if_icmp .eq 735, 3) := by decide +kernel
theorem dL_law_557 : decode cL_law 557 = .ok (.iconst 0, 1) := by decide +kernel
theorem dL_law_558 : decode cL_law 558 = .ok (.ireturn, 1) := by decide +kernel
theorem dL_law_559 : decode cL_law 559 = .ok (.aload_n 1, 1) := by decide +kernel
theorem dL_law_560 : decode cL_law 560 = .ok (.invokevirtual 69, 3) := by decide +kernel
theorem dL_law_563 : decode cL_law 563 = .ok (.aload_n 2, 1) := by decide +kernel
theorem dL_law_564 : decode cL_law 564 = .ok (.invokevirtual 72, 3) := by decide +kernel
theorem dL_law_567 : decode cL_law 567 = .ok (.if_icmp .eq 722, 3) := by decide +kernel
theorem dL_law_570 : decode cL_law 570 = .ok (.iconst 0, 1) := by decide +kernel
theorem dL_law_571 : decode cL_law 571 = .ok (.ireturn, 1) := by decide +kernel
theorem dL_law_572 : decode cL_law 572 = .ok (.aload_n 1, 1) := by decide +kernel
theorem dL_law_573 : decode cL_law 573 = .ok (.aload_n 0, 1) := by decide +kernel
theorem dL_law_574 : decode cL_law 574 = .ok (.iload_n 3, 1) := by decide +kernel
theorem dL_law_575 : decode cL_law 575 = .ok (.iconst 1, 1) := by decide +kernel
theorem dL_law_576 : decode cL_law 576 = .ok (.iadd, 1) := by decide +kernel
theorem dL_law_577 : decode cL_law 577 = .ok (.iaload, 1) := by decide +kernel
theorem dL_law_578 : decode cL_law 578 = .ok (.invokevirtual 73, 3) := by decide +kernel
theorem dL_law_581 : decode cL_law 581 = .ok (.aload_n 2, 1) := by decide +kernel
theorem dL_law_582 : decode cL_law 582 = .ok (.aload_n 0, 1) := by decide +kernel
theorem dL_law_583 : decode cL_law 583 = .ok (.iload_n 3, 1) := by decide +kernel
theorem dL_law_584 : decode cL_law 584 = .ok (.iconst 1, 1) := by decide +kernel
theorem dL_law_585 : decode cL_law 585 = .ok (.iadd, 1) := by decide +kernel
theorem dL_law_586 : decode cL_law 586 = .ok (.iaload, 1) := by decide +kernel
theorem dL_law_587 : decode cL_law 587 = .ok (.invokevirtual 76, 3) := by decide +kernel
theorem dL_law_590 : decode cL_law 590 = .ok (.if_icmp .eq 699, 3) := by decide +kernel
theorem dL_law_593 : decode cL_law 593 = .ok (.iconst 0, 1) := by decide +kernel
theorem dL_law_594 : decode cL_law 594 = .ok (.ireturn, 1) := by decide +kernel
theorem dL_law_595 : decode cL_law 595 = .ok (.aload_n 1, 1) := by decide +kernel
theorem dL_law_596 : decode cL_law 596 = .ok (.aload_n 0, 1) := by decide +kernel
theorem dL_law_597 : decode cL_law 597 = .ok (.iload_n 3, 1) := by decide +kernel
theorem dL_law_598 : decode cL_law 598 = .ok (.iconst 1, 1) := by decide +kernel
theorem dL_law_599 : decode cL_law 599 = .ok (.iadd, 1) := by decide +kernel
theorem dL_law_600 : decode cL_law 600 = .ok (.iaload, 1) := by decide +kernel
theorem dL_law_601 : decode cL_law 601 = .ok (.aload_n 0, 1) := by decide +kernel
theorem dL_law_602 : decode cL_law 602 = .ok (.iload_n 3, 1) := by decide +kernel
theorem dL_law_603 : decode cL_law 603 = .ok (.iconst 2, 1) := by decide +kernel
theorem dL_law_604 : decode cL_law 604 = .ok (.iadd, 1) := by decide +kernel
theorem dL_law_605 : decode cL_law 605 = .ok (.iaload, 1) := by decide +kernel
theorem dL_law_606 : decode cL_law 606 = .ok (.invokevirtual 77, 3) := by decide +kernel
theorem dL_law_609 : decode cL_law 609 = .ok (.aload_n 2, 1) := by decide +kernel
theorem dL_law_610 : decode cL_law 610 = .ok (.aload_n 0, 1) := by decide +kernel
theorem dL_law_611 : decode cL_law 611 = .ok (.iload_n 3, 1) := by decide +kernel
theorem dL_law_612 : decode cL_law 612 = .ok (.iconst 1, 1) := by decide +kernel
theorem dL_law_613 : decode cL_law 613 = .ok (.iadd, 1) := by decide +kernel
theorem dL_law_614 : decode cL_law 614 = .ok (.iaload, 1) := by decide +kernel
theorem dL_law_615 : decode cL_law 615 = .ok (.aload_n 0, 1) := by decide +kernel
theorem dL_law_616 : decode cL_law 616 = .ok (.iload_n 3, 1) := by decide +kernel
theorem dL_law_617 : decode cL_law 617 = .ok (.iconst 2, 1) := by decide +kernel
theorem dL_law_618 : decode cL_law 618 = .ok (.iadd, 1) := by decide +kernel
theorem dL_law_619 : decode cL_law 619 = .ok (.iaload, 1) := by decide +kernel
theorem dL_law_620 : decode cL_law 620 = .ok (.invokevirtual 80, 3) := by decide +kernel
theorem dL_law_623 : decode cL_law 623 = .ok (.if_icmp .eq 666, 3) := by decide +kernel
theorem dL_law_626 : decode cL_law 626 = .ok (.iconst 0, 1) := by decide +kernel
theorem dL_law_627 : decode cL_law 627 = .ok (.ireturn, 1) := by decide +kernel
theorem dL_law_628 : decode cL_law 628 = .ok (.aload_n 1, 1) := by decide +kernel
theorem dL_law_629 : decode cL_law 629 = .ok (.aload_n 0, 1) := by decide +kernel
theorem dL_law_630 : decode cL_law 630 = .ok (.iload_n 3, 1) := by decide +kernel
theorem dL_law_631 : decode cL_law 631 = .ok (.iconst 1, 1) := by decide +kernel
theorem dL_law_632 : decode cL_law 632 = .ok (.iadd, 1) := by decide +kernel
theorem dL_law_633 : decode cL_law 633 = .ok (.iaload, 1) := by decide +kernel
theorem dL_law_634 : decode cL_law 634 = .ok (.aload_n 0, 1) := by decide +kernel
theorem dL_law_635 : decode cL_law 635 = .ok (.iload_n 3, 1) := by decide +kernel
theorem dL_law_636 : decode cL_law 636 = .ok (.iconst 2, 1) := by decide +kernel
theorem dL_law_637 : decode cL_law 637 = .ok (.iadd, 1) := by decide +kernel
theorem dL_law_638 : decode cL_law 638 = .ok (.iaload, 1) := by decide +kernel
theorem dL_law_639 : decode cL_law 639 = .ok (.invokevirtual 81, 3) := by decide +kernel
theorem dL_law_642 : decode cL_law 642 = .ok (.aload_n 2, 1) := by decide +kernel
theorem dL_law_643 : decode cL_law 643 = .ok (.aload_n 0, 1) := by decide +kernel
theorem dL_law_644 : decode cL_law 644 = .ok (.iload_n 3, 1) := by decide +kernel
theorem dL_law_645 : decode cL_law 645 = .ok (.iconst 1, 1) := by decide +kernel
theorem dL_law_646 : decode cL_law 646 = .ok (.iadd, 1) := by decide +kernel
theorem dL_law_647 : decode cL_law 647 = .ok (.iaload, 1) := by decide +kernel
theorem dL_law_648 : decode cL_law 648 = .ok (.aload_n 0, 1) := by decide +kernel
theorem dL_law_649 : decode cL_law 649 = .ok (.iload_n 3, 1) := by decide +kernel
theorem dL_law_650 : decode cL_law 650 = .ok (.iconst 2, 1) := by decide +kernel
theorem dL_law_651 : decode cL_law 651 = .ok (.iadd, 1) := by decide +kernel
theorem dL_law_652 : decode cL_law 652 = .ok (.iaload, 1) := by decide +kernel
theorem dL_law_653 : decode cL_law 653 = .ok (.invokevirtual 84, 3) := by decide +kernel
theorem dL_law_656 : decode cL_law 656 = .ok (.if_icmp .eq 633, 3) := by decide +kernel
theorem dL_law_659 : decode cL_law 659 = .ok (.iconst 0, 1) := by decide +kernel
theorem dL_law_660 : decode cL_law 660 = .ok (.ireturn, 1) := by decide +kernel
theorem dL_law_661 : decode cL_law 661 = .ok (.aload_n 1, 1) := by decide +kernel
theorem dL_law_662 : decode cL_law 662 = .ok (.invokevirtual 85, 3) := by decide +kernel
theorem dL_law_665 : decode cL_law 665 = .ok (.aload_n 2, 1) := by decide +kernel
theorem dL_law_666 : decode cL_law 666 = .ok (.invokevirtual 88, 3) := by decide +kernel
theorem dL_law_669 : decode cL_law 669 = .ok (.if_icmp .eq 620, 3) := by decide +kernel
theorem dL_law_672 : decode cL_law 672 = .ok (.iconst 0, 1) := by decide +kernel
theorem dL_law_673 : decode cL_law 673 = .ok (.ireturn, 1) := by decide +kernel
theorem dL_law_674 : decode cL_law 674 = .ok (.aload_n 1, 1) := by decide +kernel
theorem dL_law_675 : decode cL_law 675 = .ok (.aload_n 0, 1) := by decide +kernel
theorem dL_law_676 : decode cL_law 676 = .ok (.iload_n 3, 1) := by decide +kernel
theorem dL_law_677 : decode cL_law 677 = .ok (.iconst 1, 1) := by decide +kernel
theorem dL_law_678 : decode cL_law 678 = .ok (.iadd, 1) := by decide +kernel
theorem dL_law_679 : decode cL_law 679 = .ok (.iaload, 1) := by decide +kernel
theorem dL_law_680 : decode cL_law 680 = .ok (.aload_n 0, 1) := by decide +kernel
theorem dL_law_681 : decode cL_law 681 = .ok (.iload_n 3, 1) := by decide +kernel
theorem dL_law_682 : decode cL_law 682 = .ok (.iconst 2, 1) := by decide +kernel
theorem dL_law_683 : decode cL_law 683 = .ok (.iadd, 1) := by decide +kernel
theorem dL_law_684 : decode cL_law 684 = .ok (.iaload, 1) := by decide +kernel
theorem dL_law_685 : decode cL_law 685 = .ok (.invokevirtual 89, 3) := by decide +kernel
theorem dL_law_688 : decode cL_law 688 = .ok (.aload_n 2, 1) := by decide +kernel
theorem dL_law_689 : decode cL_law 689 = .ok (.aload_n 0, 1) := by decide +kernel
theorem dL_law_690 : decode cL_law 690 = .ok (.iload_n 3, 1) := by decide +kernel
theorem dL_law_691 : decode cL_law 691 = .ok (.iconst 1, 1) := by decide +kernel
theorem dL_law_692 : decode cL_law 692 = .ok (.iadd, 1) := by decide +kernel
theorem dL_law_693 : decode cL_law 693 = .ok (.iaload, 1) := by decide +kernel
theorem dL_law_694 : decode cL_law 694 = .ok (.aload_n 0, 1) := by decide +kernel
theorem dL_law_695 : decode cL_law 695 = .ok (.iload_n 3, 1) := by decide +kernel
theorem dL_law_696 : decode cL_law 696 = .ok (.iconst 2, 1) := by decide +kernel
theorem dL_law_697 : decode cL_law 697 = .ok (.iadd, 1) := by decide +kernel
theorem dL_law_698 : decode cL_law 698 = .ok (.iaload, 1) := by decide +kernel
theorem dL_law_699 : decode cL_law 699 = .ok (.invokevirtual 92, 3) := by decide +kernel
theorem dL_law_702 : decode cL_law 702 = .ok (.if_icmp .eq 587, 3) := by decide +kernel
theorem dL_law_705 : decode cL_law 705 = .ok (.iconst 0, 1) := by decide +kernel
theorem dL_law_706 : decode cL_law 706 = .ok (.ireturn, 1) := by decide +kernel
theorem dL_law_707 : decode cL_law 707 = .ok (.aload_n 1, 1) := by decide +kernel
theorem dL_law_708 : decode cL_law 708 = .ok (.aload_n 0, 1) := by decide +kernel
theorem dL_law_709 : decode cL_law 709 = .ok (.iload_n 3, 1) := by decide +kernel
theorem dL_law_710 : decode cL_law 710 = .ok (.iconst 1, 1) := by decide +kernel
theorem dL_law_711 : decode cL_law 711 = .ok (.iadd, 1) := by decide +kernel
theorem dL_law_712 : decode cL_law 712 = .ok (.iaload, 1) := by decide +kernel
theorem dL_law_713 : decode cL_law 713 = .ok (.aload_n 0, 1) := by decide +kernel
theorem dL_law_714 : decode cL_law 714 = .ok (.iload_n 3, 1) := by decide +kernel
theorem dL_law_715 : decode cL_law 715 = .ok (.iconst 2, 1) := by decide +kernel
theorem dL_law_716 : decode cL_law 716 = .ok (.iadd, 1) := by decide +kernel
theorem dL_law_717 : decode cL_law 717 = .ok (.iaload, 1) := by decide +kernel
theorem dL_law_718 : decode cL_law 718 = .ok (.invokevirtual 93, 3) := by decide +kernel
theorem dL_law_721 : decode cL_law 721 = .ok (.aload_n 2, 1) := by decide +kernel
theorem dL_law_722 : decode cL_law 722 = .ok (.aload_n 0, 1) := by decide +kernel
theorem dL_law_723 : decode cL_law 723 = .ok (.iload_n 3, 1) := by decide +kernel
theorem dL_law_724 : decode cL_law 724 = .ok (.iconst 1, 1) := by decide +kernel
theorem dL_law_725 : decode cL_law 725 = .ok (.iadd, 1) := by decide +kernel
theorem dL_law_726 : decode cL_law 726 = .ok (.iaload, 1) := by decide +kernel
theorem dL_law_727 : decode cL_law 727 = .ok (.aload_n 0, 1) := by decide +kernel
theorem dL_law_728 : decode cL_law 728 = .ok (.iload_n 3, 1) := by decide +kernel
theorem dL_law_729 : decode cL_law 729 = .ok (.iconst 2, 1) := by decide +kernel
theorem dL_law_730 : decode cL_law 730 = .ok (.iadd, 1) := by decide +kernel
theorem dL_law_731 : decode cL_law 731 = .ok (.iaload, 1) := by decide +kernel
theorem dL_law_732 : decode cL_law 732 = .ok (.invokevirtual 96, 3) := by decide +kernel
theorem dL_law_735 : decode cL_law 735 = .ok (.if_icmp .eq 554, 3) := by decide +kernel
theorem dL_law_738 : decode cL_law 738 = .ok (.iconst 0, 1) := by decide +kernel
theorem dL_law_739 : decode cL_law 739 = .ok (.ireturn, 1) := by decide +kernel
theorem dL_law_740 : decode cL_law 740 = .ok (.aload_n 1, 1) := by decide +kernel
theorem dL_law_741 : decode cL_law 741 = .ok (.aload_n 0, 1) := by decide +kernel
theorem dL_law_742 : decode cL_law 742 = .ok (.iload_n 3, 1) := by decide +kernel
theorem dL_law_743 : decode cL_law 743 = .ok (.iconst 1, 1) := by decide +kernel
theorem dL_law_744 : decode cL_law 744 = .ok (.iadd, 1) := by decide +kernel
theorem dL_law_745 : decode cL_law 745 = .ok (.iaload, 1) := by decide +kernel
theorem dL_law_746 : decode cL_law 746 = .ok (.aload_n 0, 1) := by decide +kernel
theorem dL_law_747 : decode cL_law 747 = .ok (.iload_n 3, 1) := by decide +kernel
theorem dL_law_748 : decode cL_law 748 = .ok (.iconst 2, 1) := by decide +kernel
theorem dL_law_749 : decode cL_law 749 = .ok (.iadd, 1) := by decide +kernel
theorem dL_law_750 : decode cL_law 750 = .ok (.iaload, 1) := by decide +kernel
theorem dL_law_751 : decode cL_law 751 = .ok (.invokevirtual 97, 3) := by decide +kernel
theorem dL_law_754 : decode cL_law 754 = .ok (.aload_n 2, 1) := by decide +kernel
theorem dL_law_755 : decode cL_law 755 = .ok (.aload_n 0, 1) := by decide +kernel
theorem dL_law_756 : decode cL_law 756 = .ok (.iload_n 3, 1) := by decide +kernel
theorem dL_law_757 : decode cL_law 757 = .ok (.iconst 1, 1) := by decide +kernel
theorem dL_law_758 : decode cL_law 758 = .ok (.iadd, 1) := by decide +kernel
theorem dL_law_759 : decode cL_law 759 = .ok (.iaload, 1) := by decide +kernel
theorem dL_law_760 : decode cL_law 760 = .ok (.aload_n 0, 1) := by decide +kernel
theorem dL_law_761 : decode cL_law 761 = .ok (.iload_n 3, 1) := by decide +kernel
theorem dL_law_762 : decode cL_law 762 = .ok (.iconst 2, 1) := by decide +kernel
theorem dL_law_763 : decode cL_law 763 = .ok (.iadd, 1) := by decide +kernel
theorem dL_law_764 : decode cL_law 764 = .ok (.iaload, 1) := by decide +kernel
theorem dL_law_765 : decode cL_law 765 = .ok (.invokevirtual 100, 3) := by decide +kernel
theorem dL_law_768 : decode cL_law 768 = .ok (.if_icmp .eq 521, 3) := by decide +kernel
theorem dL_law_771 : decode cL_law 771 = .ok (.iconst 0, 1) := by decide +kernel
theorem dL_law_772 : decode cL_law 772 = .ok (.ireturn, 1) := by decide +kernel
theorem dL_law_773 : decode cL_law 773 = .ok (.aload_n 1, 1) := by decide +kernel
theorem dL_law_774 : decode cL_law 774 = .ok (.aload_n 0, 1) := by decide +kernel
theorem dL_law_775 : decode cL_law 775 = .ok (.iload_n 3, 1) := by decide +kernel
theorem dL_law_776 : decode cL_law 776 = .ok (.iconst 1, 1) := by decide +kernel
theorem dL_law_777 : decode cL_law 777 = .ok (.iadd, 1) := by decide +kernel
theorem dL_law_778 : decode cL_law 778 = .ok (.iaload, 1) := by decide +kernel
theorem dL_law_779 : decode cL_law 779 = .ok (.aload_n 0, 1) := by decide +kernel
theorem dL_law_780 : decode cL_law 780 = .ok (.iload_n 3, 1) := by decide +kernel
theorem dL_law_781 : decode cL_law 781 = .ok (.iconst 2, 1) := by decide +kernel
theorem dL_law_782 : decode cL_law 782 = .ok (.iadd, 1) := by decide +kernel
theorem dL_law_783 : decode cL_law 783 = .ok (.iaload, 1) := by decide +kernel
theorem dL_law_784 : decode cL_law 784 = .ok (.invokevirtual 101, 3) := by decide +kernel
theorem dL_law_787 : decode cL_law 787 = .ok (.aload_n 2, 1) := by decide +kernel
theorem dL_law_788 : decode cL_law 788 = .ok (.aload_n 0, 1) := by decide +kernel
theorem dL_law_789 : decode cL_law 789 = .ok (.iload_n 3, 1) := by decide +kernel
theorem dL_law_790 : decode cL_law 790 = .ok (.iconst 1, 1) := by decide +kernel
theorem dL_law_791 : decode cL_law 791 = .ok (.iadd, 1) := by decide +kernel
theorem dL_law_792 : decode cL_law 792 = .ok (.iaload, 1) := by decide +kernel
theorem dL_law_793 : decode cL_law 793 = .ok (.aload_n 0, 1) := by decide +kernel
theorem dL_law_794 : decode cL_law 794 = .ok (.iload_n 3, 1) := by decide +kernel
theorem dL_law_795 : decode cL_law 795 = .ok (.iconst 2, 1) := by decide +kernel
theorem dL_law_796 : decode cL_law 796 = .ok (.iadd, 1) := by decide +kernel
theorem dL_law_797 : decode cL_law 797 = .ok (.iaload, 1) := by decide +kernel
theorem dL_law_798 : decode cL_law 798 = .ok (.invokevirtual 104, 3) := by decide +kernel
theorem dL_law_801 : decode cL_law 801 = .ok (.if_icmp .eq 488, 3) := by decide +kernel
theorem dL_law_804 : decode cL_law 804 = .ok (.iconst 0, 1) := by decide +kernel
theorem dL_law_805 : decode cL_law 805 = .ok (.ireturn, 1) := by decide +kernel
theorem dL_law_806 : decode cL_law 806 = .ok (.aload_n 1, 1) := by decide +kernel
theorem dL_law_807 : decode cL_law 807 = .ok (.aload_n 0, 1) := by decide +kernel
theorem dL_law_808 : decode cL_law 808 = .ok (.iload_n 3, 1) := by decide +kernel
theorem dL_law_809 : decode cL_law 809 = .ok (.iconst 1, 1) := by decide +kernel
theorem dL_law_810 : decode cL_law 810 = .ok (.iadd, 1) := by decide +kernel
theorem dL_law_811 : decode cL_law 811 = .ok (.iaload, 1) := by decide +kernel
theorem dL_law_812 : decode cL_law 812 = .ok (.aload_n 0, 1) := by decide +kernel
theorem dL_law_813 : decode cL_law 813 = .ok (.iload_n 3, 1) := by decide +kernel
theorem dL_law_814 : decode cL_law 814 = .ok (.iconst 2, 1) := by decide +kernel
theorem dL_law_815 : decode cL_law 815 = .ok (.iadd, 1) := by decide +kernel
theorem dL_law_816 : decode cL_law 816 = .ok (.iaload, 1) := by decide +kernel
theorem dL_law_817 : decode cL_law 817 = .ok (.invokevirtual 105, 3) := by decide +kernel
theorem dL_law_820 : decode cL_law 820 = .ok (.aload_n 2, 1) := by decide +kernel
theorem dL_law_821 : decode cL_law 821 = .ok (.aload_n 0, 1) := by decide +kernel
theorem dL_law_822 : decode cL_law 822 = .ok (.iload_n 3, 1) := by decide +kernel
theorem dL_law_823 : decode cL_law 823 = .ok (.iconst 1, 1) := by decide +kernel
theorem dL_law_824 : decode cL_law 824 = .ok (.iadd, 1) := by decide +kernel
theorem dL_law_825 : decode cL_law 825 = .ok (.iaload, 1) := by decide +kernel
theorem dL_law_826 : decode cL_law 826 = .ok (.aload_n 0, 1) := by decide +kernel
theorem dL_law_827 : decode cL_law 827 = .ok (.iload_n 3, 1) := by decide +kernel
theorem dL_law_828 : decode cL_law 828 = .ok (.iconst 2, 1) := by decide +kernel
theorem dL_law_829 : decode cL_law 829 = .ok (.iadd, 1) := by decide +kernel
theorem dL_law_830 : decode cL_law 830 = .ok (.iaload, 1) := by decide +kernel
theorem dL_law_831 : decode cL_law 831 = .ok (.invokevirtual 108, 3) := by decide +kernel
theorem dL_law_834 : decode cL_law 834 = .ok (.if_icmp .eq 455, 3) := by decide +kernel
theorem dL_law_837 : decode cL_law 837 = .ok (.iconst 0, 1) := by decide +kernel
theorem dL_law_838 : decode cL_law 838 = .ok (.ireturn, 1) := by decide +kernel
theorem dL_law_839 : decode cL_law 839 = .ok (.aload_n 1, 1) := by decide +kernel
theorem dL_law_840 : decode cL_law 840 = .ok (.aload_n 0, 1) := by decide +kernel
theorem dL_law_841 : decode cL_law 841 = .ok (.iload_n 3, 1) := by decide +kernel
theorem dL_law_842 : decode cL_law 842 = .ok (.iconst 1, 1) := by decide +kernel
theorem dL_law_843 : decode cL_law 843 = .ok (.iadd, 1) := by decide +kernel
theorem dL_law_844 : decode cL_law 844 = .ok (.iaload, 1) := by decide +kernel
theorem dL_law_845 : decode cL_law 845 = .ok (.aload_n 0, 1) := by decide +kernel
theorem dL_law_846 : decode cL_law 846 = .ok (.iload_n 3, 1) := by decide +kernel
theorem dL_law_847 : decode cL_law 847 = .ok (.iconst 2, 1) := by decide +kernel
theorem dL_law_848 : decode cL_law 848 = .ok (.iadd, 1) := by decide +kernel
theorem dL_law_849 : decode cL_law 849 = .ok (.iaload, 1) := by decide +kernel
theorem dL_law_850 : decode cL_law 850 = .ok (.aload_n 0, 1) := by decide +kernel
theorem dL_law_851 : decode cL_law 851 = .ok (.iload_n 3, 1) := by decide +kernel
theorem dL_law_852 : decode cL_law 852 = .ok (.iconst 3, 1) := by decide +kernel
theorem dL_law_853 : decode cL_law 853 = .ok (.iadd, 1) := by decide +kernel
theorem dL_law_854 : decode cL_law 854 = .ok (.iaload, 1) := by decide +kernel
theorem dL_law_855 : decode cL_law 855 = .ok (.invokevirtual 109, 3) := by decide +kernel
theorem dL_law_858 : decode cL_law 858 = .ok (.aload_n 2, 1) := by decide +kernel
theorem dL_law_859 : decode cL_law 859 = .ok (.aload_n 0, 1) := by decide +kernel
theorem dL_law_860 : decode cL_law 860 = .ok (.iload_n 3, 1) := by decide +kernel
theorem dL_law_861 : decode cL_law 861 = .ok (.iconst 1, 1) := by decide +kernel
theorem dL_law_862 : decode cL_law 862 = .ok (.iadd, 1) := by decide +kernel
theorem dL_law_863 : decode cL_law 863 = .ok (.iaload, 1) := by decide +kernel
theorem dL_law_864 : decode cL_law 864 = .ok (.aload_n 0, 1) := by decide +kernel
theorem dL_law_865 : decode cL_law 865 = .ok (.iload_n 3, 1) := by decide +kernel
theorem dL_law_866 : decode cL_law 866 = .ok (.iconst 2, 1) := by decide +kernel
theorem dL_law_867 : decode cL_law 867 = .ok (.iadd, 1) := by decide +kernel
theorem dL_law_868 : decode cL_law 868 = .ok (.iaload, 1) := by decide +kernel
theorem dL_law_869 : decode cL_law 869 = .ok (.aload_n 0, 1) := by decide +kernel
theorem dL_law_870 : decode cL_law 870 = .ok (.iload_n 3, 1) := by decide +kernel
theorem dL_law_871 : decode cL_law 871 = .ok (.iconst 3, 1) := by decide +kernel
theorem dL_law_872 : decode cL_law 872 = .ok (.iadd, 1) := by decide +kernel
theorem dL_law_873 : decode cL_law 873 = .ok (.iaload, 1) := by decide +kernel
theorem dL_law_874 : decode cL_law 874 = .ok (.invokevirtual 112, 3) := by decide +kernel
theorem dL_law_877 : decode cL_law 877 = .ok (.if_icmp .eq 412, 3) := by decide +kernel
theorem dL_law_880 : decode cL_law 880 = .ok (.iconst 0, 1) := by decide +kernel
theorem dL_law_881 : decode cL_law 881 = .ok (.ireturn, 1) := by decide +kernel
theorem dL_law_882 : decode cL_law 882 = .ok (.aload_n 1, 1) := by decide +kernel
theorem dL_law_883 : decode cL_law 883 = .ok (.aload_n 0, 1) := by decide +kernel
theorem dL_law_884 : decode cL_law 884 = .ok (.iload_n 3, 1) := by decide +kernel
theorem dL_law_885 : decode cL_law 885 = .ok (.iconst 1, 1) := by decide +kernel
theorem dL_law_886 : decode cL_law 886 = .ok (.iadd, 1) := by decide +kernel
theorem dL_law_887 : decode cL_law 887 = .ok (.iaload, 1) := by decide +kernel
theorem dL_law_888 : decode cL_law 888 = .ok (.aload_n 0, 1) := by decide +kernel
theorem dL_law_889 : decode cL_law 889 = .ok (.iload_n 3, 1) := by decide +kernel
theorem dL_law_890 : decode cL_law 890 = .ok (.iconst 2, 1) := by decide +kernel
theorem dL_law_891 : decode cL_law 891 = .ok (.iadd, 1) := by decide +kernel
theorem dL_law_892 : decode cL_law 892 = .ok (.iaload, 1) := by decide +kernel
theorem dL_law_893 : decode cL_law 893 = .ok (.aload_n 0, 1) := by decide +kernel
theorem dL_law_894 : decode cL_law 894 = .ok (.iload_n 3, 1) := by decide +kernel
theorem dL_law_895 : decode cL_law 895 = .ok (.iconst 3, 1) := by decide +kernel
theorem dL_law_896 : decode cL_law 896 = .ok (.iadd, 1) := by decide +kernel
theorem dL_law_897 : decode cL_law 897 = .ok (.iaload, 1) := by decide +kernel
theorem dL_law_898 : decode cL_law 898 = .ok (.invokevirtual 113, 3) := by decide +kernel
theorem dL_law_901 : decode cL_law 901 = .ok (.aload_n 2, 1) := by decide +kernel
theorem dL_law_902 : decode cL_law 902 = .ok (.aload_n 0, 1) := by decide +kernel
theorem dL_law_903 : decode cL_law 903 = .ok (.iload_n 3, 1) := by decide +kernel
theorem dL_law_904 : decode cL_law 904 = .ok (.iconst 1, 1) := by decide +kernel
theorem dL_law_905 : decode cL_law 905 = .ok (.iadd, 1) := by decide +kernel
theorem dL_law_906 : decode cL_law 906 = .ok (.iaload, 1) := by decide +kernel
theorem dL_law_907 : decode cL_law 907 = .ok (.aload_n 0, 1) := by decide +kernel
theorem dL_law_908 : decode cL_law 908 = .ok (.iload_n 3, 1) := by decide +kernel
theorem dL_law_909 : decode cL_law 909 = .ok (.iconst 2, 1) := by decide +kernel
theorem dL_law_910 : decode cL_law 910 = .ok (.iadd, 1) := by decide +kernel
theorem dL_law_911 : decode cL_law 911 = .ok (.iaload, 1) := by decide +kernel
theorem dL_law_912 : decode cL_law 912 = .ok (.aload_n 0, 1) := by decide +kernel
theorem dL_law_913 : decode cL_law 913 = .ok (.iload_n 3, 1) := by decide +kernel
theorem dL_law_914 : decode cL_law 914 = .ok (.iconst 3, 1) := by decide +kernel
theorem dL_law_915 : decode cL_law 915 = .ok (.iadd, 1) := by decide +kernel
theorem dL_law_916 : decode cL_law 916 = .ok (.iaload, 1) := by decide +kernel
theorem dL_law_917 : decode cL_law 917 = .ok (.invokevirtual 116, 3) := by decide +kernel
theorem dL_law_920 : decode cL_law 920 = .ok (.if_icmp .eq 369, 3) := by decide +kernel
theorem dL_law_923 : decode cL_law 923 = .ok (.iconst 0, 1) := by decide +kernel
theorem dL_law_924 : decode cL_law 924 = .ok (.ireturn, 1) := by decide +kernel
theorem dL_law_925 : decode cL_law 925 = .ok (.aload_n 1, 1) := by decide +kernel
theorem dL_law_926 : decode cL_law 926 = .ok (.invokevirtual 117, 3) := by decide +kernel
theorem dL_law_929 : decode cL_law 929 = .ok (.aload_n 2, 1) := by decide +kernel
theorem dL_law_930 : decode cL_law 930 = .ok (.invokevirtual 120, 3) := by decide +kernel
theorem dL_law_933 : decode cL_law 933 = .ok (.if_icmp .eq 356, 3) := by decide +kernel
theorem dL_law_936 : decode cL_law 936 = .ok (.iconst 0, 1) := by decide +kernel
theorem dL_law_937 : decode cL_law 937 = .ok (.ireturn, 1) := by decide +kernel
theorem dL_law_938 : decode cL_law 938 = .ok (.aload_n 1, 1) := by decide +kernel
theorem dL_law_939 : decode cL_law 939 = .ok (.invokevirtual 121, 3) := by decide +kernel
theorem dL_law_942 : decode cL_law 942 = .ok (.aload_n 2, 1) := by decide +kernel
theorem dL_law_943 : decode cL_law 943 = .ok (.invokevirtual 124, 3) := by decide +kernel
theorem dL_law_946 : decode cL_law 946 = .ok (.if_icmp .eq 343, 3) := by decide +kernel
theorem dL_law_949 : decode cL_law 949 = .ok (.iconst 0, 1) := by decide +kernel
theorem dL_law_950 : decode cL_law 950 = .ok (.ireturn, 1) := by decide +kernel
theorem dL_law_951 : decode cL_law 951 = .ok (.aload_n 1, 1) := by decide +kernel
theorem dL_law_952 : decode cL_law 952 = .ok (.aload_n 0, 1) := by decide +kernel
theorem dL_law_953 : decode cL_law 953 = .ok (.iload_n 3, 1) := by decide +kernel
theorem dL_law_954 : decode cL_law 954 = .ok (.iconst 1, 1) := by decide +kernel
theorem dL_law_955 : decode cL_law 955 = .ok (.iadd, 1) := by decide +kernel
theorem dL_law_956 : decode cL_law 956 = .ok (.iaload, 1) := by decide +kernel
theorem dL_law_957 : decode cL_law 957 = .ok (.aload_n 0, 1) := by decide +kernel
theorem dL_law_958 : decode cL_law 958 = .ok (.iload_n 3, 1) := by decide +kernel
theorem dL_law_959 : decode cL_law 959 = .ok (.iconst 2, 1) := by decide +kernel
theorem dL_law_960 : decode cL_law 960 = .ok (.iadd, 1) := by decide +kernel
theorem dL_law_961 : decode cL_law 961 = .ok (.iaload, 1) := by decide +kernel
theorem dL_law_962 : decode cL_law 962 = .ok (.aload_n 0, 1) := by decide +kernel
theorem dL_law_963 : decode cL_law 963 = .ok (.iload_n 3, 1) := by decide +kernel
theorem dL_law_964 : decode cL_law 964 = .ok (.iconst 3, 1) := by decide +kernel
theorem dL_law_965 : decode cL_law 965 = .ok (.iadd, 1) := by decide +kernel
theorem dL_law_966 : decode cL_law 966 = .ok (.iaload, 1) := by decide +kernel
theorem dL_law_967 : decode cL_law 967 = .ok (.aload_n 0, 1) := by decide +kernel
theorem dL_law_968 : decode cL_law 968 = .ok (.iload_n 3, 1) := by decide +kernel
theorem dL_law_969 : decode cL_law 969 = .ok (.iconst 4, 1) := by decide +kernel
theorem dL_law_970 : decode cL_law 970 = .ok (.iadd, 1) := by decide +kernel
theorem dL_law_971 : decode cL_law 971 = .ok (.iaload, 1) := by decide +kernel
theorem dL_law_972 : decode cL_law 972 = .ok (.aload_n 0, 1) := by decide +kernel
theorem dL_law_973 : decode cL_law 973 = .ok (.iload_n 3, 1) := by decide +kernel
theorem dL_law_974 : decode cL_law 974 = .ok (.iconst 5, 1) := by decide +kernel
theorem dL_law_975 : decode cL_law 975 = .ok (.iadd, 1) := by decide +kernel
theorem dL_law_976 : decode cL_law 976 = .ok (.iaload, 1) := by decide +kernel
theorem dL_law_977 : decode cL_law 977 = .ok (.invokevirtual 125, 3) := by decide +kernel
theorem dL_law_980 : decode cL_law 980 = .ok (.aload_n 2, 1) := by decide +kernel
theorem dL_law_981 : decode cL_law 981 = .ok (.aload_n 0, 1) := by decide +kernel
theorem dL_law_982 : decode cL_law 982 = .ok (.iload_n 3, 1) := by decide +kernel
theorem dL_law_983 : decode cL_law 983 = .ok (.iconst 1, 1) := by decide +kernel
theorem dL_law_984 : decode cL_law 984 = .ok (.iadd, 1) := by decide +kernel
theorem dL_law_985 : decode cL_law 985 = .ok (.iaload, 1) := by decide +kernel
theorem dL_law_986 : decode cL_law 986 = .ok (.aload_n 0, 1) := by decide +kernel
theorem dL_law_987 : decode cL_law 987 = .ok (.iload_n 3, 1) := by decide +kernel
theorem dL_law_988 : decode cL_law 988 = .ok (.iconst 2, 1) := by decide +kernel
theorem dL_law_989 : decode cL_law 989 = .ok (.iadd, 1) := by decide +kernel
theorem dL_law_990 : decode cL_law 990 = .ok (.iaload, 1) := by decide +kernel
theorem dL_law_991 : decode cL_law 991 = .ok (.aload_n 0, 1) := by decide +kernel
theorem dL_law_992 : decode cL_law 992 = .ok (.iload_n 3, 1) := by decide +kernel
theorem dL_law_993 : decode cL_law 993 = .ok (.iconst 3, 1) := by decide +kernel
theorem dL_law_994 : decode cL_law 994 = .ok (.iadd, 1) := by decide +kernel
theorem dL_law_995 : decode cL_law 995 = .ok (.iaload, 1) := by decide +kernel
theorem dL_law_996 : decode cL_law 996 = .ok (.aload_n 0, 1) := by decide +kernel
theorem dL_law_997 : decode cL_law 997 = .ok (.iload_n 3, 1) := by decide +kernel
theorem dL_law_998 : decode cL_law 998 = .ok (.iconst 4, 1) := by decide +kernel
theorem dL_law_999 : decode cL_law 999 = .ok (.iadd, 1) := by decide +kernel
theorem dL_law_1000 : decode cL_law 1000 = .ok (.iaload, 1) := by decide +kernel
theorem dL_law_1001 : decode cL_law 1001 = .ok (.aload_n 0, 1) := by decide +kernel
theorem dL_law_1002 : decode cL_law 1002 = .ok (.iload_n 3, 1) := by decide +kernel
theorem dL_law_1003 : decode cL_law 1003 = .ok (.iconst 5, 1) := by decide +kernel
theorem dL_law_1004 : decode cL_law 1004 = .ok (.iadd, 1) := by decide +kernel
theorem dL_law_1005 : decode cL_law 1005 = .ok (.iaload, 1) := by decide +kernel
theorem dL_law_1006 : decode cL_law 1006 = .ok (.invokevirtual 129, 3) := by decide +kernel
theorem dL_law_1009 : decode cL_law 1009 = .ok (.if_icmp .eq 280, 3) := by decide +kernel
theorem dL_law_1012 : decode cL_law 1012 = .ok (.iconst 0, 1) := by decide +kernel
theorem dL_law_1013 : decode cL_law 1013 = .ok (.ireturn, 1) := by decide +kernel
theorem dL_law_1014 : decode cL_law 1014 = .ok (.aload_n 1, 1) := by decide +kernel
theorem dL_law_1015 : decode cL_law 1015 = .ok (.aload_n 0, 1) := by decide +kernel
theorem dL_law_1016 : decode cL_law 1016 = .ok (.iload_n 3, 1) := by decide +kernel
theorem dL_law_1017 : decode cL_law 1017 = .ok (.iconst 1, 1) := by decide +kernel
theorem dL_law_1018 : decode cL_law 1018 = .ok (.iadd, 1) := by decide +kernel
theorem dL_law_1019 : decode cL_law 1019 = .ok (.iaload, 1) := by decide +kernel
theorem dL_law_1020 : decode cL_law 1020 = .ok (.aload_n 0, 1) := by decide +kernel
theorem dL_law_1021 : decode cL_law 1021 = .ok (.iload_n 3, 1) := by decide +kernel
theorem dL_law_1022 : decode cL_law 1022 = .ok (.iconst 2, 1) := by decide +kernel
theorem dL_law_1023 : decode cL_law 1023 = .ok (.iadd, 1) := by decide +kernel
theorem dL_law_1024 : decode cL_law 1024 = .ok (.iaload, 1) := by decide +kernel
theorem dL_law_1025 : decode cL_law 1025 = .ok (.aload_n 0, 1) := by decide +kernel
theorem dL_law_1026 : decode cL_law 1026 = .ok (.iload_n 3, 1) := by decide +kernel
theorem dL_law_1027 : decode cL_law 1027 = .ok (.iconst 3, 1) := by decide +kernel
theorem dL_law_1028 : decode cL_law 1028 = .ok (.iadd, 1) := by decide +kernel
theorem dL_law_1029 : decode cL_law 1029 = .ok (.iaload, 1) := by decide +kernel
theorem dL_law_1030 : decode cL_law 1030 = .ok (.aload_n 0, 1) := by decide +kernel
theorem dL_law_1031 : decode cL_law 1031 = .ok (.iload_n 3, 1) := by decide +kernel
theorem dL_law_1032 : decode cL_law 1032 = .ok (.iconst 4, 1) := by decide +kernel
theorem dL_law_1033 : decode cL_law 1033 = .ok (.iadd, 1) := by decide +kernel
theorem dL_law_1034 : decode cL_law 1034 = .ok (.iaload, 1) := by decide +kernel
theorem dL_law_1035 : decode cL_law 1035 = .ok (.aload_n 0, 1) := by decide +kernel
theorem dL_law_1036 : decode cL_law 1036 = .ok (.iload_n 3, 1) := by decide +kernel
theorem dL_law_1037 : decode cL_law 1037 = .ok (.iconst 5, 1) := by decide +kernel
theorem dL_law_1038 : decode cL_law 1038 = .ok (.iadd, 1) := by decide +kernel
theorem dL_law_1039 : decode cL_law 1039 = .ok (.iaload, 1) := by decide +kernel
theorem dL_law_1040 : decode cL_law 1040 = .ok (.invokevirtual 130, 3) := by decide +kernel
theorem dL_law_1043 : decode cL_law 1043 = .ok (.aload_n 2, 1) := by decide +kernel
theorem dL_law_1044 : decode cL_law 1044 = .ok (.aload_n 0, 1) := by decide +kernel
theorem dL_law_1045 : decode cL_law 1045 = .ok (.iload_n 3, 1) := by decide +kernel
theorem dL_law_1046 : decode cL_law 1046 = .ok (.iconst 1, 1) := by decide +kernel
theorem dL_law_1047 : decode cL_law 1047 = .ok (.iadd, 1) := by decide +kernel
theorem dL_law_1048 : decode cL_law 1048 = .ok (.iaload, 1) := by decide +kernel
theorem dL_law_1049 : decode cL_law 1049 = .ok (.aload_n 0, 1) := by decide +kernel
theorem dL_law_1050 : decode cL_law 1050 = .ok (.iload_n 3, 1) := by decide +kernel
theorem dL_law_1051 : decode cL_law 1051 = .ok (.iconst 2, 1) := by decide +kernel
theorem dL_law_1052 : decode cL_law 1052 = .ok (.iadd, 1) := by decide +kernel
theorem dL_law_1053 : decode cL_law 1053 = .ok (.iaload, 1) := by decide +kernel
theorem dL_law_1054 : decode cL_law 1054 = .ok (.aload_n 0, 1) := by decide +kernel
theorem dL_law_1055 : decode cL_law 1055 = .ok (.iload_n 3, 1) := by decide +kernel
theorem dL_law_1056 : decode cL_law 1056 = .ok (.iconst 3, 1) := by decide +kernel
theorem dL_law_1057 : decode cL_law 1057 = .ok (.iadd, 1) := by decide +kernel
theorem dL_law_1058 : decode cL_law 1058 = .ok (.iaload, 1) := by decide +kernel
theorem dL_law_1059 : decode cL_law 1059 = .ok (.aload_n 0, 1) := by decide +kernel
theorem dL_law_1060 : decode cL_law 1060 = .ok (.iload_n 3, 1) := by decide +kernel
theorem dL_law_1061 : decode cL_law 1061 = .ok (.iconst 4, 1) := by decide +kernel
theorem dL_law_1062 : decode cL_law 1062 = .ok (.iadd, 1) := by decide +kernel
theorem dL_law_1063 : decode cL_law 1063 = .ok (.iaload, 1) := by decide +kernel
theorem dL_law_1064 : decode cL_law 1064 = .ok (.aload_n 0, 1) := by decide +kernel
theorem dL_law_1065 : decode cL_law 1065 = .ok (.iload_n 3, 1) := by decide +kernel
theorem dL_law_1066 : decode cL_law 1066 = .ok (.iconst 5, 1) := by decide +kernel
theorem dL_law_1067 : decode cL_law 1067 = .ok (.iadd, 1) := by decide +kernel
theorem dL_law_1068 : decode cL_law 1068 = .ok (.iaload, 1) := by decide +kernel
theorem dL_law_1069 : decode cL_law 1069 = .ok (.invokevirtual 133, 3) := by decide +kernel
theorem dL_law_1072 : decode cL_law 1072 = .ok (.if_icmp .eq 217, 3) := by decide +kernel
theorem dL_law_1075 : decode cL_law 1075 = .ok (.iconst 0, 1) := by decide +kernel
theorem dL_law_1076 : decode cL_law 1076 = .ok (.ireturn, 1) := by decide +kernel
theorem dL_law_1077 : decode cL_law 1077 = .ok (.aload_n 1, 1) := by decide +kernel
theorem dL_law_1078 : decode cL_law 1078 = .ok (.aload_n 0, 1) := by decide +kernel
theorem dL_law_1079 : decode cL_law 1079 = .ok (.iload_n 3, 1) := by decide +kernel
theorem dL_law_1080 : decode cL_law 1080 = .ok (.iconst 1, 1) := by decide +kernel
theorem dL_law_1081 : decode cL_law 1081 = .ok (.iadd, 1) := by decide +kernel
theorem dL_law_1082 : decode cL_law 1082 = .ok (.iaload, 1) := by decide +kernel
theorem dL_law_1083 : decode cL_law 1083 = .ok (.aload_n 0, 1) := by decide +kernel
theorem dL_law_1084 : decode cL_law 1084 = .ok (.iload_n 3, 1) := by decide +kernel
theorem dL_law_1085 : decode cL_law 1085 = .ok (.iconst 2, 1) := by decide +kernel
theorem dL_law_1086 : decode cL_law 1086 = .ok (.iadd, 1) := by decide +kernel
theorem dL_law_1087 : decode cL_law 1087 = .ok (.iaload, 1) := by decide +kernel
theorem dL_law_1088 : decode cL_law 1088 = .ok (.aload_n 0, 1) := by decide +kernel
theorem dL_law_1089 : decode cL_law 1089 = .ok (.iload_n 3, 1) := by decide +kernel
theorem dL_law_1090 : decode cL_law 1090 = .ok (.iconst 3, 1) := by decide +kernel
theorem dL_law_1091 : decode cL_law 1091 = .ok (.iadd, 1) := by decide +kernel
theorem dL_law_1092 : decode cL_law 1092 = .ok (.iaload, 1) := by decide +kernel
theorem dL_law_1093 : decode cL_law 1093 = .ok (.invokevirtual 134, 3) := by decide +kernel
theorem dL_law_1096 : decode cL_law 1096 = .ok (.aload_n 2, 1) := by decide +kernel
theorem dL_law_1097 : decode cL_law 1097 = .ok (.aload_n 0, 1) := by decide +kernel
theorem dL_law_1098 : decode cL_law 1098 = .ok (.iload_n 3, 1) := by decide +kernel
theorem dL_law_1099 : decode cL_law 1099 = .ok (.iconst 1, 1) := by decide +kernel
theorem dL_law_1100 : decode cL_law 1100 = .ok (.iadd, 1) := by decide +kernel
theorem dL_law_1101 : decode cL_law 1101 = .ok (.iaload, 1) := by decide +kernel
theorem dL_law_1102 : decode cL_law 1102 = .ok (.aload_n 0, 1) := by decide +kernel
theorem dL_law_1103 : decode cL_law 1103 = .ok (.iload_n 3, 1) := by decide +kernel
theorem dL_law_1104 : decode cL_law 1104 = .ok (.iconst 2, 1) := by decide +kernel
theorem dL_law_1105 : decode cL_law 1105 = .ok (.iadd, 1) := by decide +kernel
theorem dL_law_1106 : decode cL_law 1106 = .ok (.iaload, 1) := by decide +kernel
theorem dL_law_1107 : decode cL_law 1107 = .ok (.aload_n 0, 1) := by decide +kernel
theorem dL_law_1108 : decode cL_law 1108 = .ok (.iload_n 3, 1) := by decide +kernel
theorem dL_law_1109 : decode cL_law 1109 = .ok (.iconst 3, 1) := by decide +kernel
theorem dL_law_1110 : decode cL_law 1110 = .ok (.iadd, 1) := by decide +kernel
theorem dL_law_1111 : decode cL_law 1111 = .ok (.iaload, 1) := by decide +kernel
theorem dL_law_1112 : decode cL_law 1112 = .ok (.invokevirtual 137, 3) := by decide +kernel
theorem dL_law_1115 : decode cL_law 1115 = .ok (.if_icmp .eq 174, 3) := by decide +kernel
theorem dL_law_1118 : decode cL_law 1118 = .ok (.iconst 0, 1) := by decide +kernel
theorem dL_law_1119 : decode cL_law 1119 = .ok (.ireturn, 1) := by decide +kernel
theorem dL_law_1120 : decode cL_law 1120 = .ok (.aload_n 1, 1) := by decide +kernel
theorem dL_law_1121 : decode cL_law 1121 = .ok (.aload_n 0, 1) := by decide +kernel
theorem dL_law_1122 : decode cL_law 1122 = .ok (.iload_n 3, 1) := by decide +kernel
theorem dL_law_1123 : decode cL_law 1123 = .ok (.iconst 1, 1) := by decide +kernel
theorem dL_law_1124 : decode cL_law 1124 = .ok (.iadd, 1) := by decide +kernel
theorem dL_law_1125 : decode cL_law 1125 = .ok (.iaload, 1) := by decide +kernel
theorem dL_law_1126 : decode cL_law 1126 = .ok (.invokevirtual 138, 3) := by decide +kernel
theorem dL_law_1129 : decode cL_law 1129 = .ok (.aload_n 2, 1) := by decide +kernel
theorem dL_law_1130 : decode cL_law 1130 = .ok (.aload_n 0, 1) := by decide +kernel
theorem dL_law_1131 : decode cL_law 1131 = .ok (.iload_n 3, 1) := by decide +kernel
theorem dL_law_1132 : decode cL_law 1132 = .ok (.iconst 1, 1) := by decide +kernel
theorem dL_law_1133 : decode cL_law 1133 = .ok (.iadd, 1) := by decide +kernel
theorem dL_law_1134 : decode cL_law 1134 = .ok (.iaload, 1) := by decide +kernel
theorem dL_law_1135 : decode cL_law 1135 = .ok (.invokevirtual 141, 3) := by decide +kernel
theorem dL_law_1138 : decode cL_law 1138 = .ok (.if_icmp .eq 151, 3) := by decide +kernel
theorem dL_law_1141 : decode cL_law 1141 = .ok (.iconst 0, 1) := by decide +kernel
theorem dL_law_1142 : decode cL_law 1142 = .ok (.ireturn, 1) := by decide +kernel
theorem dL_law_1143 : decode cL_law 1143 = .ok (.aload_n 1, 1) := by decide +kernel
theorem dL_law_1144 : decode cL_law 1144 = .ok (.aload_n 0, 1) := by decide +kernel
theorem dL_law_1145 : decode cL_law 1145 = .ok (.iload_n 3, 1) := by decide +kernel
theorem dL_law_1146 : decode cL_law 1146 = .ok (.iconst 1, 1) := by decide +kernel
theorem dL_law_1147 : decode cL_law 1147 = .ok (.iadd, 1) := by decide +kernel
theorem dL_law_1148 : decode cL_law 1148 = .ok (.iaload, 1) := by decide +kernel
theorem dL_law_1149 : decode cL_law 1149 = .ok (.aload_n 0, 1) := by decide +kernel
theorem dL_law_1150 : decode cL_law 1150 = .ok (.iload_n 3, 1) := by decide +kernel
theorem dL_law_1151 : decode cL_law 1151 = .ok (.iconst 2, 1) := by decide +kernel
theorem dL_law_1152 : decode cL_law 1152 = .ok (.iadd, 1) := by decide +kernel
theorem dL_law_1153 : decode cL_law 1153 = .ok (.iaload, 1) := by decide +kernel
theorem dL_law_1154 : decode cL_law 1154 = .ok (.aload_n 0, 1) := by decide +kernel
theorem dL_law_1155 : decode cL_law 1155 = .ok (.iload_n 3, 1) := by decide +kernel
theorem dL_law_1156 : decode cL_law 1156 = .ok (.iconst 3, 1) := by decide +kernel
theorem dL_law_1157 : decode cL_law 1157 = .ok (.iadd, 1) := by decide +kernel
theorem dL_law_1158 : decode cL_law 1158 = .ok (.iaload, 1) := by decide +kernel
theorem dL_law_1159 : decode cL_law 1159 = .ok (.aload_n 0, 1) := by decide +kernel
theorem dL_law_1160 : decode cL_law 1160 = .ok (.iload_n 3, 1) := by decide +kernel
theorem dL_law_1161 : decode cL_law 1161 = .ok (.iconst 4, 1) := by decide +kernel
theorem dL_law_1162 : decode cL_law 1162 = .ok (.iadd, 1) := by decide +kernel
theorem dL_law_1163 : decode cL_law 1163 = .ok (.iaload, 1) := by decide +kernel
theorem dL_law_1164 : decode cL_law 1164 = .ok (.i2l, 1) := by decide +kernel
theorem dL_law_1165 : decode cL_law 1165 = .ok (.bipush 32, 2) := by decide +kernel
theorem dL_law_1167 : decode cL_law 1167 = .ok (.lshl, 1) := by decide +kernel
theorem dL_law_1168 : decode cL_law 1168 = .ok (.aload_n 0, 1) := by decide +kernel
theorem dL_law_1169 : decode cL_law 1169 = .ok (.iload_n 3, 1) := by decide +kernel
theorem dL_law_1170 : decode cL_law 1170 = .ok (.iconst 5, 1) := by decide +kernel
theorem dL_law_1171 : decode cL_law 1171 = .ok (.iadd, 1) := by decide +kernel
theorem dL_law_1172 : decode cL_law 1172 = .ok (.iaload, 1) := by decide +kernel
theorem dL_law_1173 : decode cL_law 1173 = .ok (.i2l, 1) := by decide +kernel
theorem dL_law_1174 : decode cL_law 1174 = .ok (.ldc2_w 142, 3) := by decide +kernel
theorem dL_law_1177 : decode cL_law 1177 = .ok (.land, 1) := by decide +kernel
theorem dL_law_1178 : decode cL_law 1178 = .ok (.lor, 1) := by decide +kernel
theorem dL_law_1179 : decode cL_law 1179 = .ok (.invokevirtual 144, 3) := by decide +kernel
theorem dL_law_1182 : decode cL_law 1182 = .ok (.aload_n 2, 1) := by decide +kernel
theorem dL_law_1183 : decode cL_law 1183 = .ok (.aload_n 0, 1) := by decide +kernel
theorem dL_law_1184 : decode cL_law 1184 = .ok (.iload_n 3, 1) := by decide +kernel
theorem dL_law_1185 : decode cL_law 1185 = .ok (.iconst 1, 1) := by decide +kernel
theorem dL_law_1186 : decode cL_law 1186 = .ok (.iadd, 1) := by decide +kernel
theorem dL_law_1187 : decode cL_law 1187 = .ok (.iaload, 1) := by decide +kernel
theorem dL_law_1188 : decode cL_law 1188 = .ok (.aload_n 0, 1) := by decide +kernel
theorem dL_law_1189 : decode cL_law 1189 = .ok (.iload_n 3, 1) := by decide +kernel
theorem dL_law_1190 : decode cL_law 1190 = .ok (.iconst 2, 1) := by decide +kernel
theorem dL_law_1191 : decode cL_law 1191 = .ok (.iadd, 1) := by decide +kernel
theorem dL_law_1192 : decode cL_law 1192 = .ok (.iaload, 1) := by decide +kernel
theorem dL_law_1193 : decode cL_law 1193 = .ok (.aload_n 0, 1) := by decide +kernel
theorem dL_law_1194 : decode cL_law 1194 = .ok (.iload_n 3, 1) := by decide +kernel
theorem dL_law_1195 : decode cL_law 1195 = .ok (.iconst 3, 1) := by decide +kernel
theorem dL_law_1196 : decode cL_law 1196 = .ok (.iadd, 1) := by decide +kernel
theorem dL_law_1197 : decode cL_law 1197 = .ok (.iaload, 1) := by decide +kernel
theorem dL_law_1198 : decode cL_law 1198 = .ok (.aload_n 0, 1) := by decide +kernel
theorem dL_law_1199 : decode cL_law 1199 = .ok (.iload_n 3, 1) := by decide +kernel
theorem dL_law_1200 : decode cL_law 1200 = .ok (.iconst 4, 1) := by decide +kernel
theorem dL_law_1201 : decode cL_law 1201 = .ok (.iadd, 1) := by decide +kernel
theorem dL_law_1202 : decode cL_law 1202 = .ok (.iaload, 1) := by decide +kernel
theorem dL_law_1203 : decode cL_law 1203 = .ok (.i2l, 1) := by decide +kernel
theorem dL_law_1204 : decode cL_law 1204 = .ok (.bipush 32, 2) := by decide +kernel
theorem dL_law_1206 : decode cL_law 1206 = .ok (.lshl, 1) := by decide +kernel
theorem dL_law_1207 : decode cL_law 1207 = .ok (.aload_n 0, 1) := by decide +kernel
theorem dL_law_1208 : decode cL_law 1208 = .ok (.iload_n 3, 1) := by decide +kernel
theorem dL_law_1209 : decode cL_law 1209 = .ok (.iconst 5, 1) := by decide +kernel
theorem dL_law_1210 : decode cL_law 1210 = .ok (.iadd, 1) := by decide +kernel
theorem dL_law_1211 : decode cL_law 1211 = .ok (.iaload, 1) := by decide +kernel
theorem dL_law_1212 : decode cL_law 1212 = .ok (.i2l, 1) := by decide +kernel
theorem dL_law_1213 : decode cL_law 1213 = .ok (.ldc2_w 142, 3) := by decide +kernel
theorem dL_law_1216 : decode cL_law 1216 = .ok (.land, 1) := by decide +kernel
theorem dL_law_1217 : decode cL_law 1217 = .ok (.lor, 1) := by decide +kernel
theorem dL_law_1218 : decode cL_law 1218 = .ok (.invokevirtual 148, 3) := by decide +kernel
theorem dL_law_1221 : decode cL_law 1221 = .ok (.if_icmp .eq 68, 3) := by decide +kernel
theorem dL_law_1224 : decode cL_law 1224 = .ok (.iconst 0, 1) := by decide +kernel
theorem dL_law_1225 : decode cL_law 1225 = .ok (.ireturn, 1) := by decide +kernel
theorem dL_law_1226 : decode cL_law 1226 = .ok (.aload_n 1, 1) := by decide +kernel
theorem dL_law_1227 : decode cL_law 1227 = .ok (.aload_n 0, 1) := by decide +kernel
theorem dL_law_1228 : decode cL_law 1228 = .ok (.iload_n 3, 1) := by decide +kernel
theorem dL_law_1229 : decode cL_law 1229 = .ok (.iconst 1, 1) := by decide +kernel
theorem dL_law_1230 : decode cL_law 1230 = .ok (.iadd, 1) := by decide +kernel
theorem dL_law_1231 : decode cL_law 1231 = .ok (.iaload, 1) := by decide +kernel
theorem dL_law_1232 : decode cL_law 1232 = .ok (.aload_n 0, 1) := by decide +kernel
theorem dL_law_1233 : decode cL_law 1233 = .ok (.iload_n 3, 1) := by decide +kernel
theorem dL_law_1234 : decode cL_law 1234 = .ok (.iconst 2, 1) := by decide +kernel
theorem dL_law_1235 : decode cL_law 1235 = .ok (.iadd, 1) := by decide +kernel
theorem dL_law_1236 : decode cL_law 1236 = .ok (.iaload, 1) := by decide +kernel
theorem dL_law_1237 : decode cL_law 1237 = .ok (.aload_n 0, 1) := by decide +kernel
theorem dL_law_1238 : decode cL_law 1238 = .ok (.iload_n 3, 1) := by decide +kernel
theorem dL_law_1239 : decode cL_law 1239 = .ok (.iconst 3, 1) := by decide +kernel
theorem dL_law_1240 : decode cL_law 1240 = .ok (.iadd, 1) := by decide +kernel
theorem dL_law_1241 : decode cL_law 1241 = .ok (.iaload, 1) := by decide +kernel
theorem dL_law_1242 : decode cL_law 1242 = .ok (.aload_n 0, 1) := by decide +kernel
theorem dL_law_1243 : decode cL_law 1243 = .ok (.iload_n 3, 1) := by decide +kernel
theorem dL_law_1244 : decode cL_law 1244 = .ok (.iconst 4, 1) := by decide +kernel
theorem dL_law_1245 : decode cL_law 1245 = .ok (.iadd, 1) := by decide +kernel
theorem dL_law_1246 : decode cL_law 1246 = .ok (.iaload, 1) := by decide +kernel
theorem dL_law_1247 : decode cL_law 1247 = .ok (.aload_n 0, 1) := by decide +kernel
theorem dL_law_1248 : decode cL_law 1248 = .ok (.iload_n 3, 1) := by decide +kernel
theorem dL_law_1249 : decode cL_law 1249 = .ok (.iconst 5, 1) := by decide +kernel
theorem dL_law_1250 : decode cL_law 1250 = .ok (.iadd, 1) := by decide +kernel
theorem dL_law_1251 : decode cL_law 1251 = .ok (.iaload, 1) := by decide +kernel
theorem dL_law_1252 : decode cL_law 1252 = .ok (.invokevirtual 149, 3) := by decide +kernel
theorem dL_law_1255 : decode cL_law 1255 = .ok (.aload_n 2, 1) := by decide +kernel
theorem dL_law_1256 : decode cL_law 1256 = .ok (.aload_n 0, 1) := by decide +kernel
theorem dL_law_1257 : decode cL_law 1257 = .ok (.iload_n 3, 1) := by decide +kernel
theorem dL_law_1258 : decode cL_law 1258 = .ok (.iconst 1, 1) := by decide +kernel
theorem dL_law_1259 : decode cL_law 1259 = .ok (.iadd, 1) := by decide +kernel
theorem dL_law_1260 : decode cL_law 1260 = .ok (.iaload, 1) := by decide +kernel
theorem dL_law_1261 : decode cL_law 1261 = .ok (.aload_n 0, 1) := by decide +kernel
theorem dL_law_1262 : decode cL_law 1262 = .ok (.iload_n 3, 1) := by decide +kernel
theorem dL_law_1263 : decode cL_law 1263 = .ok (.iconst 2, 1) := by decide +kernel
theorem dL_law_1264 : decode cL_law 1264 = .ok (.iadd, 1) := by decide +kernel
theorem dL_law_1265 : decode cL_law 1265 = .ok (.iaload, 1) := by decide +kernel
theorem dL_law_1266 : decode cL_law 1266 = .ok (.aload_n 0, 1) := by decide +kernel
theorem dL_law_1267 : decode cL_law 1267 = .ok (.iload_n 3, 1) := by decide +kernel
theorem dL_law_1268 : decode cL_law 1268 = .ok (.iconst 3, 1) := by decide +kernel
theorem dL_law_1269 : decode cL_law 1269 = .ok (.iadd, 1) := by decide +kernel
theorem dL_law_1270 : decode cL_law 1270 = .ok (.iaload, 1) := by decide +kernel
theorem dL_law_1271 : decode cL_law 1271 = .ok (.aload_n 0, 1) := by decide +kernel
theorem dL_law_1272 : decode cL_law 1272 = .ok (.iload_n 3, 1) := by decide +kernel
theorem dL_law_1273 : decode cL_law 1273 = .ok (.iconst 4, 1) := by decide +kernel
theorem dL_law_1274 : decode cL_law 1274 = .ok (.iadd, 1) := by decide +kernel
theorem dL_law_1275 : decode cL_law 1275 = .ok (.iaload, 1) := by decide +kernel
theorem dL_law_1276 : decode cL_law 1276 = .ok (.aload_n 0, 1) := by decide +kernel
theorem dL_law_1277 : decode cL_law 1277 = .ok (.iload_n 3, 1) := by decide +kernel
theorem dL_law_1278 : decode cL_law 1278 = .ok (.iconst 5, 1) := by decide +kernel
theorem dL_law_1279 : decode cL_law 1279 = .ok (.iadd, 1) := by decide +kernel
theorem dL_law_1280 : decode cL_law 1280 = .ok (.iaload, 1) := by decide +kernel
theorem dL_law_1281 : decode cL_law 1281 = .ok (.invokevirtual 152, 3) := by decide +kernel
theorem dL_law_1284 : decode cL_law 1284 = .ok (.if_icmp .eq 5, 3) := by decide +kernel
theorem dL_law_1287 : decode cL_law 1287 = .ok (.iconst 0, 1) := by decide +kernel
theorem dL_law_1288 : decode cL_law 1288 = .ok (.ireturn, 1) := by decide +kernel
theorem dL_law_1289 : decode cL_law 1289 = .ok (.iinc 3 6, 3) := by decide +kernel
theorem dL_law_1292 : decode cL_law 1292 = .ok (.goto (-1274), 3) := by decide +kernel
theorem dL_law_1295 : decode cL_law 1295 = .ok (.iconst 1, 1) := by decide +kernel
theorem dL_law_1296 : decode cL_law 1296 = .ok (.ireturn, 1) := by decide +kernel
end
section
/-! ===== the words that hold everywhere ===== -/
def kw : List Cond := lw_tbl.filter goodWord
theorem kw_t {w : Cond} (i : Nat) (h : tables_1[i]? = some w) (hg : goodWord w = true) : w ∈ kw := List.mem_filter.mpr ⟨by unfold lw_tbl; exact List.mem_append_right _ (List.mem_of_getElem? h), hg⟩
theorem kw_l {w : Cond} (i : Nat) (h : (k2_sels lw_privs)[i]? = some w) (hg : goodWord w = true) : w ∈ kw := List.mem_filter.mpr ⟨by unfold lw_tbl; exact List.mem_append_left _ (List.mem_of_getElem? h), hg⟩
theorem kw_good {w : Cond} (h : w ∈ kw) : w ∈ kw ∧ ((w.onTables && w.keeps) = true ∨ ∃ ty, w = .arrayClass ty) := ⟨h, good_of_word (List.mem_filter.mp h).2⟩
theorem kw_tbl {args : Array Value} {s : State} (h : ∀ w ∈ lw_tbl, w.before args s = true) : ∀ w ∈ kw, w.before args s = true := fun w hw => h w (List.mem_filter.mp hw).1
/-! ===== a machine of fixed cells: values, memory, regions ===== -/
abbrev kV : Type := Int32 ⊕ Int64 ⊕ (Nat × Nat)
abbrev kM : Type := (Nat → Nat → Nat → Int32) × (Nat → Nat → Nat → Int64)
abbrev kF : Type := Nat ⊕ (Nat × Option Nat)
abbrev kR : Type := List (Nat × Nat) × (Nat → (Nat × Nat) ⊕ (Nat × List kF))
abbrev kG : Type := kR × va_G × (Nat → ClassId) × (Nat → Nat → Nat)
abbrev kX : Type := MethodName × ByteArray × Nat × Option FieldType × Nat
def kval (g : kG) : kV → Value
  | .inl x => .int x
  | .inr (.inl x) => .long x
  | .inr (.inr q) => .ref (g.2.2.2 q.1 q.2)
def kwf (g : kG) : kV → Prop
  | .inl _ => True
  | .inr (.inl _) => True
  | .inr (.inr q) => q ∈ g.1.1
def kfld (g : kG) (M : kM) (c k : Nat) : kF → Value
  | .inl j => .int (M.1 c k j)
  | .inr (c', none) => .ref (g.2.2.2 c' k)
  | .inr (c', some k0) => .ref (g.2.2.2 c' k0)
def kcell (g : kG) (M : kM) (c k : Nat) : va_E := match g.1.2 c with
  | .inl (0, n) => .inl (g.2.2.1 0, n, .inl (M.1 c k))
  | .inl (1, n) => .inl (g.2.2.1 1, n, .inr (.inl (M.2 c k)))
  | .inl (t + 2, n) => .inl (g.2.2.1 2, n, .inr (.inr (.inr (.inr (fun j => some (g.2.2.2 t j))))))
  | .inr (ci, fs) => .inr (ci, fs.map (kfld g M c k))
theorem kcell_i {g : kG} {M : kM} {c k n : Nat} (h : g.1.2 c = .inl (0, n)) : kcell g M c k = .inl (g.2.2.1 0, n, .inl (M.1 c k)) := by simp only [kcell, h]
theorem kcell_l {g : kG} {M : kM} {c k n : Nat} (h : g.1.2 c = .inl (1, n)) : kcell g M c k = .inl (g.2.2.1 1, n, .inr (.inl (M.2 c k))) := by simp only [kcell, h]
theorem kcell_r {g : kG} {M : kM} {c k n t : Nat} (h : g.1.2 c = .inl (t + 2, n)) : kcell g M c k = .inl (g.2.2.1 2, n, .inr (.inr (.inr (.inr (fun j => some (g.2.2.2 t j)))))) := by simp only [kcell, h]
theorem kcell_o {g : kG} {M : kM} {c k ci : Nat} {fs : List kF} (h : g.1.2 c = .inr (ci, fs)) : kcell g M c k = .inr (ci, fs.map (kfld g M c k)) := by simp only [kcell, h]
theorem kcell_same {g : kG} {M M' : kM} {c k : Nat} (h1 : M'.1 c k = M.1 c k) (h2 : M'.2 c k = M.2 c k) : kcell g M' c k = kcell g M c k := by
  have hf : kfld g M' c k = kfld g M c k := by
    funext f
    rcases f with j | ⟨c', _ | k0⟩
    · simp only [kfld, h1]
    · rfl
    · rfl
  simp only [kcell, h1, h2, hf]
def kP (g : kG) (M : kM) (H : Heap) : Prop := ∀ c k, (c, k) ∈ g.1.1 → va_at g.2.1 vwCl (g.2.2.2 c k, kcell g M c k) H
def kJ (g : kG) : Prop := ∀ c k c' k', (c, k) ∈ g.1.1 → (c', k') ∈ g.1.1 → g.2.2.2 c k = g.2.2.2 c' k' → c = c' ∧ k = k'
def kA (g : kG) : Nat → Prop := fun q => ∃ c k, (c, k) ∈ g.1.1 ∧ q = g.2.2.2 c k
def kN : List Cond := [.methodLinkNest RX0 45 yX5_has RX5, .methodLinkNest RX3 63 yX5_has RX5, .methodLinkNest RX3 67 yX5_minutesFor RX5, .methodLinkNest RX4 80 yX5_within RX5]
def kTy (g : kG) : List (ClassId × FieldType) := [(g.2.2.1 0, .int), (g.2.2.1 1, .long), (g.2.2.1 2, .object RX1)]
def kK (g : kG) (U : State) : Prop := va_K g.2.1 vwCl (kTy g) U ∧ ∀ w ∈ kN, va_Nw w U
/-- what the tables of a region must be: no cell twice, references lead to cells, a number's field has its own place -/
def kOK (r : kR) : Prop := r.1.Nodup ∧ (∀ (c k ci : Nat) (fs : List kF) (i : Nat) (f : kF), (c, k) ∈ r.1 → r.2 c = .inr (ci, fs) → fs[i]? = some f → match f with
  | .inl j => j = i
  | .inr (c', none) => (c', k) ∈ r.1
  | .inr (c', some k0) => (c', k0) ∈ r.1) ∧ ∀ c k t n j : Nat, (c, k) ∈ r.1 → r.2 c = .inl (t + 2, n) → j < n → (t, j) ∈ r.1
def kall (g : kG) (M : kM) : va_W := g.1.1.map (fun q => (g.2.2.2 q.1 q.2, kcell g M q.1 q.2))
theorem kall_P {g : kG} {M : kM} {H : Heap} (h : kP g M H) : va_P g.2.1 vwCl (kall g M) H := by
  intro i p hp
  unfold kall at hp
  rw [List.getElem?_map] at hp
  cases hi : g.1.1[i]? with
  | none => rw [hi] at hp; cases hp
  | some q =>
    rw [hi] at hp
    cases hp
    exact h q.1 q.2 (List.mem_of_getElem? hi)
theorem kall_D {g : kG} {M : kM} (hn : g.1.1.Nodup) (hJ : kJ g) : va_D (kA g) (kall g M) := by
  refine ⟨fun i j p q hi hj he => ?_, fun i p hi => ?_⟩
  · unfold kall at hi hj
    rw [List.getElem?_map] at hi hj
    cases h1 : g.1.1[i]? with
    | none => rw [h1] at hi; cases hi
    | some a =>
      cases h2 : g.1.1[j]? with
      | none => rw [h2] at hj; cases hj
      | some b =>
        rw [h1] at hi
        rw [h2] at hj
        cases hi
        cases hj
        have hab := hJ a.1 a.2 b.1 b.2 (List.mem_of_getElem? h1) (List.mem_of_getElem? h2) he
        have e : a = b := Prod.ext hab.1 hab.2
        subst e
        obtain ⟨hi', e1⟩ := List.getElem?_eq_some_iff.mp h1
        obtain ⟨hj', e2⟩ := List.getElem?_eq_some_iff.mp h2
        have hpw := List.pairwise_iff_getElem.mp hn
        rcases Nat.lt_trichotomy i j with h | h | h
        · exact absurd (e1.trans e2.symm) (hpw i j hi' hj' h)
        · exact h
        · exact absurd (e2.trans e1.symm) (hpw j i hj' hi' h)
  · unfold kall at hi
    rw [List.getElem?_map] at hi
    cases h1 : g.1.1[i]? with
    | none => rw [h1] at hi; cases hi
    | some a =>
      rw [h1] at hi
      cases hi
      exact ⟨a.1, a.2, List.mem_of_getElem? h1, rfl⟩
theorem kall_at {g : kG} {M : kM} {c k : Nat} (h : (c, k) ∈ g.1.1) : ∃ i : Nat, g.1.1[i]? = some (c, k) ∧ (kall g M)[i]? = some (g.2.2.2 c k, kcell g M c k) := by
  obtain ⟨i, hi⟩ := List.getElem?_of_mem h
  exact ⟨i, hi, by unfold kall; rw [List.getElem?_map, hi]; rfl⟩
/-- behind a store into one cell -/
theorem kP_set {g : kG} {M M' : kM} {H : Heap} {i c k : Nat} {e : va_E} (hi : g.1.1[i]? = some (c, k)) (h : va_P g.2.1 vwCl ((kall g M).set i (g.2.2.2 c k, e)) H) (he : kcell g M' c k = e)
    (ho : ∀ a b, ¬ (a = c ∧ b = k) → M'.1 a b = M.1 a b ∧ M'.2 a b = M.2 a b) : kP g M' H := by
  intro a b hab
  have hlen : i < (kall g M).length := by
    have := (List.getElem?_eq_some_iff.mp hi).1
    unfold kall
    rw [List.length_map]
    exact this
  by_cases hq : a = c ∧ b = k
  · obtain ⟨rfl, rfl⟩ := hq
    rw [he]
    exact h i _ (List.getElem?_set_self hlen)
  · obtain ⟨j, hj, hj2⟩ := kall_at (M := M) hab
    have hne : i ≠ j := by
      rintro rfl
      rw [hi] at hj
      cases hj
      exact hq ⟨rfl, rfl⟩
    have := h j (g.2.2.2 a b, kcell g M a b) (by rw [List.getElem?_set_ne hne]; exact hj2)
    rw [kcell_same (ho a b hq).1 (ho a b hq).2]
    exact this
def ku (M : kM) (c k j : Nat) (v : Int32) : kM := (fun a b d => if a = c ∧ b = k ∧ d = j then v else M.1 a b d, M.2)
def kul (M : kM) (c k j : Nat) (v : Int64) : kM := (M.1, fun a b d => if a = c ∧ b = k ∧ d = j then v else M.2 a b d)
def kcp (M : kM) (c0 k0 sp c k dp n : Nat) : kM := (fun a b d => if a = c ∧ b = k ∧ dp ≤ d ∧ d < dp + n then M.1 c0 k0 (sp + (d - dp)) else M.1 a b d, M.2)
def kcpl (M : kM) (c0 k0 sp c k dp n : Nat) : kM := (M.1, fun a b d => if a = c ∧ b = k ∧ dp ≤ d ∧ d < dp + n then M.2 c0 k0 (sp + (d - dp)) else M.2 a b d)
theorem ku_o {M : kM} {c k j : Nat} {v : Int32} : ∀ a b, ¬ (a = c ∧ b = k) → (ku M c k j v).1 a b = M.1 a b ∧ (ku M c k j v).2 a b = M.2 a b := fun a b h => ⟨by funext d; unfold ku; exact if_neg (fun q => h ⟨q.1, q.2.1⟩), rfl⟩
theorem kul_o {M : kM} {c k j : Nat} {v : Int64} : ∀ a b, ¬ (a = c ∧ b = k) → (kul M c k j v).1 a b = M.1 a b ∧ (kul M c k j v).2 a b = M.2 a b := fun a b h => ⟨rfl, by funext d; unfold kul; exact if_neg (fun q => h ⟨q.1, q.2.1⟩)⟩
theorem kcp_o {M : kM} {c0 k0 sp c k dp n : Nat} : ∀ a b, ¬ (a = c ∧ b = k) → (kcp M c0 k0 sp c k dp n).1 a b = M.1 a b ∧ (kcp M c0 k0 sp c k dp n).2 a b = M.2 a b := fun a b h => ⟨by funext d; unfold kcp; exact if_neg (fun q => h ⟨q.1, q.2.1⟩), rfl⟩
theorem kcpl_o {M : kM} {c0 k0 sp c k dp n : Nat} : ∀ a b, ¬ (a = c ∧ b = k) → (kcpl M c0 k0 sp c k dp n).1 a b = M.1 a b ∧ (kcpl M c0 k0 sp c k dp n).2 a b = M.2 a b := fun a b h => ⟨rfl, by funext d; unfold kcpl; exact if_neg (fun q => h ⟨q.1, q.2.1⟩)⟩
theorem ku_upd {M : kM} {c k j : Nat} {v : Int32} : (ku M c k j v).1 c k = upd (M.1 c k) j v := by
  funext d
  unfold ku upd
  by_cases h : d = j
  · subst h; simp
  · simp [h]
theorem kul_upd {M : kM} {c k j : Nat} {v : Int64} : (kul M c k j v).2 c k = vp_updL (M.2 c k) j v := by
  funext d
  unfold kul vp_updL
  by_cases h : d = j
  · subst h; simp
  · simp [h]
theorem kcp_cpy {M : kM} {c0 k0 sp c k dp n : Nat} : (kcp M c0 k0 sp c k dp n).1 c k = va_cpy (M.1 c0 k0) (M.1 c k) sp dp n := by
  funext d
  simp only [kcp, va_cpy, true_and]
theorem kcpl_cpy {M : kM} {c0 k0 sp c k dp n : Nat} : (kcpl M c0 k0 sp c k dp n).2 c k = va_cpy (M.2 c0 k0) (M.2 c k) sp dp n := by
  funext d
  simp only [kcpl, va_cpy, true_and]
/-! ===== judgements ===== -/
def kws (X : kX) : List Cond := .code X.1 X.2.1 X.2.2.1 X.2.2.2.1 :: kw
def krm (d : Nat) : Room := { frames := d, cells := 0, slots := 0, locals := 34 * d }
def kC (g : kG) (X : kX) (p : Program) (s : State) (m : MethodId) (args : Array Value) (meth : Method) (c : Code) : Prop :=
  p.tables.exec = Jvm.exec ∧ c.code = X.2.1 ∧ meth.sig.returnType = X.2.2.2.1 ∧ c.maxLocals = X.2.2.1 ∧ s.vm.findClass X.1.cls = some m.cls ∧ (∀ w ∈ kw, w.before args s = true) ∧ meth.locks = false ∧ kK g s ∧ kJ g ∧ kOK g.1
def kQ (g : kG) (Q : Option kV → kM → Prop) : Array Value → State → Outcome → State → Prop := fun _ st oc t => (∃ (v : Option kV) (M : kM), oc = .returned (v.map (kval g)) ∧ Q v M ∧ (∀ x, v = some x → kwf g x) ∧ kP g M t.heap) ∧ va_F (kA g) st t
def kloc (g : kG) (q : Nat × kV) : Nat × Value := (q.1, kval g q.2)
def kWP (l : Launch) (g : kG) (X : kX) (pc : Nat) (ls : List (Nat × kV)) (st : List kV) (M : kM) (Q : Option kV → kM → Prop) : Prop :=
  ∀ (p : Program) (e : Env) (s : State) (m : MethodId) (args : Array Value) (below : List Frame) (meth : Method) (c : Code), kC g X p s m args meth c → ∀ (H : Heap) (locs : List Loc) (lA : Array Slot), kP g M H → va_S (kA g) s.heap H locs → lv_has lA X.2.2.1 (ls.map (kloc g)) → (∀ q ∈ ls, kwf g q.2) → (∀ v ∈ st, kwf g v) →
    W p l e (krm X.2.2.2.2) s m args below meth c H locs 0 0 (MQ below (kQ g Q) args s 0 0 (kA g)) (F0 m pc lA (st.map (kval g)))
def kCT (l : Launch) (g : kG) (X : kX) (vs : List kV) (M : kM) (Q : Option kV → kM → Prop) : Prop :=
  kJ g → kOK g.1 → (∀ v ∈ vs, kwf g v) → Met l X.1 (kws X) (krm X.2.2.2.2) (va_Pc (vs.map (kval g)) (fun U => kP g M U.heap ∧ kK g U)) (kQ g Q) 0 0 (kA g)
def kargs : Nat → List kV → List (Nat × kV)
  | _, [] => []
  | i, .inl x :: vs => (i, .inl x) :: kargs (i + 1) vs
  | i, .inr (.inl x) :: vs => (i, .inr (.inl x)) :: kargs (i + 2) vs
  | i, .inr (.inr x) :: vs => (i, .inr (.inr x)) :: kargs (i + 1) vs
theorem kargs_map (g : kG) : ∀ (vs : List kV) (i : Nat), lv_args i (vs.map (kval g)) = (kargs i vs).map (kloc g)
  | [], _ => rfl
  | .inl x :: vs, i => by
    have := kargs_map g vs (i + 1)
    simp only [List.map_cons, lv_args, kargs, kval, kloc, Value.category] at this ⊢
    rw [← this]
    rfl
  | .inr (.inl x) :: vs, i => by
    have := kargs_map g vs (i + 2)
    simp only [List.map_cons, lv_args, kargs, kval, kloc, Value.category] at this ⊢
    rw [← this]
    rfl
  | .inr (.inr x) :: vs, i => by
    have := kargs_map g vs (i + 1)
    simp only [List.map_cons, lv_args, kargs, kval, kloc, Value.category] at this ⊢
    rw [← this]
    rfl
theorem kargs_wf {g : kG} : ∀ (vs : List kV) (i : Nat), (∀ v ∈ vs, kwf g v) → ∀ q ∈ kargs i vs, kwf g q.2
  | [], _, _, q, hq => by cases hq
  | .inl x :: vs, i, h, q, hq => by
    rcases List.mem_cons.mp hq with rfl | hq
    · exact trivial
    · exact kargs_wf vs (i + 1) (fun v hv => h v (List.mem_cons_of_mem _ hv)) q hq
  | .inr (.inl x) :: vs, i, h, q, hq => by
    rcases List.mem_cons.mp hq with rfl | hq
    · exact trivial
    · exact kargs_wf vs (i + 2) (fun v hv => h v (List.mem_cons_of_mem _ hv)) q hq
  | .inr (.inr x) :: vs, i, h, q, hq => by
    rcases List.mem_cons.mp hq with rfl | hq
    · exact h _ List.mem_cons_self
    · exact kargs_wf vs (i + 1) (fun v hv => h v (List.mem_cons_of_mem _ hv)) q hq
def kcat : kV → Nat
  | .inl _ => 1
  | .inr (.inl _) => 2
  | .inr (.inr _) => 1
theorem kcat_eq (g : kG) (v : kV) : (kval g v).category = kcat v := by rcases v with x | x | x <;> rfl
theorem klen (g : kG) : ∀ vs : List kV, (lg_sl (vs.map (kval g))).length = (vs.map kcat).sum
  | [] => rfl
  | v :: vs => by
    have := klen g vs
    rcases v with x | x | x <;> simp [lg_sl, kval, Value.category, kcat] at this ⊢ <;> omega
/-- a method's contract out of its body -/
theorem kct {l : Launch} {g : kG} {X : kX} {vs : List kV} {M : kM} {Q : Option kV → kM → Prop} (hy : plainName X.1.cls = true) (hlen : (vs.map kcat).sum ≤ X.2.2.1) (h : kWP l g X 0 (kargs 0 vs) [] M Q) : kCT l g X vs M Q := by
  intro hJ hOK hwf
  refine Met.ofW (cc := X.2.1) (maxL := X.2.2.1) (ret := X.2.2.2.1) (ws' := kw) hy rfl ?_
  intro p e s m args below meth c s₁ B hml hv
  obtain ⟨rfl, hP, hK⟩ := hv
  have hts := atoms_spec (ws := kws X) B.pre
  have hl := lv_entry (vs.map (kval g)) (n := X.2.2.1) (by rw [klen]; exact hlen)
  rw [kargs_map] at hl
  rw [lg_entry_eq]
  exact h p e s m _ below meth c ⟨B.exec, B.bytes, B.returns, hml, findClass_of_methodNamed B.named, fun w hw => hts w (List.mem_cons_of_mem _ hw), B.notSynchronized, hK, hJ, hOK⟩ s.heap [] _ hP va_S.rf hl (kargs_wf vs 0 hwf) (fun v hv => by cases hv)
theorem kwf_cons {g : kG} {v : kV} {st : List kV} (h : kwf g v) (hr : ∀ v ∈ st, kwf g v) : ∀ w ∈ v :: st, kwf g w := fun w hw => (List.mem_cons.mp hw).elim (fun e => e ▸ h) (hr w)
theorem kwf_tl {g : kG} {v : kV} {st : List kV} (hr : ∀ w ∈ v :: st, kwf g w) : ∀ w ∈ st, kwf g w := fun w hw => hr w (List.mem_cons_of_mem _ hw)
theorem kwf_hd {g : kG} {v : kV} {st : List kV} (hr : ∀ w ∈ v :: st, kwf g w) : kwf g v := hr v List.mem_cons_self
end
section
section KR
variable {l : Launch} {g : kG} {X : kX} {pc : Nat} {ls : List (Nat × kV)} {st : List kV} {M : kM} {Q : Option kV → kM → Prop}
theorem kwp_iconst {n : Int} {v : Int32} (hd : decode X.2.1 pc = .ok (.iconst n, 1)) (hv : Int32.ofInt n = v) (k : kWP l g X (pc + 1) ls (.inl v :: st) M Q) : kWP l g X pc ls (st) M Q := fun p e s m args below meth c C H locs lA hP hS hl hf hg => lv_iconst C.1 C.2.1 hd hv (k p e s m args below meth c C H locs lA hP hS hl hf (kwf_cons trivial hg))
theorem kwp_bipush {n : Int} {v : Int32} (hd : decode X.2.1 pc = .ok (.bipush n, 2)) (hv : (Int8.ofInt n).toInt32 = v) (k : kWP l g X (pc + 2) ls (.inl v :: st) M Q) : kWP l g X pc ls (st) M Q := fun p e s m args below meth c C H locs lA hP hS hl hf hg => lv_bipush C.1 C.2.1 hd hv (k p e s m args below meth c C H locs lA hP hS hl hf (kwf_cons trivial hg))
theorem kwp_sipush {n : Int} {v : Int32} (hd : decode X.2.1 pc = .ok (.sipush n, 3)) (hv : (Int16.ofInt n).toInt32 = v) (k : kWP l g X (pc + 3) ls (.inl v :: st) M Q) : kWP l g X pc ls (st) M Q := fun p e s m args below meth c C H locs lA hP hS hl hf hg => lv_sipush C.1 C.2.1 hd hv (k p e s m args below meth c C H locs lA hP hS hl hf (kwf_cons trivial hg))
theorem kwp_lconst {n : Fin 2} {v : Int64} (hd : decode X.2.1 pc = .ok (.lconst n, 1)) (hv : Int64.ofNat (n : Nat) = v) (k : kWP l g X (pc + 1) ls (.inr (.inl v) :: st) M Q) : kWP l g X pc ls (st) M Q := fun p e s m args below meth c C H locs lA hP hS hl hf hg => lv_lconst C.1 C.2.1 hd hv (k p e s m args below meth c C H locs lA hP hS hl hf (kwf_cons trivial hg))
theorem kwp_ldc {idx : Nat} {v : Int32} (hc : Cond.constant X.1.cls idx v ∈ kw) (hd : decode X.2.1 pc = .ok (.ldc idx, 2)) (k : kWP l g X (pc + 2) ls (.inl v :: st) M Q) : kWP l g X pc ls (st) M Q := fun p e s m args below meth c C H locs lA hP hS hl hf hg => lv_ldc C.1 C.2.1 C.2.2.2.2.1 (C.2.2.2.2.2.1 _ hc) hd (k p e s m args below meth c C H locs lA hP hS hl hf (kwf_cons trivial hg))
theorem kwp_ldcw {idx : Nat} {v : Int32} (hc : Cond.constant X.1.cls idx v ∈ kw) (hd : decode X.2.1 pc = .ok (.ldc_w idx, 3)) (k : kWP l g X (pc + 3) ls (.inl v :: st) M Q) : kWP l g X pc ls (st) M Q := fun p e s m args below meth c C H locs lA hP hS hl hf hg => lv_ldcw C.1 C.2.1 C.2.2.2.2.1 (C.2.2.2.2.2.1 _ hc) hd (k p e s m args below meth c C H locs lA hP hS hl hf (kwf_cons trivial hg))
theorem kwp_ldc2 {idx : Nat} {v : Int64} (hc : Cond.constantLong X.1.cls idx v ∈ kw) (hd : decode X.2.1 pc = .ok (.ldc2_w idx, 3)) (k : kWP l g X (pc + 3) ls (.inr (.inl v) :: st) M Q) : kWP l g X pc ls (st) M Q := fun p e s m args below meth c C H locs lA hP hS hl hf hg => lv_ldc2 C.1 C.2.1 C.2.2.2.2.1 (C.2.2.2.2.2.1 _ hc) hd (k p e s m args below meth c C H locs lA hP hS hl hf (kwf_cons trivial hg))
theorem kat {g : kG} {lA : Array Slot} {n q i : Nat} {ls : List (Nat × kV)} {v : kV} (hl : lv_has lA n (ls.map (kloc g))) (hq : ls[q]? = some (i, v)) : lA[i]? = some (.val (kval g v)) := lv_at hl q (by rw [List.getElem?_map, hq]; rfl)
theorem kwp_iload_n {k4 : Fin 4} {i : Nat} {x : Int32} (q : Nat) (hq : ls[q]? = some (i, .inl x)) (hd : decode X.2.1 pc = .ok (.iload_n k4, 1)) (hi : (k4 : Nat) = i) (k : kWP l g X (pc + 1) ls (.inl x :: st) M Q) : kWP l g X pc ls (st) M Q := fun p e s m args below meth c C H locs lA hP hS hl hf hg => lv_iload_n C.1 C.2.1 hd hi (kat hl hq) (k p e s m args below meth c C H locs lA hP hS hl hf (kwf_cons trivial hg))
theorem kwp_iload {i : Nat} {x : Int32} (q : Nat) (hq : ls[q]? = some (i, .inl x)) (hd : decode X.2.1 pc = .ok (.iload i, 2)) (k : kWP l g X (pc + 2) ls (.inl x :: st) M Q) : kWP l g X pc ls (st) M Q := fun p e s m args below meth c C H locs lA hP hS hl hf hg => lv_iload C.1 C.2.1 hd (kat hl hq) (k p e s m args below meth c C H locs lA hP hS hl hf (kwf_cons trivial hg))
theorem kwp_lload_n {k4 : Fin 4} {i : Nat} {x : Int64} (q : Nat) (hq : ls[q]? = some (i, .inr (.inl x))) (hd : decode X.2.1 pc = .ok (.lload_n k4, 1)) (hi : (k4 : Nat) = i) (k : kWP l g X (pc + 1) ls (.inr (.inl x) :: st) M Q) : kWP l g X pc ls (st) M Q := fun p e s m args below meth c C H locs lA hP hS hl hf hg => lv_lload_n C.1 C.2.1 hd hi (kat hl hq) (k p e s m args below meth c C H locs lA hP hS hl hf (kwf_cons trivial hg))
theorem kwp_lload {i : Nat} {x : Int64} (q : Nat) (hq : ls[q]? = some (i, .inr (.inl x))) (hd : decode X.2.1 pc = .ok (.lload i, 2)) (k : kWP l g X (pc + 2) ls (.inr (.inl x) :: st) M Q) : kWP l g X pc ls (st) M Q := fun p e s m args below meth c C H locs lA hP hS hl hf hg => lv_lload C.1 C.2.1 hd (kat hl hq) (k p e s m args below meth c C H locs lA hP hS hl hf (kwf_cons trivial hg))
theorem kwp_aload_n {k4 : Fin 4} {i : Nat} {x : Nat × Nat} (q : Nat) (hq : ls[q]? = some (i, .inr (.inr x))) (hd : decode X.2.1 pc = .ok (.aload_n k4, 1)) (hi : (k4 : Nat) = i) (k : kWP l g X (pc + 1) ls (.inr (.inr x) :: st) M Q) : kWP l g X pc ls (st) M Q := fun p e s m args below meth c C H locs lA hP hS hl hf hg => lv_aload_n C.1 C.2.1 hd hi (kat hl hq) (k p e s m args below meth c C H locs lA hP hS hl hf (kwf_cons (hf _ (List.mem_of_getElem? hq)) hg))
theorem kwp_aload {i : Nat} {x : Nat × Nat} (q : Nat) (hq : ls[q]? = some (i, .inr (.inr x))) (hd : decode X.2.1 pc = .ok (.aload i, 2)) (k : kWP l g X (pc + 2) ls (.inr (.inr x) :: st) M Q) : kWP l g X pc ls (st) M Q := fun p e s m args below meth c C H locs lA hP hS hl hf hg => lv_aload C.1 C.2.1 hd (kat hl hq) (k p e s m args below meth c C H locs lA hP hS hl hf (kwf_cons (hf _ (List.mem_of_getElem? hq)) hg))
def kst (ls : List (Nat × kV)) (i : Nat) (v : kV) : List (Nat × kV) := (i, v) :: ls.filter (fun q => !(q.1 == i) && !(q.1 + 1 == i && kcat q.2 == 2))
theorem kst_map (g : kG) (ls : List (Nat × kV)) (i : Nat) (v : kV) : (i, kval g v) :: (ls.map (kloc g)).filter (fun q => !(q.1 == i) && !(q.1 + 1 == i && q.2.category == 2)) = (kst ls i v).map (kloc g) := by
  unfold kst
  rw [List.map_cons, List.filter_map]
  congr 1
  congr 2
  funext q
  simp only [Function.comp, kloc, kcat_eq]
theorem kst_wf {g : kG} {ls : List (Nat × kV)} {i : Nat} {v : kV} (hv : kwf g v) (h : ∀ q ∈ ls, kwf g q.2) : ∀ q ∈ kst ls i v, kwf g q.2 := by
  intro q hq
  rcases List.mem_cons.mp hq with rfl | hq
  · exact hv
  · exact h q (List.mem_filter.mp hq).1
theorem kwp_istore_n {k4 : Fin 4} {i : Nat} {x : Int32} {ls2 : List (Nat × kV)} (hd : decode X.2.1 pc = .ok (.istore_n k4, 1)) (hi : (k4 : Nat) = i) (hn : i < X.2.2.1) (hq : kst ls i (.inl x) = ls2) (k : kWP l g X (pc + 1) ls2 (st) M Q) : kWP l g X pc ls (.inl x :: st) M Q := fun p e s m args below meth c C H locs lA hP hS hl hf hg => lv_istore_n (lv' := ls2.map (kloc g)) C.1 C.2.1 hd hi hl hn (by rw [← hq]; exact kst_map g ls i (.inl x)) (fun lA2 hl2 => k p e s m args below meth c C H locs lA2 hP hS hl2 (by rw [← hq]; exact kst_wf trivial hf) (kwf_tl hg))
theorem kwp_istore {i : Nat} {x : Int32} {ls2 : List (Nat × kV)} (hd : decode X.2.1 pc = .ok (.istore i, 2)) (hn : i < X.2.2.1) (hq : kst ls i (.inl x) = ls2) (k : kWP l g X (pc + 2) ls2 (st) M Q) : kWP l g X pc ls (.inl x :: st) M Q := fun p e s m args below meth c C H locs lA hP hS hl hf hg => lv_istore (lv' := ls2.map (kloc g)) C.1 C.2.1 hd hl hn (by rw [← hq]; exact kst_map g ls i (.inl x)) (fun lA2 hl2 => k p e s m args below meth c C H locs lA2 hP hS hl2 (by rw [← hq]; exact kst_wf trivial hf) (kwf_tl hg))
theorem kwp_astore_n {k4 : Fin 4} {i : Nat} {x : Nat × Nat} {ls2 : List (Nat × kV)} (hd : decode X.2.1 pc = .ok (.astore_n k4, 1)) (hi : (k4 : Nat) = i) (hn : i < X.2.2.1) (hq : kst ls i (.inr (.inr x)) = ls2) (k : kWP l g X (pc + 1) ls2 (st) M Q) : kWP l g X pc ls (.inr (.inr x) :: st) M Q := fun p e s m args below meth c C H locs lA hP hS hl hf hg => lv_astore_n (lv' := ls2.map (kloc g)) C.1 C.2.1 hd hi hl hn (by rw [← hq]; exact kst_map g ls i (.inr (.inr x))) (fun lA2 hl2 => k p e s m args below meth c C H locs lA2 hP hS hl2 (by rw [← hq]; exact kst_wf (kwf_hd hg) hf) (kwf_tl hg))
theorem kwp_astore {i : Nat} {x : Nat × Nat} {ls2 : List (Nat × kV)} (hd : decode X.2.1 pc = .ok (.astore i, 2)) (hn : i < X.2.2.1) (hq : kst ls i (.inr (.inr x)) = ls2) (k : kWP l g X (pc + 2) ls2 (st) M Q) : kWP l g X pc ls (.inr (.inr x) :: st) M Q := fun p e s m args below meth c C H locs lA hP hS hl hf hg => lv_astore (lv' := ls2.map (kloc g)) C.1 C.2.1 hd hl hn (by rw [← hq]; exact kst_map g ls i (.inr (.inr x))) (fun lA2 hl2 => k p e s m args below meth c C H locs lA2 hP hS hl2 (by rw [← hq]; exact kst_wf (kwf_hd hg) hf) (kwf_tl hg))
theorem kwp_iinc {i : Nat} {n : Int} {x v : Int32} {ls2 : List (Nat × kV)} (q : Nat) (hq0 : ls[q]? = some (i, .inl x)) (hd : decode X.2.1 pc = .ok (.iinc i n, 3)) (hv : x + Int32.ofInt n = v) (hn : i < X.2.2.1) (hq : kst ls i (.inl v) = ls2) (k : kWP l g X (pc + 3) ls2 (st) M Q) : kWP l g X pc ls (st) M Q := fun p e s m args below meth c C H locs lA hP hS hl hf hg => lv_iinc (k := q) (lv' := ls2.map (kloc g)) C.1 C.2.1 hd hl (by rw [List.getElem?_map, hq0]; rfl) hv hn (by rw [← hq]; exact kst_map g ls i (.inl v)) (fun lA2 hl2 => k p e s m args below meth c C H locs lA2 hP hS hl2 (by rw [← hq]; exact kst_wf trivial hf) hg)
theorem kwp_sub {ls2 : List (Nat × kV)} (ks : List Nat) (h : ks.filterMap (fun k => ls[k]?) = ls2) (k : kWP l g X pc ls2 st M Q) : kWP l g X pc ls st M Q := by
  intro p e s m args below meth c C H locs lA hP hS hl hf hg
  have hm : ∀ q ∈ ls2, q ∈ ls := by
    intro q hq
    rw [← h] at hq
    obtain ⟨i, -, hi⟩ := List.mem_filterMap.mp hq
    exact List.mem_of_getElem? hi
  refine k p e s m args below meth c C H locs lA hP hS ⟨hl.1, hl.2.1, fun q hq => ?_⟩ (fun q hq => hf q (hm q hq)) hg
  obtain ⟨z, hz, rfl⟩ := List.mem_map.mp hq
  exact hl.2.2 _ (List.mem_map.mpr ⟨z, hm z hz, rfl⟩)
theorem kwp_iadd {x y : Int32} (hd : decode X.2.1 pc = .ok (.iadd, 1)) (k : kWP l g X (pc + 1) ls (.inl (x + y) :: st) M Q) : kWP l g X pc ls (.inl y :: .inl x :: st) M Q := fun p e s m args below meth c C H locs lA hP hS hl hf hg => lv_iadd C.1 C.2.1 hd (k p e s m args below meth c C H locs lA hP hS hl hf (kwf_cons trivial (kwf_tl (kwf_tl hg))))
theorem kwp_isub {x y : Int32} (hd : decode X.2.1 pc = .ok (.isub, 1)) (k : kWP l g X (pc + 1) ls (.inl (x - y) :: st) M Q) : kWP l g X pc ls (.inl y :: .inl x :: st) M Q := fun p e s m args below meth c C H locs lA hP hS hl hf hg => lv_isub C.1 C.2.1 hd (k p e s m args below meth c C H locs lA hP hS hl hf (kwf_cons trivial (kwf_tl (kwf_tl hg))))
theorem kwp_imul {x y : Int32} (hd : decode X.2.1 pc = .ok (.imul, 1)) (k : kWP l g X (pc + 1) ls (.inl (x * y) :: st) M Q) : kWP l g X pc ls (.inl y :: .inl x :: st) M Q := fun p e s m args below meth c C H locs lA hP hS hl hf hg => lv_imul C.1 C.2.1 hd (k p e s m args below meth c C H locs lA hP hS hl hf (kwf_cons trivial (kwf_tl (kwf_tl hg))))
theorem kwp_iand {x y : Int32} (hd : decode X.2.1 pc = .ok (.iand, 1)) (k : kWP l g X (pc + 1) ls (.inl (x &&& y) :: st) M Q) : kWP l g X pc ls (.inl y :: .inl x :: st) M Q := fun p e s m args below meth c C H locs lA hP hS hl hf hg => lv_iand C.1 C.2.1 hd (k p e s m args below meth c C H locs lA hP hS hl hf (kwf_cons trivial (kwf_tl (kwf_tl hg))))
theorem kwp_ior {x y : Int32} (hd : decode X.2.1 pc = .ok (.ior, 1)) (k : kWP l g X (pc + 1) ls (.inl (x ||| y) :: st) M Q) : kWP l g X pc ls (.inl y :: .inl x :: st) M Q := fun p e s m args below meth c C H locs lA hP hS hl hf hg => lv_ior C.1 C.2.1 hd (k p e s m args below meth c C H locs lA hP hS hl hf (kwf_cons trivial (kwf_tl (kwf_tl hg))))
theorem kwp_ixor {x y : Int32} (hd : decode X.2.1 pc = .ok (.ixor, 1)) (k : kWP l g X (pc + 1) ls (.inl (x ^^^ y) :: st) M Q) : kWP l g X pc ls (.inl y :: .inl x :: st) M Q := fun p e s m args below meth c C H locs lA hP hS hl hf hg => lv_ixor C.1 C.2.1 hd (k p e s m args below meth c C H locs lA hP hS hl hf (kwf_cons trivial (kwf_tl (kwf_tl hg))))
theorem kwp_ishl {x y : Int32} (hd : decode X.2.1 pc = .ok (.ishl, 1)) (k : kWP l g X (pc + 1) ls (.inl (x <<< (y &&& 31)) :: st) M Q) : kWP l g X pc ls (.inl y :: .inl x :: st) M Q := fun p e s m args below meth c C H locs lA hP hS hl hf hg => lv_ishl C.1 C.2.1 hd (k p e s m args below meth c C H locs lA hP hS hl hf (kwf_cons trivial (kwf_tl (kwf_tl hg))))
theorem kwp_ishr {x y : Int32} (hd : decode X.2.1 pc = .ok (.ishr, 1)) (k : kWP l g X (pc + 1) ls (.inl (x >>> (y &&& 31)) :: st) M Q) : kWP l g X pc ls (.inl y :: .inl x :: st) M Q := fun p e s m args below meth c C H locs lA hP hS hl hf hg => lv_ishr C.1 C.2.1 hd (k p e s m args below meth c C H locs lA hP hS hl hf (kwf_cons trivial (kwf_tl (kwf_tl hg))))
theorem kwp_iushr {x y v : Int32} (hd : decode X.2.1 pc = .ok (.iushr, 1)) (hv : (x.toUInt32 >>> (y.toUInt32 &&& Int32.toUInt32 31)).toInt32 = v) (k : kWP l g X (pc + 1) ls (.inl v :: st) M Q) : kWP l g X pc ls (.inl y :: .inl x :: st) M Q := fun p e s m args below meth c C H locs lA hP hS hl hf hg => lv_iushr C.1 C.2.1 hd hv (k p e s m args below meth c C H locs lA hP hS hl hf (kwf_cons trivial (kwf_tl (kwf_tl hg))))
theorem kwp_idiv {x y : Int32} (hd : decode X.2.1 pc = .ok (.idiv, 1)) (hne : ¬ y = 0) (k : kWP l g X (pc + 1) ls (.inl (x / y) :: st) M Q) : kWP l g X pc ls (.inl y :: .inl x :: st) M Q := fun p e s m args below meth c C H locs lA hP hS hl hf hg => lv_idiv C.1 C.2.1 hd hne (k p e s m args below meth c C H locs lA hP hS hl hf (kwf_cons trivial (kwf_tl (kwf_tl hg))))
theorem kwp_irem {x y : Int32} (hd : decode X.2.1 pc = .ok (.irem, 1)) (hne : ¬ y = 0) (k : kWP l g X (pc + 1) ls (.inl (x - x / y * y) :: st) M Q) : kWP l g X pc ls (.inl y :: .inl x :: st) M Q := fun p e s m args below meth c C H locs lA hP hS hl hf hg => lv_irem C.1 C.2.1 hd hne (k p e s m args below meth c C H locs lA hP hS hl hf (kwf_cons trivial (kwf_tl (kwf_tl hg))))
theorem kwp_ladd {x y : Int64} (hd : decode X.2.1 pc = .ok (.ladd, 1)) (k : kWP l g X (pc + 1) ls (.inr (.inl (x + y)) :: st) M Q) : kWP l g X pc ls (.inr (.inl y) :: .inr (.inl x) :: st) M Q := fun p e s m args below meth c C H locs lA hP hS hl hf hg => lv_ladd C.1 C.2.1 hd (k p e s m args below meth c C H locs lA hP hS hl hf (kwf_cons trivial (kwf_tl (kwf_tl hg))))
theorem kwp_i2l {x : Int32} (hd : decode X.2.1 pc = .ok (.i2l, 1)) (k : kWP l g X (pc + 1) ls (.inr (.inl x.toInt64) :: st) M Q) : kWP l g X pc ls (.inl x :: st) M Q := fun p e s m args below meth c C H locs lA hP hS hl hf hg => lv_i2l C.1 C.2.1 hd rfl (k p e s m args below meth c C H locs lA hP hS hl hf (kwf_cons trivial (kwf_tl hg)))
theorem kwp_l2i {x : Int64} (hd : decode X.2.1 pc = .ok (.l2i, 1)) (k : kWP l g X (pc + 1) ls (.inl x.toInt32 :: st) M Q) : kWP l g X pc ls (.inr (.inl x) :: st) M Q := fun p e s m args below meth c C H locs lA hP hS hl hf hg => lv_l2i C.1 C.2.1 hd rfl (k p e s m args below meth c C H locs lA hP hS hl hf (kwf_cons trivial (kwf_tl hg)))
theorem kwp_i2b {x : Int32} (hd : decode X.2.1 pc = .ok (.i2b, 1)) (k : kWP l g X (pc + 1) ls (.inl x.toInt8.toInt32 :: st) M Q) : kWP l g X pc ls (.inl x :: st) M Q := fun p e s m args below meth c C H locs lA hP hS hl hf hg => lv_i2b C.1 C.2.1 hd rfl (k p e s m args below meth c C H locs lA hP hS hl hf (kwf_cons trivial (kwf_tl hg)))
theorem kwp_i2s {x : Int32} (hd : decode X.2.1 pc = .ok (.i2s, 1)) (k : kWP l g X (pc + 1) ls (.inl x.toInt16.toInt32 :: st) M Q) : kWP l g X pc ls (.inl x :: st) M Q := fun p e s m args below meth c C H locs lA hP hS hl hf hg => lv_i2s C.1 C.2.1 hd rfl (k p e s m args below meth c C H locs lA hP hS hl hf (kwf_cons trivial (kwf_tl hg)))
theorem kwp_lcmp {x y : Int64} (hd : decode X.2.1 pc = .ok (.lcmp, 1)) (k : kWP l g X (pc + 1) ls (.inl (lg_cmp x y) :: st) M Q) : kWP l g X pc ls (.inr (.inl y) :: .inr (.inl x) :: st) M Q := fun p e s m args below meth c C H locs lA hP hS hl hf hg => W.lcmp C.1 C.2.1 hd (k p e s m args below meth c C H locs lA hP hS hl hf (kwf_cons trivial (kwf_tl (kwf_tl hg))))
theorem kwp_dup {v : kV} (hd : decode X.2.1 pc = .ok (.dup, 1)) (hc : kcat v = 1) (k : kWP l g X (pc + 1) ls (v :: v :: st) M Q) : kWP l g X pc ls (v :: st) M Q := fun p e s m args below meth c C H locs lA hP hS hl hf hg => lv_dup C.1 C.2.1 hd (by rw [kcat_eq]; exact hc) (k p e s m args below meth c C H locs lA hP hS hl hf (kwf_cons (kwf_hd hg) hg))
theorem kwp_pop {v : kV} (hd : decode X.2.1 pc = .ok (.pop, 1)) (hc : kcat v = 1) (k : kWP l g X (pc + 1) ls (st) M Q) : kWP l g X pc ls (v :: st) M Q := fun p e s m args below meth c C H locs lA hP hS hl hf hg => lv_pop C.1 C.2.1 hd (by rw [kcat_eq]; exact hc) (k p e s m args below meth c C H locs lA hP hS hl hf (kwf_tl hg))
theorem kwp_dup2 {v w : kV} (hd : decode X.2.1 pc = .ok (.dup2, 1)) (hc : kcat v = 1) (hc2 : kcat w = 1) (k : kWP l g X (pc + 1) ls (v :: w :: v :: w :: st) M Q) : kWP l g X pc ls (v :: w :: st) M Q := fun p e s m args below meth c C H locs lA hP hS hl hf hg => lv_dup2_11 C.1 C.2.1 hd (by rw [kcat_eq]; exact hc) (by rw [kcat_eq]; exact hc2) (k p e s m args below meth c C H locs lA hP hS hl hf (kwf_cons (kwf_hd hg) (kwf_cons (kwf_hd (kwf_tl hg)) hg)))
theorem kwp_dup_x1 {v w : kV} (hd : decode X.2.1 pc = .ok (.dup_x1, 1)) (hc : kcat v = 1) (hc2 : kcat w = 1) (k : kWP l g X (pc + 1) ls (v :: w :: v :: st) M Q) : kWP l g X pc ls (v :: w :: st) M Q := fun p e s m args below meth c C H locs lA hP hS hl hf hg => lv_dup_x1 C.1 C.2.1 hd (by rw [kcat_eq]; exact hc) (by rw [kcat_eq]; exact hc2) (k p e s m args below meth c C H locs lA hP hS hl hf (kwf_cons (kwf_hd hg) (kwf_cons (kwf_hd (kwf_tl hg)) (kwf_cons (kwf_hd hg) (kwf_tl (kwf_tl hg))))))
theorem kwp_if_eq {x : Int32} {off : Int} (tgt : Nat) (hd : decode X.2.1 pc = .ok (.ifCond .eq off, 3)) (ht : (pc : Int) + off = (tgt : Int)) (kt : x = 0 → kWP l g X tgt ls st M Q) (kf : ¬ x = 0 → kWP l g X (pc + 3) ls st M Q) : kWP l g X pc ls (.inl x :: st) M Q := fun p e s m args below meth c C H locs lA hP hS hl hf hg => lv_if_eq C.1 C.2.1 hd ht (fun h => kt h p e s m args below meth c C H locs lA hP hS hl hf (kwf_tl hg)) (fun h => kf h p e s m args below meth c C H locs lA hP hS hl hf (kwf_tl hg))
theorem kwp_icmp_eq {x y : Int32} {off : Int} (tgt : Nat) (hd : decode X.2.1 pc = .ok (.if_icmp .eq off, 3)) (ht : (pc : Int) + off = (tgt : Int)) (kt : x = y → kWP l g X tgt ls st M Q) (kf : ¬ x = y → kWP l g X (pc + 3) ls st M Q) : kWP l g X pc ls (.inl y :: .inl x :: st) M Q := fun p e s m args below meth c C H locs lA hP hS hl hf hg => lv_icmp_eq C.1 C.2.1 hd ht (fun h => kt h p e s m args below meth c C H locs lA hP hS hl hf (kwf_tl (kwf_tl hg))) (fun h => kf h p e s m args below meth c C H locs lA hP hS hl hf (kwf_tl (kwf_tl hg)))
theorem kwp_if_ne {x : Int32} {off : Int} (tgt : Nat) (hd : decode X.2.1 pc = .ok (.ifCond .ne off, 3)) (ht : (pc : Int) + off = (tgt : Int)) (kt : ¬ x = 0 → kWP l g X tgt ls st M Q) (kf : x = 0 → kWP l g X (pc + 3) ls st M Q) : kWP l g X pc ls (.inl x :: st) M Q := fun p e s m args below meth c C H locs lA hP hS hl hf hg => lv_if_ne C.1 C.2.1 hd ht (fun h => kt h p e s m args below meth c C H locs lA hP hS hl hf (kwf_tl hg)) (fun h => kf h p e s m args below meth c C H locs lA hP hS hl hf (kwf_tl hg))
theorem kwp_icmp_ne {x y : Int32} {off : Int} (tgt : Nat) (hd : decode X.2.1 pc = .ok (.if_icmp .ne off, 3)) (ht : (pc : Int) + off = (tgt : Int)) (kt : ¬ x = y → kWP l g X tgt ls st M Q) (kf : x = y → kWP l g X (pc + 3) ls st M Q) : kWP l g X pc ls (.inl y :: .inl x :: st) M Q := fun p e s m args below meth c C H locs lA hP hS hl hf hg => lv_icmp_ne C.1 C.2.1 hd ht (fun h => kt h p e s m args below meth c C H locs lA hP hS hl hf (kwf_tl (kwf_tl hg))) (fun h => kf h p e s m args below meth c C H locs lA hP hS hl hf (kwf_tl (kwf_tl hg)))
theorem kwp_if_lt {x : Int32} {off : Int} (tgt : Nat) (hd : decode X.2.1 pc = .ok (.ifCond .lt off, 3)) (ht : (pc : Int) + off = (tgt : Int)) (kt : x < 0 → kWP l g X tgt ls st M Q) (kf : ¬ x < 0 → kWP l g X (pc + 3) ls st M Q) : kWP l g X pc ls (.inl x :: st) M Q := fun p e s m args below meth c C H locs lA hP hS hl hf hg => lv_if_lt C.1 C.2.1 hd ht (fun h => kt h p e s m args below meth c C H locs lA hP hS hl hf (kwf_tl hg)) (fun h => kf h p e s m args below meth c C H locs lA hP hS hl hf (kwf_tl hg))
theorem kwp_icmp_lt {x y : Int32} {off : Int} (tgt : Nat) (hd : decode X.2.1 pc = .ok (.if_icmp .lt off, 3)) (ht : (pc : Int) + off = (tgt : Int)) (kt : x < y → kWP l g X tgt ls st M Q) (kf : ¬ x < y → kWP l g X (pc + 3) ls st M Q) : kWP l g X pc ls (.inl y :: .inl x :: st) M Q := fun p e s m args below meth c C H locs lA hP hS hl hf hg => lv_icmp_lt C.1 C.2.1 hd ht (fun h => kt h p e s m args below meth c C H locs lA hP hS hl hf (kwf_tl (kwf_tl hg))) (fun h => kf h p e s m args below meth c C H locs lA hP hS hl hf (kwf_tl (kwf_tl hg)))
theorem kwp_if_ge {x : Int32} {off : Int} (tgt : Nat) (hd : decode X.2.1 pc = .ok (.ifCond .ge off, 3)) (ht : (pc : Int) + off = (tgt : Int)) (kt : 0 ≤ x → kWP l g X tgt ls st M Q) (kf : ¬ 0 ≤ x → kWP l g X (pc + 3) ls st M Q) : kWP l g X pc ls (.inl x :: st) M Q := fun p e s m args below meth c C H locs lA hP hS hl hf hg => lv_if_ge C.1 C.2.1 hd ht (fun h => kt h p e s m args below meth c C H locs lA hP hS hl hf (kwf_tl hg)) (fun h => kf h p e s m args below meth c C H locs lA hP hS hl hf (kwf_tl hg))
theorem kwp_icmp_ge {x y : Int32} {off : Int} (tgt : Nat) (hd : decode X.2.1 pc = .ok (.if_icmp .ge off, 3)) (ht : (pc : Int) + off = (tgt : Int)) (kt : y ≤ x → kWP l g X tgt ls st M Q) (kf : ¬ y ≤ x → kWP l g X (pc + 3) ls st M Q) : kWP l g X pc ls (.inl y :: .inl x :: st) M Q := fun p e s m args below meth c C H locs lA hP hS hl hf hg => lv_icmp_ge C.1 C.2.1 hd ht (fun h => kt h p e s m args below meth c C H locs lA hP hS hl hf (kwf_tl (kwf_tl hg))) (fun h => kf h p e s m args below meth c C H locs lA hP hS hl hf (kwf_tl (kwf_tl hg)))
theorem kwp_if_gt {x : Int32} {off : Int} (tgt : Nat) (hd : decode X.2.1 pc = .ok (.ifCond .gt off, 3)) (ht : (pc : Int) + off = (tgt : Int)) (kt : 0 < x → kWP l g X tgt ls st M Q) (kf : ¬ 0 < x → kWP l g X (pc + 3) ls st M Q) : kWP l g X pc ls (.inl x :: st) M Q := fun p e s m args below meth c C H locs lA hP hS hl hf hg => lv_if_gt C.1 C.2.1 hd ht (fun h => kt h p e s m args below meth c C H locs lA hP hS hl hf (kwf_tl hg)) (fun h => kf h p e s m args below meth c C H locs lA hP hS hl hf (kwf_tl hg))
theorem kwp_icmp_gt {x y : Int32} {off : Int} (tgt : Nat) (hd : decode X.2.1 pc = .ok (.if_icmp .gt off, 3)) (ht : (pc : Int) + off = (tgt : Int)) (kt : y < x → kWP l g X tgt ls st M Q) (kf : ¬ y < x → kWP l g X (pc + 3) ls st M Q) : kWP l g X pc ls (.inl y :: .inl x :: st) M Q := fun p e s m args below meth c C H locs lA hP hS hl hf hg => lv_icmp_gt C.1 C.2.1 hd ht (fun h => kt h p e s m args below meth c C H locs lA hP hS hl hf (kwf_tl (kwf_tl hg))) (fun h => kf h p e s m args below meth c C H locs lA hP hS hl hf (kwf_tl (kwf_tl hg)))
theorem kwp_if_le {x : Int32} {off : Int} (tgt : Nat) (hd : decode X.2.1 pc = .ok (.ifCond .le off, 3)) (ht : (pc : Int) + off = (tgt : Int)) (kt : x ≤ 0 → kWP l g X tgt ls st M Q) (kf : ¬ x ≤ 0 → kWP l g X (pc + 3) ls st M Q) : kWP l g X pc ls (.inl x :: st) M Q := fun p e s m args below meth c C H locs lA hP hS hl hf hg => lv_if_le C.1 C.2.1 hd ht (fun h => kt h p e s m args below meth c C H locs lA hP hS hl hf (kwf_tl hg)) (fun h => kf h p e s m args below meth c C H locs lA hP hS hl hf (kwf_tl hg))
theorem kwp_icmp_le {x y : Int32} {off : Int} (tgt : Nat) (hd : decode X.2.1 pc = .ok (.if_icmp .le off, 3)) (ht : (pc : Int) + off = (tgt : Int)) (kt : x ≤ y → kWP l g X tgt ls st M Q) (kf : ¬ x ≤ y → kWP l g X (pc + 3) ls st M Q) : kWP l g X pc ls (.inl y :: .inl x :: st) M Q := fun p e s m args below meth c C H locs lA hP hS hl hf hg => lv_icmp_le C.1 C.2.1 hd ht (fun h => kt h p e s m args below meth c C H locs lA hP hS hl hf (kwf_tl (kwf_tl hg))) (fun h => kf h p e s m args below meth c C H locs lA hP hS hl hf (kwf_tl (kwf_tl hg)))
theorem kwp_goto {off : Int} (tgt : Nat) (hd : decode X.2.1 pc = .ok (.goto off, 3)) (ht : (pc : Int) + off = (tgt : Int)) (k : kWP l g X tgt ls (st) M Q) : kWP l g X pc ls (st) M Q := fun p e s m args below meth c C H locs lA hP hS hl hf hg => lv_goto C.1 C.2.1 hd ht (k p e s m args below meth c C H locs lA hP hS hl hf hg)
theorem kwp_tsOut {dflt lo hi : Int} {offs : Array Int} {len : Nat} {x : Int32} (tgt : Nat) (hd : decode X.2.1 pc = .ok (.tableswitch dflt lo hi offs, len)) (h : x.toInt < lo ∨ hi < x.toInt) (ht : (pc : Int) + dflt = (tgt : Int)) (k : kWP l g X tgt ls (st) M Q) : kWP l g X pc ls (.inl x :: st) M Q := fun p e s m args below meth c C H locs lA hP hS hl hf hg => lv_tableOut C.1 C.2.1 hd h ht (k p e s m args below meth c C H locs lA hP hS hl hf (kwf_tl hg))
theorem kwp_tsIn {dflt lo hi : Int} {offs : Array Int} {len : Nat} {x : Int32} {off : Int} (tgt : Nat) (hd : decode X.2.1 pc = .ok (.tableswitch dflt lo hi offs, len)) (h1 : ¬ x.toInt < lo) (h2 : ¬ hi < x.toInt) (ho : offs[(x.toInt - lo).toNat]? = some off) (ht : (pc : Int) + off = (tgt : Int)) (k : kWP l g X tgt ls (st) M Q) : kWP l g X pc ls (.inl x :: st) M Q := fun p e s m args below meth c C H locs lA hP hS hl hf hg => lv_tableIn C.1 C.2.1 hd h1 h2 ho ht (k p e s m args below meth c C H locs lA hP hS hl hf (kwf_tl hg))
theorem kwp_lsw {dflt : Int} {ps : Array (Int × Int)} {len : Nat} {x : Int32} {off : Int} (tgt : Nat) (hd : decode X.2.1 pc = .ok (.lookupswitch dflt ps, len)) (hp : (ps.toList.zip (ps.toList.drop 1)).all (fun (a, next) => a.1 < next.1) = true) (ho : Op.lookupswitch.offset ps.toList dflt x.toInt = off) (ht : (pc : Int) + off = (tgt : Int)) (k : kWP l g X tgt ls (st) M Q) : kWP l g X pc ls (.inl x :: st) M Q := fun p e s m args below meth c C H locs lA hP hS hl hf hg => lv_lookup C.1 C.2.1 hd hp ho ht (k p e s m args below meth c C H locs lA hP hS hl hf (kwf_tl hg))
theorem kwp_iret {x : Int32} (hr : X.2.2.2.1 = some .int) (hd : decode X.2.1 pc = .ok (.ireturn, 1)) (h : Q (some (.inl x)) M) : kWP l g X pc ls ([.inl x]) M Q := fun p e s m args below meth c C H locs lA hP hS hl hf hg => W.iret C.1 C.2.1 (C.2.2.1.trans hr) (fun t ht hW => ⟨⟨some (.inl x), M, rfl, h, (fun x hx => by cases hx <;> exact trivial), by rw [ht]; exact hP⟩, hS.F ht⟩) hS.2.2 hd C.2.2.2.2.2.2.1
theorem kwp_zret {x : Int32} (hr : X.2.2.2.1 = some .boolean) (hx : x = 0 ∨ x = 1) (hd : decode X.2.1 pc = .ok (.ireturn, 1)) (h : Q (some (.inl x)) M) : kWP l g X pc ls ([.inl x]) M Q := fun p e s m args below meth c C H locs lA hP hS hl hf hg => W.zret C.1 C.2.1 (C.2.2.1.trans hr) (by rcases hx with rfl | rfl <;> rfl) (fun t ht hW => ⟨⟨some (.inl x), M, rfl, h, (fun x hx => by cases hx <;> exact trivial), by rw [ht]; exact hP⟩, hS.F ht⟩) hS.2.2 hd C.2.2.2.2.2.2.1
theorem kwp_lret {x : Int64} (hr : X.2.2.2.1 = some .long) (hd : decode X.2.1 pc = .ok (.lreturn, 1)) (h : Q (some (.inr (.inl x))) M) : kWP l g X pc ls ([.inr (.inl x)]) M Q := fun p e s m args below meth c C H locs lA hP hS hl hf hg => W.lret C.1 C.2.1 (C.2.2.1.trans hr) (fun t ht hW => ⟨⟨some (.inr (.inl x)), M, rfl, h, (fun x hx => by cases hx <;> exact trivial), by rw [ht]; exact hP⟩, hS.F ht⟩) hS.2.2 hd C.2.2.2.2.2.2.1
theorem kwp_vret (hr : X.2.2.2.1 = none) (hd : decode X.2.1 pc = .ok (.return_, 1)) (h : Q none M) : kWP l g X pc ls ([]) M Q := fun p e s m args below meth c C H locs lA hP hS hl hf hg => W.vret C.1 C.2.1 (C.2.2.1.trans hr) (fun t ht hW => ⟨⟨none, M, rfl, h, (fun x hx => by cases hx <;> exact trivial), by rw [ht]; exact hP⟩, hS.F ht⟩) hS.2.2 hd C.2.2.2.2.2.2.1
/-- a field's link from inside a class: the class of the cell, the field's place -/
def kFl (own : String) (idx ci i : Nat) : Prop := ∃ (C : String) (T : u_T) (N : Nat), vwCl[ci]? = some (C, T, N) ∧ i < N ∧ (∀ w ∈ u_ws C T N, w ∈ kw) ∧ Cond.fieldLink own idx (T i).1 (T i).2.1 (T i).2.2.1 ∈ kw
/-- the same, and what may be put there -/
def kFp (own : String) (idx ci i : Nat) (P : Int32 → Prop) : Prop := ∃ (C : String) (T : u_T) (N : Nat) (ty0 : Nat → FieldType), vwCl[ci]? = some (C, T, N) ∧ i < N ∧ (∀ w ∈ u_ws C T N, w ∈ kw) ∧ Cond.fieldLink own idx (T i).1 (T i).2.1 (T i).2.2.1 ∈ kw ∧ (∀ k, k < N → parseFieldDescriptor (T k).2.2.1 = some (ty0 k)) ∧ (∀ a, a < N → ∀ b, b < N → a ≠ b → (T a).2.1 ≠ (T b).2.1) ∧ (T i).2.2.2 = false ∧ ∀ v, P v → narrow (ty0 i) (.int v) = .int v ∧ fits (ty0 i) (.int v) = true
theorem kone {g : kG} {M : kM} {H : Heap} {c k : Nat} (hP : kP g M H) (h : (c, k) ∈ g.1.1) : va_P g.2.1 vwCl [(g.2.2.2 c k, kcell g M c k)] H := by
  intro i q hq
  have hz : i < 1 := (List.getElem?_eq_some_iff.mp hq).1
  rw [show i = 0 by omega] at hq
  cases hq
  exact hP c k h
theorem kwp_geti {idx c k ci i : Nat} {fs : List kF} (F : kFl X.1.cls idx ci i) (hx : g.1.2 c = .inr (ci, fs)) (hf2 : fs[i]? = some (.inl i)) (hd : decode X.2.1 pc = .ok (.getfield idx, 3)) (kk : kWP l g X (pc + 3) ls (.inl (M.1 c k i) :: st) M Q) : kWP l g X pc ls (.inr (.inr (c, k)) :: st) M Q := by
  intro p e s m args below meth cd C H locs lA hP hS hl hf hg
  obtain ⟨CC, T, N, f1, f2, f3, f4⟩ := F
  exact va_get C.1 C.2.1 C.2.2.2.2.2.1 f3 C.2.2.2.2.1 C.2.2.2.2.2.2.2.1.1 (kone hP (kwf_hd hg)) 0 (by rw [kcell_o hx]; rfl) f1 i f2 (C.2.2.2.2.2.1 _ f4) (fun _ h => h) (by rw [List.getElem?_map, hf2]; rfl) hd (kk p e s m args below meth cd C H locs lA hP hS hl hf (kwf_cons trivial (kwf_tl hg)))
theorem kwp_getr {idx c k ci i : Nat} {fs : List kF} {c2 : Nat} (F : kFl X.1.cls idx ci i) (hx : g.1.2 c = .inr (ci, fs)) (hf2 : fs[i]? = some (.inr (c2, none))) (hd : decode X.2.1 pc = .ok (.getfield idx, 3)) (kk : kWP l g X (pc + 3) ls (.inr (.inr (c2, k)) :: st) M Q) : kWP l g X pc ls (.inr (.inr (c, k)) :: st) M Q := by
  intro p e s m args below meth cd C H locs lA hP hS hl hf hg
  obtain ⟨CC, T, N, f1, f2, f3, f4⟩ := F
  exact va_get C.1 C.2.1 C.2.2.2.2.2.1 f3 C.2.2.2.2.1 C.2.2.2.2.2.2.2.1.1 (kone hP (kwf_hd hg)) 0 (by rw [kcell_o hx]; rfl) f1 i f2 (C.2.2.2.2.2.1 _ f4) (fun _ h => h) (by rw [List.getElem?_map, hf2]; rfl) hd (kk p e s m args below meth cd C H locs lA hP hS hl hf (kwf_cons (C.2.2.2.2.2.2.2.2.2.2.1 c k ci fs i _ (kwf_hd hg) hx hf2) (kwf_tl hg)))
theorem kwp_getc {idx c k ci i : Nat} {fs : List kF} {c2 k2 : Nat} (F : kFl X.1.cls idx ci i) (hx : g.1.2 c = .inr (ci, fs)) (hf2 : fs[i]? = some (.inr (c2, some k2))) (hd : decode X.2.1 pc = .ok (.getfield idx, 3)) (kk : kWP l g X (pc + 3) ls (.inr (.inr (c2, k2)) :: st) M Q) : kWP l g X pc ls (.inr (.inr (c, k)) :: st) M Q := by
  intro p e s m args below meth cd C H locs lA hP hS hl hf hg
  obtain ⟨CC, T, N, f1, f2, f3, f4⟩ := F
  exact va_get C.1 C.2.1 C.2.2.2.2.2.1 f3 C.2.2.2.2.1 C.2.2.2.2.2.2.2.1.1 (kone hP (kwf_hd hg)) 0 (by rw [kcell_o hx]; rfl) f1 i f2 (C.2.2.2.2.2.1 _ f4) (fun _ h => h) (by rw [List.getElem?_map, hf2]; rfl) hd (kk p e s m args below meth cd C H locs lA hP hS hl hf (kwf_cons (C.2.2.2.2.2.2.2.2.2.2.1 c k ci fs i _ (kwf_hd hg) hx hf2) (kwf_tl hg)))
theorem kset_fld {g : kG} {M : kM} {c k i : Nat} {fs : List kF} {v : Int32} (hf : fs[i]? = some (.inl i)) (hu : ∀ (a j : Nat), fs[a]? = some (.inl j) → j = a) : fs.map (kfld g (ku M c k i v) c k) = (fs.map (kfld g M c k)).set i (.int v) := by
  apply List.ext_getElem?
  intro a
  rw [List.getElem?_map]
  have hlen : i < fs.length := (List.getElem?_eq_some_iff.mp hf).1
  by_cases ha : a = i
  · subst ha
    rw [List.getElem?_set_self (by rw [List.length_map]; exact hlen), hf]
    simp [kfld, ku]
  · rw [List.getElem?_set_ne (fun h => ha h.symm), List.getElem?_map]
    cases hfa : fs[a]? with
    | none => rfl
    | some f =>
      rcases f with j | ⟨c', _ | k0⟩
      · have hj := hu a j hfa
        subst hj
        simp [kfld, ku, ha]
      · rfl
      · rfl
theorem kwp_put {idx c k ci i : Nat} {fs : List kF} {P : Int32 → Prop} {v : Int32} (F : kFp X.1.cls idx ci i P) (hx : g.1.2 c = .inr (ci, fs)) (hf2 : fs[i]? = some (.inl i)) (hv : P v) (hd : decode X.2.1 pc = .ok (.putfield idx, 3)) (kk : kWP l g X (pc + 3) ls st (ku M c k i v) Q) : kWP l g X pc ls (.inl v :: .inr (.inr (c, k)) :: st) M Q := by
  intro p e s m args below meth cd C H locs lA hP hS hl hf hg
  obtain ⟨CC, T, N, ty0, f1, f2, f3, f4, f5, f6, f7, f8⟩ := F
  have hin : (c, k) ∈ g.1.1 := kwf_hd (kwf_tl hg)
  obtain ⟨q, hq, hq2⟩ := kall_at (M := M) hin
  rw [kcell_o hx] at hq2
  have hlen : i < (fs.map (kfld g M c k)).length := by rw [List.length_map]; exact (List.getElem?_eq_some_iff.mp hf2).1
  refine va_put C.1 C.2.1 C.2.2.2.2.2.1 f3 ty0 f5 f6 C.2.2.2.2.1 C.2.2.2.2.2.2.2.1.1 (kall_P hP) (kall_D C.2.2.2.2.2.2.2.2.2.1 C.2.2.2.2.2.2.2.2.1) hS q hq2 f1 i f2 (C.2.2.2.2.2.1 _ f4) (fun _ h => h) f7 (f5 i f2) (f8 v hv).1 (f8 v hv).2 hlen hd (fun H1 locs1 hP1 _ hS1 => ?_)
  refine kk p e s m args below meth cd C H1 locs1 lA (kP_set hq hP1 ?_ ku_o) hS1 hl hf (kwf_tl (kwf_tl hg))
  rw [kcell_o hx]
  exact congrArg (fun z => (.inr (ci, z) : va_E)) (kset_fld hf2 (fun a j ha => C.2.2.2.2.2.2.2.2.2.2.1 c k ci fs a _ hin hx ha))
theorem kwp_iald {c k n : Nat} {i : Int32} (hx : g.1.2 c = .inl (0, n)) (hin : vp_in i n) (hd : decode X.2.1 pc = .ok (.iaload, 1)) (kk : kWP l g X (pc + 1) ls (.inl (M.1 c k i.toNatClampNeg) :: st) M Q) : kWP l g X pc ls (.inl i :: .inr (.inr (c, k)) :: st) M Q := by
  intro p e s m args below meth cd C H locs lA hP hS hl hf hg
  exact va_iald C.1 C.2.1 C.2.2.2.2.2.2.2.1.1 (kone hP (kwf_hd (kwf_tl hg))) 0 0 (by rw [kcell_i hx]; rfl) rfl hin hd (kk p e s m args below meth cd C H locs lA hP hS hl hf (kwf_cons trivial (kwf_tl (kwf_tl hg))))
theorem kwp_lald {c k n : Nat} {i : Int32} (hx : g.1.2 c = .inl (1, n)) (hin : vp_in i n) (hd : decode X.2.1 pc = .ok (.laload, 1)) (kk : kWP l g X (pc + 1) ls (.inr (.inl (M.2 c k i.toNatClampNeg)) :: st) M Q) : kWP l g X pc ls (.inl i :: .inr (.inr (c, k)) :: st) M Q := by
  intro p e s m args below meth cd C H locs lA hP hS hl hf hg
  exact va_lald C.1 C.2.1 C.2.2.2.2.2.2.2.1.1 (kone hP (kwf_hd (kwf_tl hg))) 0 1 (by rw [kcell_l hx]; rfl) rfl hin hd (kk p e s m args below meth cd C H locs lA hP hS hl hf (kwf_cons trivial (kwf_tl (kwf_tl hg))))
theorem kwp_aald {c k n t : Nat} {i : Int32} (hx : g.1.2 c = .inl (t + 2, n)) (hin : vp_in i n) (hd : decode X.2.1 pc = .ok (.aaload, 1)) (kk : kWP l g X (pc + 1) ls (.inr (.inr (t, i.toNatClampNeg)) :: st) M Q) : kWP l g X pc ls (.inl i :: .inr (.inr (c, k)) :: st) M Q := by
  intro p e s m args below meth cd C H locs lA hP hS hl hf hg
  have hlt : i.toNatClampNeg < n := Nat.not_le.mp fun q => hin (Or.inr q)
  exact va_aldq (f := fun j => some (g.2.2.2 t j)) C.1 C.2.1 C.2.2.2.2.2.2.2.1.1 (kone hP (kwf_hd (kwf_tl hg))) 0 2 (by rw [kcell_r hx]; rfl) rfl hin hd (kk p e s m args below meth cd C H locs lA hP hS hl hf (kwf_cons (C.2.2.2.2.2.2.2.2.2.2.2 c k t n _ (kwf_hd (kwf_tl hg)) hx hlt) (kwf_tl (kwf_tl hg))))
theorem kwp_alen {c k n : Nat} {v : Int32} (hx : g.1.2 c = .inl (0, n)) (hv : Int32.ofNat n = v) (hd : decode X.2.1 pc = .ok (.arraylength, 1)) (kk : kWP l g X (pc + 1) ls (.inl v :: st) M Q) : kWP l g X pc ls (.inr (.inr (c, k)) :: st) M Q := by
  intro p e s m args below meth cd C H locs lA hP hS hl hf hg
  exact va_alen C.1 C.2.1 C.2.2.2.2.2.2.2.1.1 (kone hP (kwf_hd hg)) 0 0 (by rw [kcell_i hx]; rfl) rfl hv hd (kk p e s m args below meth cd C H locs lA hP hS hl hf (kwf_cons trivial (kwf_tl hg)))
theorem kwp_iast {c k n : Nat} {i v : Int32} (hx : g.1.2 c = .inl (0, n)) (hin : vp_in i n) (hd : decode X.2.1 pc = .ok (.iastore, 1)) (kk : kWP l g X (pc + 1) ls st (ku M c k i.toNatClampNeg v) Q) : kWP l g X pc ls (.inl v :: .inl i :: .inr (.inr (c, k)) :: st) M Q := by
  intro p e s m args below meth cd C H locs lA hP hS hl hf hg
  obtain ⟨q, hq, hq2⟩ := kall_at (M := M) (kwf_hd (kwf_tl (kwf_tl hg)) : (c, k) ∈ g.1.1)
  rw [kcell_i hx] at hq2
  refine va_iast C.1 C.2.1 C.2.2.2.2.2.2.2.1.1 (kall_P hP) (kall_D C.2.2.2.2.2.2.2.2.2.1 C.2.2.2.2.2.2.2.2.1) hS q 0 hq2 rfl hin hd (fun H1 locs1 hP1 _ hS1 => ?_)
  refine kk p e s m args below meth cd C H1 locs1 lA (kP_set hq hP1 ?_ ku_o) hS1 hl hf (kwf_tl (kwf_tl (kwf_tl hg)))
  rw [kcell_i hx, ku_upd]
theorem kwp_last {c k n : Nat} {i : Int32} {v : Int64} (hx : g.1.2 c = .inl (1, n)) (hin : vp_in i n) (hd : decode X.2.1 pc = .ok (.lastore, 1)) (kk : kWP l g X (pc + 1) ls st (kul M c k i.toNatClampNeg v) Q) : kWP l g X pc ls (.inr (.inl v) :: .inl i :: .inr (.inr (c, k)) :: st) M Q := by
  intro p e s m args below meth cd C H locs lA hP hS hl hf hg
  obtain ⟨q, hq, hq2⟩ := kall_at (M := M) (kwf_hd (kwf_tl (kwf_tl hg)) : (c, k) ∈ g.1.1)
  rw [kcell_l hx] at hq2
  refine va_last C.1 C.2.1 C.2.2.2.2.2.2.2.1.1 (kall_P hP) (kall_D C.2.2.2.2.2.2.2.2.2.1 C.2.2.2.2.2.2.2.2.1) hS q 1 hq2 rfl hin hd (fun H1 locs1 hP1 _ hS1 => ?_)
  refine kk p e s m args below meth cd C H1 locs1 lA (kP_set hq hP1 ?_ kul_o) hS1 hl hf (kwf_tl (kwf_tl (kwf_tl hg)))
  rw [kcell_l hx, kul_upd]
/-- a stretch that lies within -/
def kin (a n N : Int32) (m : Nat) : Prop := ¬ a < 0 ∧ ¬ n < 0 ∧ a.toNatClampNeg + n.toNatClampNeg ≤ m
def kcw (own : String) (idx : Nat) : Prop := Cond.methodLink own idx arraycopyName ∈ kw
theorem kac : Cond.native arraycopyName ∈ kw ∧ Cond.static arraycopyName ∈ kw ∧ Cond.initialized "java/lang/System" ∈ kw := ⟨by decide +kernel, by decide +kernel, by decide +kernel⟩
theorem kwp_copyi {c k n0 c2 k2 n2 idx : Nat} {sp dp n : Int32} (F : kcw X.1.cls idx) (hx : g.1.2 c = .inl (0, n0)) (hx2 : g.1.2 c2 = .inl (0, n2)) (h1 : ¬ sp < 0) (h2 : ¬ dp < 0) (h3 : ¬ n < 0) (h4 : sp.toNatClampNeg + n.toNatClampNeg ≤ n0) (h5 : dp.toNatClampNeg + n.toNatClampNeg ≤ n2) (hr : (st.map kcat).sum ≤ 8) (hdep : 1 ≤ X.2.2.2.2) (hd : decode X.2.1 pc = .ok (.invokestatic idx, 3)) (kk : kWP l g X (pc + 3) ls st (kcp M c k sp.toNatClampNeg c2 k2 dp.toNatClampNeg n.toNatClampNeg) Q) : kWP l g X pc ls (.inl n :: .inl dp :: .inr (.inr (c2, k2)) :: .inl sp :: .inr (.inr (c, k)) :: st) M Q := by
  intro p e s m args below meth cd C H locs lA hP hS hl hf hg
  have hin2 : (c2, k2) ∈ g.1.1 := kwf_hd (kwf_tl (kwf_tl hg))
  have hin : (c, k) ∈ g.1.1 := kwf_hd (kwf_tl (kwf_tl (kwf_tl (kwf_tl hg))))
  obtain ⟨q, hq, hq2⟩ := kall_at (M := M) hin
  obtain ⟨r, hr1, hr2⟩ := kall_at (M := M) hin2
  rw [kcell_i hx] at hq2
  rw [kcell_i hx2] at hr2
  have hts := C.2.2.2.2.2.1
  have hcat : ((st.map (kval g)).map fun v => v.category).sum = (st.map kcat).sum := by rw [List.map_map]; congr 1; exact List.map_congr_left (fun v _ => kcat_eq g v)
  refine va_copyi C.1 C.2.1 (C.2.2.2.1.trans hl.1.symm) C.2.2.2.2.1 (hts _ F) (hts _ kac.1) (hts _ kac.2.1) (hts _ kac.2.2) C.2.2.2.2.2.2.2.1.1 (kall_P hP) (kall_D C.2.2.2.2.2.2.2.2.2.1 C.2.2.2.2.2.2.2.2.1) hS q r 0 0 hq2 hr2 rfl rfl rfl h1 h2 h3 h4 h5 (fun _ _ => rfl) hdep ?_ hd (fun H1 locs1 hP1 _ hS1 => ?_)
  · rw [hcat]
    have h9 : nativeFrameWords "java/lang/System" "arraycopy" 5 + 11 ≤ 26 := by decide +kernel
    show _ ≤ 34 * X.2.2.2.2
    omega
  refine kk p e s m args below meth cd C H1 locs1 lA (kP_set hr1 hP1 ?_ kcp_o) hS1 hl hf (kwf_tl (kwf_tl (kwf_tl (kwf_tl (kwf_tl hg)))))
  rw [kcell_i hx2, kcp_cpy]
theorem kwp_copyl {c k n0 c2 k2 n2 idx : Nat} {sp dp n : Int32} (F : kcw X.1.cls idx) (hx : g.1.2 c = .inl (1, n0)) (hx2 : g.1.2 c2 = .inl (1, n2)) (h1 : ¬ sp < 0) (h2 : ¬ dp < 0) (h3 : ¬ n < 0) (h4 : sp.toNatClampNeg + n.toNatClampNeg ≤ n0) (h5 : dp.toNatClampNeg + n.toNatClampNeg ≤ n2) (hr : (st.map kcat).sum ≤ 8) (hdep : 1 ≤ X.2.2.2.2) (hd : decode X.2.1 pc = .ok (.invokestatic idx, 3)) (kk : kWP l g X (pc + 3) ls st (kcpl M c k sp.toNatClampNeg c2 k2 dp.toNatClampNeg n.toNatClampNeg) Q) : kWP l g X pc ls (.inl n :: .inl dp :: .inr (.inr (c2, k2)) :: .inl sp :: .inr (.inr (c, k)) :: st) M Q := by
  intro p e s m args below meth cd C H locs lA hP hS hl hf hg
  have hin2 : (c2, k2) ∈ g.1.1 := kwf_hd (kwf_tl (kwf_tl hg))
  have hin : (c, k) ∈ g.1.1 := kwf_hd (kwf_tl (kwf_tl (kwf_tl (kwf_tl hg))))
  obtain ⟨q, hq, hq2⟩ := kall_at (M := M) hin
  obtain ⟨r, hr1, hr2⟩ := kall_at (M := M) hin2
  rw [kcell_l hx] at hq2
  rw [kcell_l hx2] at hr2
  have hts := C.2.2.2.2.2.1
  have hcat : ((st.map (kval g)).map fun v => v.category).sum = (st.map kcat).sum := by rw [List.map_map]; congr 1; exact List.map_congr_left (fun v _ => kcat_eq g v)
  refine va_copyl C.1 C.2.1 (C.2.2.2.1.trans hl.1.symm) C.2.2.2.2.1 (hts _ F) (hts _ kac.1) (hts _ kac.2.1) (hts _ kac.2.2) C.2.2.2.2.2.2.2.1.1 (kall_P hP) (kall_D C.2.2.2.2.2.2.2.2.2.1 C.2.2.2.2.2.2.2.2.1) hS q r 1 1 hq2 hr2 rfl rfl rfl h1 h2 h3 h4 h5 (fun _ _ => rfl) hdep ?_ hd (fun H1 locs1 hP1 _ hS1 => ?_)
  · rw [hcat]
    have h9 : nativeFrameWords "java/lang/System" "arraycopy" 5 + 11 ≤ 26 := by decide +kernel
    show _ ≤ 34 * X.2.2.2.2
    omega
  refine kk p e s m args below meth cd C H1 locs1 lA (kP_set hr1 hP1 ?_ kcpl_o) hS1 hl hf (kwf_tl (kwf_tl (kwf_tl (kwf_tl (kwf_tl hg)))))
  rw [kcell_l hx2, kcpl_cpy]
/-! ===== calls ===== -/
def kMb (Y : kX) (n : Nat) : Prop := Cond.code Y.1 Y.2.1 Y.2.2.1 Y.2.2.2.1 ∈ kw ∧ Cond.initialized Y.1.cls ∈ kw ∧ (Y.1.cls ≠ "java/lang/invoke/MethodHandle" ∧ Y.1.cls ≠ "java/lang/invoke/VarHandle" ∧ (parseMethodDescriptor Y.1.desc).map (fun d => d.parameters.length) = some n) ∧ Y.2.2.1 ≤ 15
theorem kgood {Y : kX} {n : Nat} (h : kMb Y n) : GoodIn kw (kws Y) := fun w hw => (List.mem_cons.mp hw).elim (fun e => by rw [e]; exact kw_good h.1) (fun h => kw_good h)
theorem kroom {a b m : Nat} (h : a < b) (hm : m ≤ 15) : (krm a).frames + 1 ≤ (krm b).frames ∧ 8 + (m + 11) + (krm a).locals ≤ (krm b).locals := by
  refine ⟨h, ?_⟩
  show 8 + (m + 11) + 34 * a ≤ 34 * b
  omega
theorem kNmem {w : Cond} (h : w ∈ kN) : ∃ (a : String) (i : Nat) (x : MethodName) (hh : String), w = .methodLinkNest a i x hh := by
  simp only [kN, List.mem_cons, List.not_mem_nil, or_false] at h
  rcases h with rfl | rfl | rfl | rfl <;> exact ⟨_, _, _, _, rfl⟩
theorem kK.warm {g : kG} {s U : State} (h : kK g s) (hW : s.WarmedH U.vm) : kK g U := ⟨va_K.moved hW.alike h.1, fun w hw => by
  obtain ⟨a, i, x, hh, rfl⟩ := kNmem hw
  exact va_Nw.warmM hW (h.2 _ hw)⟩
theorem kK.calling {g : kG} {U : State} (h : kK g U) (f : JFrame) (mk : MethodId) (a : Array Value) : kK g (U.calling f mk a) := ⟨va_K.moved (u := U) (U := U.calling f mk a) (Vm.Alike.refl U.vm) h.1, fun w hw => by
  obtain ⟨a, i, x, hh, rfl⟩ := kNmem hw
  exact va_Nw.same rfl rfl (h.2 _ hw)⟩
theorem kblind {g : kG} {vs : List Value} {M : kM} : FrameBlind (va_Pc vs (fun U => kP g M U.heap ∧ kK g U)) := fun _ _ f mk q => ⟨q.1, q.2.1, q.2.2.calling f mk _⟩
theorem kgo {g : kG} {p : Program} {l : Launch} {e : Env} {R : Room} {s : State} {m : MethodId} {args : Array Value} {below : List Frame} {meth : Method} {c : Code} {H : Heap} {locs : List Loc} {pc cells slots : Nat} {lA : Array Slot} {st0 rest : List Value} {Q1 : Option kV → kM → Prop} {a : Array Value} {Qf : State → Prop} {A0 : Nat → Prop} (hr : va_Run p l e R s m args below meth c H locs cells slots 0 0 (F0 m pc lA st0) rest (kQ g Q1 a) (kA g)) (hA : ∀ q, kA g q → A0 q) (hS : va_S A0 s.heap H locs)
    (kk : ∀ (v : Option kV) (M1 : kM) (H1 : Heap) (locs1 : List Loc), Q1 v M1 → (∀ x, v = some x → kwf g x) → kP g M1 H1 → H.size ≤ H1.size → (∀ q : Nat, q < H.size → ¬ kA g q → H1[q]? = H[q]?) → va_S A0 s.heap H1 locs1 → W p l e R s m args below meth c H1 locs1 cells slots Qf (F0 m (pc + 3) lA ((v.map (kval g)).toList ++ rest))) : W p l e R s m args below meth c H locs cells slots Qf (F0 m pc lA st0) := by
  intro T hT X
  obtain ⟨v, st₀, t, T', L, h0, X', hL, e1, e2, ⟨⟨v', M1, hv, hq, hw, hp⟩, hz, hk⟩, st⟩ := hr T hT X
  have hv' : v = v'.map (kval g) := by injection hv
  subst hv'
  rw [h0] at hz hk
  obtain ⟨t2, a1, b1⟩ := kk v' M1 T'.heap (locs ++ L) hq hw (by rw [e1]; exact hp) (by rw [e1]; exact hz) (fun q h1 h2 => by rw [e1]; exact hk q h1 h2)
    ⟨Nat.le_trans hS.1 (by rw [e1]; exact hz), fun q h1 h2 => by rw [e1, hk q (Nat.lt_of_lt_of_le h1 hS.1) (fun z => h2 (hA q z))]; exact hS.2.1 q h1 h2, fun q hq => by
      rcases List.mem_append.mp hq with h | h
      · exact hS.2.2 q h
      · exact hA _ (hL q h)⟩ T' rfl X'
  exact ⟨t2, st t2 a1, b1⟩
theorem kval_out (g : kG) (v : Option kV) (rest : List kV) : (v.map (kval g)).toList ++ rest.map (kval g) = (v.toList ++ rest).map (kval g) := by cases v <;> rfl
theorem kwf_out {g : kG} {v : Option kV} {rest : List kV} (hv : ∀ x, v = some x → kwf g x) (hr : ∀ w ∈ rest, kwf g w) : ∀ w ∈ v.toList ++ rest, kwf g w := by
  cases v with
  | none => exact hr
  | some x => exact kwf_cons (hv x rfl) hr
theorem krev (g : kG) (vs rest : List kV) : (vs.reverse ++ rest).map (kval g) = (vs.map (kval g)).reverse ++ rest.map (kval g) := by rw [List.map_append, List.map_reverse]
theorem kcats (g : kG) (st : List kV) : ((st.map (kval g)).map fun v => v.category).sum = (st.map kcat).sum := by rw [List.map_map]; congr 1; exact List.map_congr_left (fun v _ => kcat_eq g v)
theorem kwp_callS {Y : kX} {idx n : Nat} {vs rest : List kV} (F : kMb Y n) (F2 : Cond.static Y.1 ∈ kw) (F3 : Cond.methodLink X.1.cls idx Y.1 ∈ kw) (hdep : Y.2.2.2.2 < X.2.2.2.2) (hn : vs.length = n) (hst : vs.reverse ++ rest = st) (hr : (rest.map kcat).sum ≤ 8) (hd : decode X.2.1 pc = .ok (.invokestatic idx, 3)) (k : kCT l g Y vs M (fun v M1 => kWP l g X (pc + 3) ls (v.toList ++ rest) M1 Q)) : kWP l g X pc ls st M Q := by
  subst hst
  intro p e s m args below meth cd C H locs lA hP hS hl hf hg
  have hts := C.2.2.2.2.2.1
  have hwv : ∀ v ∈ vs, kwf g v := fun v hv => hg v (List.mem_append_left _ (List.mem_reverse.mpr hv))
  have hwr : ∀ v ∈ rest, kwf g v := fun v hv => hg v (List.mem_append_right _ hv)
  have hM := k C.2.2.2.2.2.2.2.2.1 C.2.2.2.2.2.2.2.2.2 hwv
  refine kgo (g := g) (rest := rest.map (kval g)) (va_runS (As := vs.map (kval g)) (rest := rest.map (kval g)) ⟨C.1, C.2.1, C.2.2.2.1, C.2.2.2.2.1, hts⟩ hM ⟨callB_of n hts (kgood F) rfl rfl rfl (hts _ F.2.1) (hts _ F3) F.2.2.1 (kroom hdep F.2.2.2), hts _ F2⟩ ⟨kblind, fun U hU hW => ⟨rfl, by rw [hU]; exact hP, C.2.2.2.2.2.2.2.1.warm hW⟩⟩ rfl (by rw [List.length_map]; exact hn) hl.1 (krev g vs rest) (lv_room (by rw [kcats]; exact hr)) hd ⟨Nat.zero_le _, Nat.zero_le _⟩) (fun _ h => h) hS (fun v M1 H1 locs1 h1 h2 h3 _ _ h4 => ?_)
  rw [kval_out]
  exact h1 p e s m args below meth cd C H1 locs1 lA h3 h4 hl hf (kwf_out h2 hwr)
theorem kwp_callN {Y : kX} {idx n : Nat} {host : String} {vs rest : List kV} (F : kMb Y n) (F2 : Cond.static Y.1 ∈ kw) (F3 : Cond.methodLinkNest X.1.cls idx Y.1 host ∈ kN) (hdep : Y.2.2.2.2 < X.2.2.2.2) (hn : vs.length = n) (hst : vs.reverse ++ rest = st) (hr : (rest.map kcat).sum ≤ 8) (hd : decode X.2.1 pc = .ok (.invokestatic idx, 3)) (k : kCT l g Y vs M (fun v M1 => kWP l g X (pc + 3) ls (v.toList ++ rest) M1 Q)) : kWP l g X pc ls st M Q := by
  subst hst
  intro p e s m args below meth cd C H locs lA hP hS hl hf hg
  have hts := C.2.2.2.2.2.1
  have hwv : ∀ v ∈ vs, kwf g v := fun v hv => hg v (List.mem_append_left _ (List.mem_reverse.mpr hv))
  have hwr : ∀ v ∈ rest, kwf g v := fun v hv => hg v (List.mem_append_right _ hv)
  have hM := k C.2.2.2.2.2.2.2.2.1 C.2.2.2.2.2.2.2.2.2 hwv
  refine kgo (g := g) (rest := rest.map (kval g)) (va_runSN (As := vs.map (kval g)) (rest := rest.map (kval g)) ⟨C.1, C.2.1, C.2.2.2.1, C.2.2.2.2.1, hts⟩ hM ⟨va_cnB n hts (kgood F) rfl rfl rfl (C.2.2.2.2.2.2.2.1.2 _ F3) (hts _ F.2.1) F.2.2.1 (kroom hdep F.2.2.2), hts _ F2, trivial⟩ ⟨kblind, fun U hU hW => ⟨rfl, by rw [hU]; exact hP, C.2.2.2.2.2.2.2.1.warm hW⟩⟩ rfl (by rw [List.length_map]; exact hn) hl.1 (krev g vs rest) (lv_room (by rw [kcats]; exact hr)) hd ⟨Nat.zero_le _, Nat.zero_le _⟩) (fun _ h => h) hS (fun v M1 H1 locs1 h1 h2 h3 _ _ h4 => ?_)
  rw [kval_out]
  exact h1 p e s m args below meth cd C H1 locs1 lA h3 h4 hl hf (kwf_out h2 hwr)
theorem kwp_callV {Y : kX} {idx n c0 k0 ci N : Nat} {T : u_T} {fs : List kF} {vs rest : List kV} (F : kMb Y n) (F2 : Cond.instanceMethod Y.1 ∈ kw ∧ Cond.selects Y.1.cls Y.1 Y.1 ∈ kw) (F3 : Cond.methodLink X.1.cls idx Y.1 ∈ kw) (hdep : Y.2.2.2.2 < X.2.2.2.2) (hx : g.1.2 c0 = .inr (ci, fs)) (hc : vwCl[ci]? = some (Y.1.cls, T, N)) (hn : vs.length = n) (hst : vs.reverse ++ (.inr (.inr (c0, k0)) :: rest) = st) (hr : (rest.map kcat).sum ≤ 8) (hd : decode X.2.1 pc = .ok (.invokevirtual idx, 3)) (k : kCT l g Y (.inr (.inr (c0, k0)) :: vs) M (fun v M1 => kWP l g X (pc + 3) ls (v.toList ++ rest) M1 Q)) : kWP l g X pc ls st M Q := by
  subst hst
  intro p e s m args below meth cd C H locs lA hP hS hl hf hg
  have hts := C.2.2.2.2.2.1
  have hin : (c0, k0) ∈ g.1.1 := hg (.inr (.inr (c0, k0))) (List.mem_append_right _ List.mem_cons_self)
  have hwv : ∀ v ∈ vs, kwf g v := fun v hv => hg v (List.mem_append_left _ (List.mem_reverse.mpr hv))
  have hwr : ∀ v ∈ rest, kwf g v := fun v hv => hg v (List.mem_append_right _ (List.mem_cons_of_mem _ hv))
  have hM := k C.2.2.2.2.2.2.2.2.1 C.2.2.2.2.2.2.2.2.2 (kwf_cons hin hwv)
  refine kgo (g := g) (rest := rest.map (kval g)) (va_runV (C := Y.1.cls) (b := g.2.2.2 c0 k0) (As := vs.map (kval g)) (rest := rest.map (kval g)) ⟨C.1, C.2.1, C.2.2.2.1, C.2.2.2.2.1, hts⟩ hM ⟨callB_of n hts (kgood F) rfl rfl rfl (hts _ F.2.1) (hts _ F3) F.2.2.1 (kroom hdep F.2.2.2), hts _ F2.1, hts _ F2.2⟩ ⟨kblind, va_recv C.2.2.2.2.2.2.2.1.1 (kone hP hin) hc (q0 := 0) (by rw [kcell_o hx]; rfl), fun U hU hW => ⟨rfl, by rw [hU]; exact hP, C.2.2.2.2.2.2.2.1.warm hW⟩⟩ rfl (by rw [List.length_map]; exact hn) hl.1 (krev g vs (.inr (.inr (c0, k0)) :: rest)) (lv_room (by rw [kcats]; exact hr)) hd ⟨Nat.zero_le _, Nat.zero_le _⟩) (fun _ h => h) hS (fun v M1 H1 locs1 h1 h2 h3 _ _ h4 => ?_)
  rw [kval_out]
  exact h1 p e s m args below meth cd C H1 locs1 lA h3 h4 hl hf (kwf_out h2 hwr)
/-- a contract says less behind more -/
theorem kCT.mono {X : kX} {vs : List kV} {Q1 Q2 : Option kV → kM → Prop} (h : kCT l g X vs M Q1) (hQ : ∀ v M1, Q1 v M1 → Q2 v M1) : kCT l g X vs M Q2 := by
  intro hJ hOK hw
  intro p e h1 h2 h3 s m args below h4 h5 h6 h7
  obtain ⟨n, o, a, b, c, ⟨⟨v, M1, d1, d2, d3⟩, d4⟩, d5⟩ := h hJ hOK hw p e h1 h2 h3 s m args below h4 h5 h6 h7
  exact ⟨n, o, a, b, c, ⟨⟨v, M1, d1, hQ v M1 d2, d3⟩, d4⟩, d5⟩
theorem kWP.mono {Q1 Q2 : Option kV → kM → Prop} (h : kWP l g X pc ls st M Q1) (hQ : ∀ v M1, Q1 v M1 → Q2 v M1) : kWP l g X pc ls st M Q2 := by
  intro p e s m args below meth c C H locs lA hP hS hl hf hg T hT XX
  obtain ⟨t, a, o, b1, b2, b3, b4⟩ := h p e s m args below meth c C H locs lA hP hS hl hf hg T hT XX
  exact ⟨t, a, o, b1, b2, ⟨(let ⟨v, M1, a, b, c⟩ := b3.1; ⟨v, M1, a, hQ v M1 b, c⟩), b3.2⟩, b4⟩
end KR
end
section
def rg_x : kR := ([(0, 0), (1, 0), (1, 1), (1, 2), (1, 3), (2, 0), (2, 1), (3, 0), (4, 0), (5, 0), (5, 1), (5, 2), (5, 3), (6, 0), (7, 0), (7, 1), (7, 2), (7, 3), (8, 0), (8, 1), (8, 2), (8, 3), (9, 0), (9, 1), (9, 2), (9, 3), (10, 0), (10, 1), (10, 2), (10, 3), (11, 0), (11, 1), (11, 2), (11, 3), (12, 0), (12, 1), (12, 2), (12, 3), (13, 0), (13, 1), (13, 2), (13, 3), (14, 0), (14, 1), (14, 2), (14, 3), (15, 0), (15, 1), (16, 0), (17, 0), (18, 0), (18, 1), (18, 2), (18, 3), (19, 0), (20, 0)], fun c => match c with
  | 0 => .inr (5, [.inr (1, some 0), .inr (2, some 0), .inr (1, some 1), .inr (2, some 1), .inl 4, .inr (3, some 0), .inr (4, some 0), .inr (6, some 0), .inr (19, some 0), .inr (20, some 0)])
  | 1 => .inr (3, [.inl 0, .inl 1, .inl 2, .inl 3, .inr (7, none), .inr (8, none), .inr (9, none), .inr (10, none), .inr (11, none), .inr (12, none), .inr (13, none), .inr (14, none)])
  | 2 => .inr (2, [.inl 0, .inl 1, .inr (15, none)])
  | 3 => .inr (0, [.inr (1, some 2), .inr (16, some 0)])
  | 4 => .inr (4, [.inr (1, some 3), .inr (17, some 0), .inl 2, .inl 3])
  | 5 => .inr (1, [.inl 0, .inl 1, .inr (18, none)])
  | 6 => .inl (5 + 2, 4)
  | 7 => .inl (0, 8)
  | 8 => .inl (0, 8)
  | 9 => .inl (0, 8)
  | 10 => .inl (0, 4)
  | 11 => .inl (0, 4)
  | 12 => .inl (0, 4)
  | 13 => .inl (0, 4)
  | 14 => .inl (0, 4)
  | 15 => .inl (0, 168)
  | 16 => .inl (0, 36)
  | 17 => .inl (0, 90)
  | 18 => .inl (1, 24)
  | 19 => .inl (0, 81)
  | 20 => .inl (0, 81)
  | _ => .inl (0, 0))
def rg_m : kR := ([(0, 0), (1, 0), (2, 0), (3, 0), (4, 0), (5, 0), (6, 0), (7, 0), (8, 0), (9, 0)], fun c => match c with
  | 0 => .inr (6, [.inr (1, some 0), .inl 1, .inr (2, some 0), .inl 3, .inr (3, some 0), .inr (4, some 0), .inr (5, some 0), .inl 7, .inl 8, .inr (6, some 0), .inr (7, some 0), .inr (8, some 0), .inr (9, some 0)])
  | 1 => .inl (0, 483)
  | 2 => .inl (0, 90)
  | 3 => .inl (1, 96)
  | 4 => .inl (0, 4)
  | 5 => .inl (0, 4)
  | 6 => .inl (0, 36)
  | 7 => .inl (0, 81)
  | 8 => .inl (0, 81)
  | 9 => .inl (1, 24)
  | _ => .inl (0, 0))
theorem rg_x_ok : kOK rg_x := by
  refine ⟨by decide +kernel, ?_, ?_⟩
  · have h : ∀ q ∈ rg_x.1, ∀ ci fs, rg_x.2 q.1 = .inr (ci, fs) → ∀ (i : Nat) (f : kF), fs[i]? = some f → (match f with | .inl j => j = i | .inr (c', none) => (c', q.2) ∈ rg_x.1 | .inr (c', some k0) => (c', k0) ∈ rg_x.1) := by
      have h2 : ∀ q ∈ rg_x.1, (match rg_x.2 q.1 with | .inl _ => true | .inr (_, fs) => fs.zipIdx.all (fun z => match z.1 with | .inl j => j == z.2 | .inr (c', none) => rg_x.1.contains (c', q.2) | .inr (c', some k0) => rg_x.1.contains (c', k0))) = true := by decide +kernel
      intro q hq ci fs hx i f hf
      have h3 := h2 q hq
      rw [hx] at h3
      have h4 := List.all_eq_true.mp h3 (f, i) (List.mem_zipIdx_iff_getElem?.mpr hf)
      rcases f with j | ⟨c', _ | k0⟩
      · simpa using h4
      · simpa using h4
      · simpa using h4
    intro c k ci fs i f hq hx hf
    exact h (c, k) hq ci fs hx i f hf
  · have h2 : ∀ q ∈ rg_x.1, (match rg_x.2 q.1 with | .inl (t + 2, n) => (List.range n).all (fun j => rg_x.1.contains (t, j)) | _ => true) = true := by decide +kernel
    intro c k t n j hq hx hj
    have h3 := h2 (c, k) hq
    simp only [hx] at h3
    have h4 := List.all_eq_true.mp h3 j (List.mem_range.mpr hj)
    simpa using h4
theorem rg_m_ok : kOK rg_m := by
  refine ⟨by decide +kernel, ?_, ?_⟩
  · have h : ∀ q ∈ rg_m.1, ∀ ci fs, rg_m.2 q.1 = .inr (ci, fs) → ∀ (i : Nat) (f : kF), fs[i]? = some f → (match f with | .inl j => j = i | .inr (c', none) => (c', q.2) ∈ rg_m.1 | .inr (c', some k0) => (c', k0) ∈ rg_m.1) := by
      have h2 : ∀ q ∈ rg_m.1, (match rg_m.2 q.1 with | .inl _ => true | .inr (_, fs) => fs.zipIdx.all (fun z => match z.1 with | .inl j => j == z.2 | .inr (c', none) => rg_m.1.contains (c', q.2) | .inr (c', some k0) => rg_m.1.contains (c', k0))) = true := by decide +kernel
      intro q hq ci fs hx i f hf
      have h3 := h2 q hq
      rw [hx] at h3
      have h4 := List.all_eq_true.mp h3 (f, i) (List.mem_zipIdx_iff_getElem?.mpr hf)
      rcases f with j | ⟨c', _ | k0⟩
      · simpa using h4
      · simpa using h4
      · simpa using h4
    intro c k ci fs i f hq hx hf
    exact h (c, k) hq ci fs hx i f hf
  · have h2 : ∀ q ∈ rg_m.1, (match rg_m.2 q.1 with | .inl (t + 2, n) => (List.range n).all (fun j => rg_m.1.contains (t, j)) | _ => true) = true := by decide +kernel
    intro c k t n j hq hx hj
    have h3 := h2 (c, k) hq
    simp only [hx] at h3
    have h4 := List.all_eq_true.mp h3 j (List.mem_range.mpr hj)
    simpa using h4
theorem inkX0 : ∀ w ∈ u_ws RX0 TX0 2, w ∈ kw := by decide +kernel
theorem inkX1 : ∀ w ∈ u_ws RX1 TX1 3, w ∈ kw := by decide +kernel
theorem inkX2 : ∀ w ∈ u_ws RX2 TX2 3, w ∈ kw := by decide +kernel
theorem inkX3 : ∀ w ∈ u_ws RX3 TX3 12, w ∈ kw := by decide +kernel
theorem inkX4 : ∀ w ∈ u_ws RX4 TX4 4, w ∈ kw := by decide +kernel
theorem inkX5 : ∀ w ∈ u_ws RX5 TX5 10, w ∈ kw := by decide +kernel
theorem inkX6 : ∀ w ∈ u_ws RX6 TX6 13, w ∈ kw := by decide +kernel
theorem fl_X5_10 : kFl RX5 10 5 0 := ⟨RX5, TX5, 10, rfl, by decide, inkX5, kw_t 156 (by decide +kernel) (by decide +kernel)⟩
theorem fl_X5_19 : kFl RX5 19 5 1 := ⟨RX5, TX5, 10, rfl, by decide, inkX5, kw_t 157 (by decide +kernel) (by decide +kernel)⟩
theorem fl_X5_23 : kFl RX5 23 5 2 := ⟨RX5, TX5, 10, rfl, by decide, inkX5, kw_t 158 (by decide +kernel) (by decide +kernel)⟩
theorem fl_X5_26 : kFl RX5 26 5 3 := ⟨RX5, TX5, 10, rfl, by decide, inkX5, kw_t 159 (by decide +kernel) (by decide +kernel)⟩
theorem fl_X5_29 : kFl RX5 29 5 4 := ⟨RX5, TX5, 10, rfl, by decide, inkX5, kw_t 160 (by decide +kernel) (by decide +kernel)⟩
theorem fp_X5_29 : kFp RX5 29 5 4 (fun v => v = 0 ∨ v = 1) := ⟨RX5, TX5, 10, tyX5, rfl, by decide, inkX5, kw_t 160 (by decide +kernel) (by decide +kernel), tyX5_ok, nmX5, rfl, (by intro v hv; rcases hv with rfl | rfl <;> exact ⟨rfl, rfl⟩)⟩
theorem fl_X5_36 : kFl RX5 36 5 5 := ⟨RX5, TX5, 10, rfl, by decide, inkX5, kw_t 161 (by decide +kernel) (by decide +kernel)⟩
theorem fl_X5_43 : kFl RX5 43 5 6 := ⟨RX5, TX5, 10, rfl, by decide, inkX5, kw_t 162 (by decide +kernel) (by decide +kernel)⟩
theorem fl_X5_50 : kFl RX5 50 5 7 := ⟨RX5, TX5, 10, rfl, by decide, inkX5, kw_t 163 (by decide +kernel) (by decide +kernel)⟩
theorem fl_X5_54 : kFl RX5 54 5 8 := ⟨RX5, TX5, 10, rfl, by decide, inkX5, kw_t 164 (by decide +kernel) (by decide +kernel)⟩
theorem fl_X5_58 : kFl RX5 58 5 9 := ⟨RX5, TX5, 10, rfl, by decide, inkX5, kw_t 165 (by decide +kernel) (by decide +kernel)⟩
theorem fl_X5_65 : kFl RX5 65 3 0 := ⟨RX3, TX3, 12, rfl, by decide, inkX3, kw_t 26 (by decide +kernel) (by decide +kernel)⟩
theorem fp_X5_65 : kFp RX5 65 3 0 (fun _ => True) := ⟨RX3, TX3, 12, tyX3, rfl, by decide, inkX3, kw_t 26 (by decide +kernel) (by decide +kernel), tyX3_ok, nmX3, rfl, fun _ _ => ⟨rfl, rfl⟩⟩
theorem fl_X5_76 : kFl RX5 76 3 1 := ⟨RX3, TX3, 12, rfl, by decide, inkX3, kw_t 30 (by decide +kernel) (by decide +kernel)⟩
theorem fp_X5_76 : kFp RX5 76 3 1 (fun _ => True) := ⟨RX3, TX3, 12, tyX3, rfl, by decide, inkX3, kw_t 30 (by decide +kernel) (by decide +kernel), tyX3_ok, nmX3, rfl, fun _ _ => ⟨rfl, rfl⟩⟩
theorem fl_X5_82 : kFl RX5 82 3 4 := ⟨RX3, TX3, 12, rfl, by decide, inkX3, kw_t 37 (by decide +kernel) (by decide +kernel)⟩
theorem fl_X5_85 : kFl RX5 85 3 5 := ⟨RX3, TX3, 12, rfl, by decide, inkX3, kw_t 39 (by decide +kernel) (by decide +kernel)⟩
theorem fl_X5_88 : kFl RX5 88 3 6 := ⟨RX3, TX3, 12, rfl, by decide, inkX3, kw_t 41 (by decide +kernel) (by decide +kernel)⟩
theorem fl_X5_95 : kFl RX5 95 3 7 := ⟨RX3, TX3, 12, rfl, by decide, inkX3, kw_t 43 (by decide +kernel) (by decide +kernel)⟩
theorem fl_X5_98 : kFl RX5 98 3 8 := ⟨RX3, TX3, 12, rfl, by decide, inkX3, kw_t 46 (by decide +kernel) (by decide +kernel)⟩
theorem fl_X5_101 : kFl RX5 101 3 9 := ⟨RX3, TX3, 12, rfl, by decide, inkX3, kw_t 49 (by decide +kernel) (by decide +kernel)⟩
theorem fl_X5_104 : kFl RX5 104 3 10 := ⟨RX3, TX3, 12, rfl, by decide, inkX3, kw_t 51 (by decide +kernel) (by decide +kernel)⟩
theorem fl_X5_107 : kFl RX5 107 3 11 := ⟨RX3, TX3, 12, rfl, by decide, inkX3, kw_t 53 (by decide +kernel) (by decide +kernel)⟩
theorem fl_X5_114 : kFl RX5 114 3 2 := ⟨RX3, TX3, 12, rfl, by decide, inkX3, kw_t 33 (by decide +kernel) (by decide +kernel)⟩
theorem fp_X5_114 : kFp RX5 114 3 2 (fun _ => True) := ⟨RX3, TX3, 12, tyX3, rfl, by decide, inkX3, kw_t 33 (by decide +kernel) (by decide +kernel), tyX3_ok, nmX3, rfl, fun _ _ => ⟨rfl, rfl⟩⟩
theorem fl_X5_129 : kFl RX5 129 4 0 := ⟨RX4, TX4, 4, rfl, by decide, inkX4, kw_t 123 (by decide +kernel) (by decide +kernel)⟩
theorem fl_X5_146 : kFl RX5 146 2 0 := ⟨RX2, TX2, 3, rfl, by decide, inkX2, kw_t 88 (by decide +kernel) (by decide +kernel)⟩
theorem fp_X5_146 : kFp RX5 146 2 0 (fun _ => True) := ⟨RX2, TX2, 3, tyX2, rfl, by decide, inkX2, kw_t 88 (by decide +kernel) (by decide +kernel), tyX2_ok, nmX2, rfl, fun _ _ => ⟨rfl, rfl⟩⟩
theorem fl_X5_175 : kFl RX5 175 3 3 := ⟨RX3, TX3, 12, rfl, by decide, inkX3, kw_t 35 (by decide +kernel) (by decide +kernel)⟩
theorem fp_X5_175 : kFp RX5 175 3 3 (fun _ => True) := ⟨RX3, TX3, 12, tyX3, rfl, by decide, inkX3, kw_t 35 (by decide +kernel) (by decide +kernel), tyX3_ok, nmX3, rfl, fun _ _ => ⟨rfl, rfl⟩⟩
theorem fl_X5_187 : kFl RX5 187 0 0 := ⟨RX0, TX0, 2, rfl, by decide, inkX0, kw_t 107 (by decide +kernel) (by decide +kernel)⟩
theorem fl_X5_256 : kFl RX5 256 1 0 := ⟨RX1, TX1, 3, rfl, by decide, inkX1, kw_t 144 (by decide +kernel) (by decide +kernel)⟩
theorem fp_X5_256 : kFp RX5 256 1 0 (fun _ => True) := ⟨RX1, TX1, 3, tyX1, rfl, by decide, inkX1, kw_t 144 (by decide +kernel) (by decide +kernel), tyX1_ok, nmX1, rfl, fun _ _ => ⟨rfl, rfl⟩⟩
theorem fl_X5_262 : kFl RX5 262 1 2 := ⟨RX1, TX1, 3, rfl, by decide, inkX1, kw_t 147 (by decide +kernel) (by decide +kernel)⟩
theorem fl_X0_12 : kFl RX0 12 0 0 := ⟨RX0, TX0, 2, rfl, by decide, inkX0, kw_t 106 (by decide +kernel) (by decide +kernel)⟩
theorem fl_X0_18 : kFl RX0 18 0 1 := ⟨RX0, TX0, 2, rfl, by decide, inkX0, kw_t 108 (by decide +kernel) (by decide +kernel)⟩
theorem fl_X0_26 : kFl RX0 26 3 1 := ⟨RX3, TX3, 12, rfl, by decide, inkX3, kw_t 29 (by decide +kernel) (by decide +kernel)⟩
theorem fp_X0_26 : kFp RX0 26 3 1 (fun _ => True) := ⟨RX3, TX3, 12, tyX3, rfl, by decide, inkX3, kw_t 29 (by decide +kernel) (by decide +kernel), tyX3_ok, nmX3, rfl, fun _ _ => ⟨rfl, rfl⟩⟩
theorem fl_X0_42 : kFl RX0 42 3 8 := ⟨RX3, TX3, 12, rfl, by decide, inkX3, kw_t 45 (by decide +kernel) (by decide +kernel)⟩
theorem fl_X0_53 : kFl RX0 53 3 9 := ⟨RX3, TX3, 12, rfl, by decide, inkX3, kw_t 48 (by decide +kernel) (by decide +kernel)⟩
theorem fl_X1_11 : kFl RX1 11 1 0 := ⟨RX1, TX1, 3, rfl, by decide, inkX1, kw_t 143 (by decide +kernel) (by decide +kernel)⟩
theorem fp_X1_11 : kFp RX1 11 1 0 (fun _ => True) := ⟨RX1, TX1, 3, tyX1, rfl, by decide, inkX1, kw_t 143 (by decide +kernel) (by decide +kernel), tyX1_ok, nmX1, rfl, fun _ _ => ⟨rfl, rfl⟩⟩
theorem fl_X1_15 : kFl RX1 15 1 1 := ⟨RX1, TX1, 3, rfl, by decide, inkX1, kw_t 145 (by decide +kernel) (by decide +kernel)⟩
theorem fp_X1_15 : kFp RX1 15 1 1 (fun _ => True) := ⟨RX1, TX1, 3, tyX1, rfl, by decide, inkX1, kw_t 145 (by decide +kernel) (by decide +kernel), tyX1_ok, nmX1, rfl, fun _ _ => ⟨rfl, rfl⟩⟩
theorem fl_X1_18 : kFl RX1 18 1 2 := ⟨RX1, TX1, 3, rfl, by decide, inkX1, kw_t 146 (by decide +kernel) (by decide +kernel)⟩
theorem fl_X2_7 : kFl RX2 7 2 0 := ⟨RX2, TX2, 3, rfl, by decide, inkX2, kw_t 87 (by decide +kernel) (by decide +kernel)⟩
theorem fp_X2_7 : kFp RX2 7 2 0 (fun _ => True) := ⟨RX2, TX2, 3, tyX2, rfl, by decide, inkX2, kw_t 87 (by decide +kernel) (by decide +kernel), tyX2_ok, nmX2, rfl, fun _ _ => ⟨rfl, rfl⟩⟩
theorem fl_X2_13 : kFl RX2 13 2 1 := ⟨RX2, TX2, 3, rfl, by decide, inkX2, kw_t 89 (by decide +kernel) (by decide +kernel)⟩
theorem fp_X2_13 : kFp RX2 13 2 1 (fun _ => True) := ⟨RX2, TX2, 3, tyX2, rfl, by decide, inkX2, kw_t 89 (by decide +kernel) (by decide +kernel), tyX2_ok, nmX2, rfl, fun _ _ => ⟨rfl, rfl⟩⟩
theorem fl_X2_18 : kFl RX2 18 2 2 := ⟨RX2, TX2, 3, rfl, by decide, inkX2, kw_t 90 (by decide +kernel) (by decide +kernel)⟩
theorem fl_X3_9 : kFl RX3 9 3 0 := ⟨RX3, TX3, 12, rfl, by decide, inkX3, kw_t 25 (by decide +kernel) (by decide +kernel)⟩
theorem fp_X3_9 : kFp RX3 9 3 0 (fun _ => True) := ⟨RX3, TX3, 12, tyX3, rfl, by decide, inkX3, kw_t 25 (by decide +kernel) (by decide +kernel), tyX3_ok, nmX3, rfl, fun _ _ => ⟨rfl, rfl⟩⟩
theorem fl_X3_15 : kFl RX3 15 3 1 := ⟨RX3, TX3, 12, rfl, by decide, inkX3, kw_t 28 (by decide +kernel) (by decide +kernel)⟩
theorem fp_X3_15 : kFp RX3 15 3 1 (fun _ => True) := ⟨RX3, TX3, 12, tyX3, rfl, by decide, inkX3, kw_t 28 (by decide +kernel) (by decide +kernel), tyX3_ok, nmX3, rfl, fun _ _ => ⟨rfl, rfl⟩⟩
theorem fl_X3_18 : kFl RX3 18 3 2 := ⟨RX3, TX3, 12, rfl, by decide, inkX3, kw_t 32 (by decide +kernel) (by decide +kernel)⟩
theorem fp_X3_18 : kFp RX3 18 3 2 (fun _ => True) := ⟨RX3, TX3, 12, tyX3, rfl, by decide, inkX3, kw_t 32 (by decide +kernel) (by decide +kernel), tyX3_ok, nmX3, rfl, fun _ _ => ⟨rfl, rfl⟩⟩
theorem fl_X3_21 : kFl RX3 21 3 3 := ⟨RX3, TX3, 12, rfl, by decide, inkX3, kw_t 34 (by decide +kernel) (by decide +kernel)⟩
theorem fp_X3_21 : kFp RX3 21 3 3 (fun _ => True) := ⟨RX3, TX3, 12, tyX3, rfl, by decide, inkX3, kw_t 34 (by decide +kernel) (by decide +kernel), tyX3_ok, nmX3, rfl, fun _ _ => ⟨rfl, rfl⟩⟩
theorem fl_X3_24 : kFl RX3 24 3 4 := ⟨RX3, TX3, 12, rfl, by decide, inkX3, kw_t 36 (by decide +kernel) (by decide +kernel)⟩
theorem fl_X3_28 : kFl RX3 28 3 5 := ⟨RX3, TX3, 12, rfl, by decide, inkX3, kw_t 38 (by decide +kernel) (by decide +kernel)⟩
theorem fl_X3_31 : kFl RX3 31 3 6 := ⟨RX3, TX3, 12, rfl, by decide, inkX3, kw_t 40 (by decide +kernel) (by decide +kernel)⟩
theorem fl_X3_34 : kFl RX3 34 3 7 := ⟨RX3, TX3, 12, rfl, by decide, inkX3, kw_t 42 (by decide +kernel) (by decide +kernel)⟩
theorem fl_X3_37 : kFl RX3 37 3 8 := ⟨RX3, TX3, 12, rfl, by decide, inkX3, kw_t 44 (by decide +kernel) (by decide +kernel)⟩
theorem fl_X3_40 : kFl RX3 40 3 9 := ⟨RX3, TX3, 12, rfl, by decide, inkX3, kw_t 47 (by decide +kernel) (by decide +kernel)⟩
theorem fl_X3_43 : kFl RX3 43 3 10 := ⟨RX3, TX3, 12, rfl, by decide, inkX3, kw_t 50 (by decide +kernel) (by decide +kernel)⟩
theorem fl_X3_46 : kFl RX3 46 3 11 := ⟨RX3, TX3, 12, rfl, by decide, inkX3, kw_t 52 (by decide +kernel) (by decide +kernel)⟩
theorem fl_X4_12 : kFl RX4 12 4 0 := ⟨RX4, TX4, 4, rfl, by decide, inkX4, kw_t 122 (by decide +kernel) (by decide +kernel)⟩
theorem fl_X4_18 : kFl RX4 18 4 1 := ⟨RX4, TX4, 4, rfl, by decide, inkX4, kw_t 124 (by decide +kernel) (by decide +kernel)⟩
theorem fl_X4_22 : kFl RX4 22 4 2 := ⟨RX4, TX4, 4, rfl, by decide, inkX4, kw_t 125 (by decide +kernel) (by decide +kernel)⟩
theorem fp_X4_22 : kFp RX4 22 4 2 (fun _ => True) := ⟨RX4, TX4, 4, tyX4, rfl, by decide, inkX4, kw_t 125 (by decide +kernel) (by decide +kernel), tyX4_ok, nmX4, rfl, fun _ _ => ⟨rfl, rfl⟩⟩
theorem fl_X4_26 : kFl RX4 26 4 3 := ⟨RX4, TX4, 4, rfl, by decide, inkX4, kw_t 126 (by decide +kernel) (by decide +kernel)⟩
theorem fp_X4_26 : kFp RX4 26 4 3 (fun _ => True) := ⟨RX4, TX4, 4, tyX4, rfl, by decide, inkX4, kw_t 126 (by decide +kernel) (by decide +kernel), tyX4_ok, nmX4, rfl, fun _ _ => ⟨rfl, rfl⟩⟩
theorem fl_X4_29 : kFl RX4 29 3 0 := ⟨RX3, TX3, 12, rfl, by decide, inkX3, kw_t 27 (by decide +kernel) (by decide +kernel)⟩
theorem fp_X4_29 : kFp RX4 29 3 0 (fun _ => True) := ⟨RX3, TX3, 12, tyX3, rfl, by decide, inkX3, kw_t 27 (by decide +kernel) (by decide +kernel), tyX3_ok, nmX3, rfl, fun _ _ => ⟨rfl, rfl⟩⟩
theorem fl_X4_32 : kFl RX4 32 3 1 := ⟨RX3, TX3, 12, rfl, by decide, inkX3, kw_t 31 (by decide +kernel) (by decide +kernel)⟩
theorem fp_X4_32 : kFp RX4 32 3 1 (fun _ => True) := ⟨RX3, TX3, 12, tyX3, rfl, by decide, inkX3, kw_t 31 (by decide +kernel) (by decide +kernel), tyX3_ok, nmX3, rfl, fun _ _ => ⟨rfl, rfl⟩⟩
theorem fl_X4_77 : kFl RX4 77 3 11 := ⟨RX3, TX3, 12, rfl, by decide, inkX3, kw_t 54 (by decide +kernel) (by decide +kernel)⟩
theorem fl_X6_7 : kFl RX6 7 6 0 := ⟨RX6, TX6, 13, rfl, by decide, inkX6, kw_t 583 (by decide +kernel) (by decide +kernel)⟩
theorem fl_X6_13 : kFl RX6 13 6 2 := ⟨RX6, TX6, 13, rfl, by decide, inkX6, kw_t 585 (by decide +kernel) (by decide +kernel)⟩
theorem fl_X6_16 : kFl RX6 16 6 4 := ⟨RX6, TX6, 13, rfl, by decide, inkX6, kw_t 587 (by decide +kernel) (by decide +kernel)⟩
theorem fl_X6_20 : kFl RX6 20 6 5 := ⟨RX6, TX6, 13, rfl, by decide, inkX6, kw_t 588 (by decide +kernel) (by decide +kernel)⟩
theorem fl_X6_23 : kFl RX6 23 6 6 := ⟨RX6, TX6, 13, rfl, by decide, inkX6, kw_t 589 (by decide +kernel) (by decide +kernel)⟩
theorem fl_X6_26 : kFl RX6 26 6 9 := ⟨RX6, TX6, 13, rfl, by decide, inkX6, kw_t 592 (by decide +kernel) (by decide +kernel)⟩
theorem fl_X6_29 : kFl RX6 29 6 10 := ⟨RX6, TX6, 13, rfl, by decide, inkX6, kw_t 593 (by decide +kernel) (by decide +kernel)⟩
theorem fl_X6_32 : kFl RX6 32 6 11 := ⟨RX6, TX6, 13, rfl, by decide, inkX6, kw_t 594 (by decide +kernel) (by decide +kernel)⟩
theorem fl_X6_35 : kFl RX6 35 6 12 := ⟨RX6, TX6, 13, rfl, by decide, inkX6, kw_t 595 (by decide +kernel) (by decide +kernel)⟩
theorem fl_X6_70 : kFl RX6 70 6 3 := ⟨RX6, TX6, 13, rfl, by decide, inkX6, kw_t 586 (by decide +kernel) (by decide +kernel)⟩
theorem fp_X6_70 : kFp RX6 70 6 3 (fun _ => True) := ⟨RX6, TX6, 13, tyX6, rfl, by decide, inkX6, kw_t 586 (by decide +kernel) (by decide +kernel), tyX6_ok, nmX6, rfl, fun _ _ => ⟨rfl, rfl⟩⟩
theorem fl_X6_74 : kFl RX6 74 6 7 := ⟨RX6, TX6, 13, rfl, by decide, inkX6, kw_t 590 (by decide +kernel) (by decide +kernel)⟩
theorem fp_X6_74 : kFp RX6 74 6 7 (fun _ => True) := ⟨RX6, TX6, 13, tyX6, rfl, by decide, inkX6, kw_t 590 (by decide +kernel) (by decide +kernel), tyX6_ok, nmX6, rfl, fun _ _ => ⟨rfl, rfl⟩⟩
theorem fl_X6_81 : kFl RX6 81 6 8 := ⟨RX6, TX6, 13, rfl, by decide, inkX6, kw_t 591 (by decide +kernel) (by decide +kernel)⟩
theorem fp_X6_81 : kFp RX6 81 6 8 (fun _ => True) := ⟨RX6, TX6, 13, tyX6, rfl, by decide, inkX6, kw_t 591 (by decide +kernel) (by decide +kernel), tyX6_ok, nmX6, rfl, fun _ _ => ⟨rfl, rfl⟩⟩
theorem fl_X6_176 : kFl RX6 176 6 1 := ⟨RX6, TX6, 13, rfl, by decide, inkX6, kw_t 584 (by decide +kernel) (by decide +kernel)⟩
theorem fp_X6_176 : kFp RX6 176 6 1 (fun v => v = 0 ∨ v = 1) := ⟨RX6, TX6, 13, tyX6, rfl, by decide, inkX6, kw_t 584 (by decide +kernel) (by decide +kernel), tyX6_ok, nmX6, rfl, (by intro v hv; rcases hv with rfl | rfl <;> exact ⟨rfl, rfl⟩)⟩
abbrev mX0_begin : kX := (yX0_begin, cX0_begin, 3, none, 3)
theorem fm_X0_begin : kMb mX0_begin 1 := ⟨kw_t 399 (by decide +kernel) (by decide +kernel), kw_t 4 (by decide +kernel) (by decide +kernel), by decide +kernel, by decide⟩
theorem fi_X0_begin : Cond.instanceMethod mX0_begin.1 ∈ kw ∧ Cond.selects mX0_begin.1.cls mX0_begin.1 mX0_begin.1 ∈ kw := ⟨kw_t 397 (by decide +kernel) (by decide +kernel), kw_t 398 (by decide +kernel) (by decide +kernel)⟩
abbrev mX0_rideToForge : kX := (yX0_rideToForge, cX0_rideToForge, 6, some .int, 2)
theorem fm_X0_rideToForge : kMb mX0_rideToForge 2 := ⟨kw_t 412 (by decide +kernel) (by decide +kernel), kw_t 4 (by decide +kernel) (by decide +kernel), by decide +kernel, by decide⟩
theorem fi_X0_rideToForge : Cond.instanceMethod mX0_rideToForge.1 ∈ kw ∧ Cond.selects mX0_rideToForge.1.cls mX0_rideToForge.1 mX0_rideToForge.1 ∈ kw := ⟨kw_t 410 (by decide +kernel) (by decide +kernel), kw_t 411 (by decide +kernel) (by decide +kernel)⟩
abbrev mX0_whoIsFirst : kX := (yX0_whoIsFirst, cX0_whoIsFirst, 5, some .int, 3)
theorem fm_X0_whoIsFirst : kMb mX0_whoIsFirst 0 := ⟨kw_t 432 (by decide +kernel) (by decide +kernel), kw_t 4 (by decide +kernel) (by decide +kernel), by decide +kernel, by decide⟩
theorem fi_X0_whoIsFirst : Cond.instanceMethod mX0_whoIsFirst.1 ∈ kw ∧ Cond.selects mX0_whoIsFirst.1.cls mX0_whoIsFirst.1 mX0_whoIsFirst.1 ∈ kw := ⟨kw_t 430 (by decide +kernel) (by decide +kernel), kw_t 431 (by decide +kernel) (by decide +kernel)⟩
abbrev mX0_cameTo : kX := (yX0_cameTo, cX0_cameTo, 3, some .int, 0)
theorem fm_X0_cameTo : kMb mX0_cameTo 2 := ⟨kw_t 424 (by decide +kernel) (by decide +kernel), kw_t 4 (by decide +kernel) (by decide +kernel), by decide +kernel, by decide⟩
theorem fi_X0_cameTo : Cond.instanceMethod mX0_cameTo.1 ∈ kw ∧ Cond.selects mX0_cameTo.1.cls mX0_cameTo.1 mX0_cameTo.1 ∈ kw := ⟨kw_t 422 (by decide +kernel) (by decide +kernel), kw_t 423 (by decide +kernel) (by decide +kernel)⟩
abbrev mX0_noteWhere : kX := (yX0_noteWhere, cX0_noteWhere, 2, none, 0)
theorem fm_X0_noteWhere : kMb mX0_noteWhere 1 := ⟨kw_t 408 (by decide +kernel) (by decide +kernel), kw_t 4 (by decide +kernel) (by decide +kernel), by decide +kernel, by decide⟩
theorem fi_X0_noteWhere : Cond.instanceMethod mX0_noteWhere.1 ∈ kw ∧ Cond.selects mX0_noteWhere.1.cls mX0_noteWhere.1 mX0_noteWhere.1 ∈ kw := ⟨kw_t 407 (by decide +kernel) (by decide +kernel), kw_l 12 (by decide +kernel) (by decide +kernel)⟩
abbrev mX1_isMissing : kX := (yX1_isMissing, cX1_isMissing, 1, some .boolean, 0)
theorem fm_X1_isMissing : kMb mX1_isMissing 0 := ⟨kw_t 533 (by decide +kernel) (by decide +kernel), kw_t 6 (by decide +kernel) (by decide +kernel), by decide +kernel, by decide⟩
theorem fi_X1_isMissing : Cond.instanceMethod mX1_isMissing.1 ∈ kw ∧ Cond.selects mX1_isMissing.1.cls mX1_isMissing.1 mX1_isMissing.1 ∈ kw := ⟨kw_t 531 (by decide +kernel) (by decide +kernel), kw_t 532 (by decide +kernel) (by decide +kernel)⟩
abbrev mX1_lay : kX := (yX1_lay, cX1_lay, 4, none, 0)
theorem fm_X1_lay : kMb mX1_lay 2 := ⟨kw_t 557 (by decide +kernel) (by decide +kernel), kw_t 6 (by decide +kernel) (by decide +kernel), by decide +kernel, by decide⟩
theorem fi_X1_lay : Cond.instanceMethod mX1_lay.1 ∈ kw ∧ Cond.selects mX1_lay.1.cls mX1_lay.1 mX1_lay.1 ∈ kw := ⟨kw_t 555 (by decide +kernel) (by decide +kernel), kw_t 556 (by decide +kernel) (by decide +kernel)⟩
abbrev mX1_clear : kX := (yX1_clear, cX1_clear, 1, some .int, 0)
theorem fm_X1_clear : kMb mX1_clear 0 := ⟨kw_t 566 (by decide +kernel) (by decide +kernel), kw_t 6 (by decide +kernel) (by decide +kernel), by decide +kernel, by decide⟩
theorem fi_X1_clear : Cond.instanceMethod mX1_clear.1 ∈ kw ∧ Cond.selects mX1_clear.1.cls mX1_clear.1 mX1_clear.1 ∈ kw := ⟨kw_t 564 (by decide +kernel) (by decide +kernel), kw_t 565 (by decide +kernel) (by decide +kernel)⟩
abbrev mX1_holds : kX := (yX1_holds, cX1_holds, 3, some .boolean, 0)
theorem fm_X1_holds : kMb mX1_holds 2 := ⟨kw_t 537 (by decide +kernel) (by decide +kernel), kw_t 6 (by decide +kernel) (by decide +kernel), by decide +kernel, by decide⟩
theorem fi_X1_holds : Cond.instanceMethod mX1_holds.1 ∈ kw ∧ Cond.selects mX1_holds.1.cls mX1_holds.1 mX1_holds.1 ∈ kw := ⟨kw_t 535 (by decide +kernel) (by decide +kernel), kw_t 536 (by decide +kernel) (by decide +kernel)⟩
abbrev mX1_faultOf : kX := (yX1_faultOf, cX1_faultOf, 4, some .int, 1)
theorem fm_X1_faultOf : kMb mX1_faultOf 3 := ⟨kw_t 529 (by decide +kernel) (by decide +kernel), kw_t 6 (by decide +kernel) (by decide +kernel), by decide +kernel, by decide⟩
theorem fi_X1_faultOf : Cond.instanceMethod mX1_faultOf.1 ∈ kw ∧ Cond.selects mX1_faultOf.1.cls mX1_faultOf.1 mX1_faultOf.1 ∈ kw := ⟨kw_t 527 (by decide +kernel) (by decide +kernel), kw_t 528 (by decide +kernel) (by decide +kernel)⟩
abbrev mX1_put : kX := (yX1_put, cX1_put, 4, none, 0)
theorem fm_X1_put : kMb mX1_put 2 := ⟨kw_t 549 (by decide +kernel) (by decide +kernel), kw_t 6 (by decide +kernel) (by decide +kernel), by decide +kernel, by decide⟩
theorem fi_X1_put : Cond.instanceMethod mX1_put.1 ∈ kw ∧ Cond.selects mX1_put.1.cls mX1_put.1 mX1_put.1 ∈ kw := ⟨kw_t 547 (by decide +kernel) (by decide +kernel), kw_t 548 (by decide +kernel) (by decide +kernel)⟩
abbrev mX2_forget : kX := (yX2_forget, cX2_forget, 1, none, 0)
theorem fm_X2_forget : kMb mX2_forget 0 := ⟨kw_t 197 (by decide +kernel) (by decide +kernel), kw_t 3 (by decide +kernel) (by decide +kernel), by decide +kernel, by decide⟩
theorem fi_X2_forget : Cond.instanceMethod mX2_forget.1 ∈ kw ∧ Cond.selects mX2_forget.1.cls mX2_forget.1 mX2_forget.1 ∈ kw := ⟨kw_t 195 (by decide +kernel) (by decide +kernel), kw_t 196 (by decide +kernel) (by decide +kernel)⟩
abbrev mX2_mark : kX := (yX2_mark, cX2_mark, 2, none, 2)
theorem fm_X2_mark : kMb mX2_mark 1 := ⟨kw_t 333 (by decide +kernel) (by decide +kernel), kw_t 3 (by decide +kernel) (by decide +kernel), by decide +kernel, by decide⟩
theorem fi_X2_mark : Cond.instanceMethod mX2_mark.1 ∈ kw ∧ Cond.selects mX2_mark.1.cls mX2_mark.1 mX2_mark.1 ∈ kw := ⟨kw_t 331 (by decide +kernel) (by decide +kernel), kw_t 332 (by decide +kernel) (by decide +kernel)⟩
abbrev mX2_goBack : kX := (yX2_goBack, cX2_goBack, 2, none, 2)
theorem fm_X2_goBack : kMb mX2_goBack 1 := ⟨kw_t 380 (by decide +kernel) (by decide +kernel), kw_t 3 (by decide +kernel) (by decide +kernel), by decide +kernel, by decide⟩
theorem fi_X2_goBack : Cond.instanceMethod mX2_goBack.1 ∈ kw ∧ Cond.selects mX2_goBack.1.cls mX2_goBack.1 mX2_goBack.1 ∈ kw := ⟨kw_t 378 (by decide +kernel) (by decide +kernel), kw_t 379 (by decide +kernel) (by decide +kernel)⟩
abbrev mX2_takeAll : kX := (yX2_takeAll, cX2_takeAll, 2, none, 1)
theorem fm_X2_takeAll : kMb mX2_takeAll 1 := ⟨kw_t 506 (by decide +kernel) (by decide +kernel), kw_t 3 (by decide +kernel) (by decide +kernel), by decide +kernel, by decide⟩
theorem fi_X2_takeAll : Cond.instanceMethod mX2_takeAll.1 ∈ kw ∧ Cond.selects mX2_takeAll.1.cls mX2_takeAll.1 mX2_takeAll.1 ∈ kw := ⟨kw_t 504 (by decide +kernel) (by decide +kernel), kw_t 505 (by decide +kernel) (by decide +kernel)⟩
abbrev mX3_takeAll : kX := (yX3_takeAll, cX3_takeAll, 2, none, 2)
theorem fm_X3_takeAll : kMb mX3_takeAll 1 := ⟨kw_t 403 (by decide +kernel) (by decide +kernel), kw_t 2 (by decide +kernel) (by decide +kernel), by decide +kernel, by decide⟩
theorem fi_X3_takeAll : Cond.instanceMethod mX3_takeAll.1 ∈ kw ∧ Cond.selects mX3_takeAll.1.cls mX3_takeAll.1 mX3_takeAll.1 ∈ kw := ⟨kw_t 401 (by decide +kernel) (by decide +kernel), kw_t 402 (by decide +kernel) (by decide +kernel)⟩
abbrev mX3_takeRoad : kX := (yX3_takeRoad, cX3_takeRoad, 2, none, 1)
theorem fm_X3_takeRoad : kMb mX3_takeRoad 1 := ⟨kw_t 306 (by decide +kernel) (by decide +kernel), kw_t 2 (by decide +kernel) (by decide +kernel), by decide +kernel, by decide⟩
theorem fi_X3_takeRoad : Cond.instanceMethod mX3_takeRoad.1 ∈ kw ∧ Cond.selects mX3_takeRoad.1.cls mX3_takeRoad.1 mX3_takeRoad.1 ∈ kw := ⟨kw_t 304 (by decide +kernel) (by decide +kernel), kw_t 305 (by decide +kernel) (by decide +kernel)⟩
abbrev mX3_writeMoving : kX := (yX3_writeMoving, cX3_writeMoving, 3, none, 1)
theorem fm_X3_writeMoving : kMb mX3_writeMoving 2 := ⟨kw_t 337 (by decide +kernel) (by decide +kernel), kw_t 2 (by decide +kernel) (by decide +kernel), by decide +kernel, by decide⟩
theorem fi_X3_writeMoving : Cond.instanceMethod mX3_writeMoving.1 ∈ kw ∧ Cond.selects mX3_writeMoving.1.cls mX3_writeMoving.1 mX3_writeMoving.1 ∈ kw := ⟨kw_t 335 (by decide +kernel) (by decide +kernel), kw_t 336 (by decide +kernel) (by decide +kernel)⟩
abbrev mX3_readMoving : kX := (yX3_readMoving, cX3_readMoving, 3, none, 1)
theorem fm_X3_readMoving : kMb mX3_readMoving 2 := ⟨kw_t 384 (by decide +kernel) (by decide +kernel), kw_t 2 (by decide +kernel) (by decide +kernel), by decide +kernel, by decide⟩
theorem fi_X3_readMoving : Cond.instanceMethod mX3_readMoving.1 ∈ kw ∧ Cond.selects mX3_readMoving.1.cls mX3_readMoving.1 mX3_readMoving.1 ∈ kw := ⟨kw_t 382 (by decide +kernel) (by decide +kernel), kw_t 383 (by decide +kernel) (by decide +kernel)⟩
abbrev mX3_addStage : kX := (yX3_addStage, cX3_addStage, 4, some .int, 0)
theorem fm_X3_addStage : kMb mX3_addStage 3 := ⟨kw_t 201 (by decide +kernel) (by decide +kernel), kw_t 2 (by decide +kernel) (by decide +kernel), by decide +kernel, by decide⟩
theorem fi_X3_addStage : Cond.instanceMethod mX3_addStage.1 ∈ kw ∧ Cond.selects mX3_addStage.1.cls mX3_addStage.1 mX3_addStage.1 ∈ kw := ⟨kw_t 199 (by decide +kernel) (by decide +kernel), kw_t 200 (by decide +kernel) (by decide +kernel)⟩
abbrev mX3_addRider : kX := (yX3_addRider, cX3_addRider, 4, some .int, 0)
theorem fm_X3_addRider : kMb mX3_addRider 3 := ⟨kw_t 209 (by decide +kernel) (by decide +kernel), kw_t 2 (by decide +kernel) (by decide +kernel), by decide +kernel, by decide⟩
theorem fi_X3_addRider : Cond.instanceMethod mX3_addRider.1 ∈ kw ∧ Cond.selects mX3_addRider.1.cls mX3_addRider.1 mX3_addRider.1 ∈ kw := ⟨kw_t 207 (by decide +kernel) (by decide +kernel), kw_t 208 (by decide +kernel) (by decide +kernel)⟩
abbrev mX3_isThere : kX := (yX3_isThere, cX3_isThere, 2, some .boolean, 0)
theorem fm_X3_isThere : kMb mX3_isThere 1 := ⟨kw_t 229 (by decide +kernel) (by decide +kernel), kw_t 2 (by decide +kernel) (by decide +kernel), by decide +kernel, by decide⟩
theorem fi_X3_isThere : Cond.instanceMethod mX3_isThere.1 ∈ kw ∧ Cond.selects mX3_isThere.1.cls mX3_isThere.1 mX3_isThere.1 ∈ kw := ⟨kw_t 227 (by decide +kernel) (by decide +kernel), kw_t 228 (by decide +kernel) (by decide +kernel)⟩
abbrev mX3_whoIsThere : kX := (yX3_whoIsThere, cX3_whoIsThere, 3, some .int, 1)
theorem fm_X3_whoIsThere : kMb mX3_whoIsThere 0 := ⟨kw_t 317 (by decide +kernel) (by decide +kernel), kw_t 2 (by decide +kernel) (by decide +kernel), by decide +kernel, by decide⟩
theorem fi_X3_whoIsThere : Cond.instanceMethod mX3_whoIsThere.1 ∈ kw ∧ Cond.selects mX3_whoIsThere.1.cls mX3_whoIsThere.1 mX3_whoIsThere.1 ∈ kw := ⟨kw_t 315 (by decide +kernel) (by decide +kernel), kw_t 316 (by decide +kernel) (by decide +kernel)⟩
abbrev mX3_whoRides : kX := (yX3_whoRides, cX3_whoRides, 3, some .int, 1)
theorem fm_X3_whoRides : kMb mX3_whoRides 0 := ⟨kw_t 322 (by decide +kernel) (by decide +kernel), kw_t 2 (by decide +kernel) (by decide +kernel), by decide +kernel, by decide⟩
theorem fi_X3_whoRides : Cond.instanceMethod mX3_whoRides.1 ∈ kw ∧ Cond.selects mX3_whoRides.1.cls mX3_whoRides.1 mX3_whoRides.1 ∈ kw := ⟨kw_t 320 (by decide +kernel) (by decide +kernel), kw_t 321 (by decide +kernel) (by decide +kernel)⟩
abbrev mX3_rideStage : kX := (yX3_rideStage, cX3_rideStage, 5, none, 1)
theorem fm_X3_rideStage : kMb mX3_rideStage 2 := ⟨kw_t 344 (by decide +kernel) (by decide +kernel), kw_t 2 (by decide +kernel) (by decide +kernel), by decide +kernel, by decide⟩
theorem fi_X3_rideStage : Cond.instanceMethod mX3_rideStage.1 ∈ kw ∧ Cond.selects mX3_rideStage.1.cls mX3_rideStage.1 mX3_rideStage.1 ∈ kw := ⟨kw_t 342 (by decide +kernel) (by decide +kernel), kw_t 343 (by decide +kernel) (by decide +kernel)⟩
abbrev mX3_drawWheel : kX := (yX3_drawWheel, cX3_drawWheel, 1, some .boolean, 0)
theorem fm_X3_drawWheel : kMb mX3_drawWheel 0 := ⟨kw_t 369 (by decide +kernel) (by decide +kernel), kw_t 2 (by decide +kernel) (by decide +kernel), by decide +kernel, by decide⟩
theorem fi_X3_drawWheel : Cond.instanceMethod mX3_drawWheel.1 ∈ kw ∧ Cond.selects mX3_drawWheel.1.cls mX3_drawWheel.1 mX3_drawWheel.1 ∈ kw := ⟨kw_t 367 (by decide +kernel) (by decide +kernel), kw_t 368 (by decide +kernel) (by decide +kernel)⟩
abbrev mX4_isFull : kX := (yX4_isFull, cX4_isFull, 1, some .boolean, 0)
theorem fm_X4_isFull : kMb mX4_isFull 0 := ⟨kw_t 248 (by decide +kernel) (by decide +kernel), kw_t 5 (by decide +kernel) (by decide +kernel), by decide +kernel, by decide⟩
theorem fi_X4_isFull : Cond.instanceMethod mX4_isFull.1 ∈ kw ∧ Cond.selects mX4_isFull.1.cls mX4_isFull.1 mX4_isFull.1 ∈ kw := ⟨kw_t 246 (by decide +kernel) (by decide +kernel), kw_t 247 (by decide +kernel) (by decide +kernel)⟩
abbrev mX4_append : kX := (yX4_append, cX4_append, 2, some .int, 0)
theorem fm_X4_append : kMb mX4_append 1 := ⟨kw_t 252 (by decide +kernel) (by decide +kernel), kw_t 5 (by decide +kernel) (by decide +kernel), by decide +kernel, by decide⟩
theorem fi_X4_append : Cond.instanceMethod mX4_append.1 ∈ kw ∧ Cond.selects mX4_append.1.cls mX4_append.1 mX4_append.1 ∈ kw := ⟨kw_t 250 (by decide +kernel) (by decide +kernel), kw_t 251 (by decide +kernel) (by decide +kernel)⟩
abbrev mX4_readRoad : kX := (yX4_readRoad, cX4_readRoad, 2, some .int, 5)
theorem fm_X4_readRoad : kMb mX4_readRoad 0 := ⟨kw_t 260 (by decide +kernel) (by decide +kernel), kw_t 5 (by decide +kernel) (by decide +kernel), by decide +kernel, by decide⟩
theorem fi_X4_readRoad : Cond.instanceMethod mX4_readRoad.1 ∈ kw ∧ Cond.selects mX4_readRoad.1.cls mX4_readRoad.1 mX4_readRoad.1 ∈ kw := ⟨kw_t 258 (by decide +kernel) (by decide +kernel), kw_t 259 (by decide +kernel) (by decide +kernel)⟩
abbrev mX4_readStages : kX := (yX4_readStages, cX4_readStages, 2, some .boolean, 3)
theorem fm_X4_readStages : kMb mX4_readStages 0 := ⟨kw_t 264 (by decide +kernel) (by decide +kernel), kw_t 5 (by decide +kernel) (by decide +kernel), by decide +kernel, by decide⟩
theorem fi_X4_readStages : Cond.instanceMethod mX4_readStages.1 ∈ kw ∧ Cond.selects mX4_readStages.1.cls mX4_readStages.1 mX4_readStages.1 ∈ kw := ⟨kw_t 263 (by decide +kernel) (by decide +kernel), kw_l 2 (by decide +kernel) (by decide +kernel)⟩
abbrev mX4_readStage : kX := (yX4_readStage, cX4_readStage, 4, some .boolean, 2)
theorem fm_X4_readStage : kMb mX4_readStage 0 := ⟨kw_t 268 (by decide +kernel) (by decide +kernel), kw_t 5 (by decide +kernel) (by decide +kernel), by decide +kernel, by decide⟩
theorem fi_X4_readStage : Cond.instanceMethod mX4_readStage.1 ∈ kw ∧ Cond.selects mX4_readStage.1.cls mX4_readStage.1 mX4_readStage.1 ∈ kw := ⟨kw_t 267 (by decide +kernel) (by decide +kernel), kw_l 3 (by decide +kernel) (by decide +kernel)⟩
abbrev mX4_readRiders : kX := (yX4_readRiders, cX4_readRiders, 2, some .boolean, 4)
theorem fm_X4_readRiders : kMb mX4_readRiders 0 := ⟨kw_t 286 (by decide +kernel) (by decide +kernel), kw_t 5 (by decide +kernel) (by decide +kernel), by decide +kernel, by decide⟩
theorem fi_X4_readRiders : Cond.instanceMethod mX4_readRiders.1 ∈ kw ∧ Cond.selects mX4_readRiders.1.cls mX4_readRiders.1 mX4_readRiders.1 ∈ kw := ⟨kw_t 285 (by decide +kernel) (by decide +kernel), kw_l 7 (by decide +kernel) (by decide +kernel)⟩
abbrev mX4_readRider : kX := (yX4_readRider, cX4_readRider, 5, some .boolean, 3)
theorem fm_X4_readRider : kMb mX4_readRider 0 := ⟨kw_t 290 (by decide +kernel) (by decide +kernel), kw_t 5 (by decide +kernel) (by decide +kernel), by decide +kernel, by decide⟩
theorem fi_X4_readRider : Cond.instanceMethod mX4_readRider.1 ∈ kw ∧ Cond.selects mX4_readRider.1.cls mX4_readRider.1 mX4_readRider.1 ∈ kw := ⟨kw_t 289 (by decide +kernel) (by decide +kernel), kw_l 8 (by decide +kernel) (by decide +kernel)⟩
abbrev mX4_readBuying : kX := (yX4_readBuying, cX4_readBuying, 6, some .boolean, 2)
theorem fm_X4_readBuying : kMb mX4_readBuying 1 := ⟨kw_t 302 (by decide +kernel) (by decide +kernel), kw_t 5 (by decide +kernel) (by decide +kernel), by decide +kernel, by decide⟩
theorem fi_X4_readBuying : Cond.instanceMethod mX4_readBuying.1 ∈ kw ∧ Cond.selects mX4_readBuying.1.cls mX4_readBuying.1 mX4_readBuying.1 ∈ kw := ⟨kw_t 301 (by decide +kernel) (by decide +kernel), kw_l 10 (by decide +kernel) (by decide +kernel)⟩
abbrev mX4_readDigit : kX := (yX4_readDigit, cX4_readDigit, 4, some .int, 1)
theorem fm_X4_readDigit : kMb mX4_readDigit 2 := ⟨kw_t 272 (by decide +kernel) (by decide +kernel), kw_t 5 (by decide +kernel) (by decide +kernel), by decide +kernel, by decide⟩
theorem fi_X4_readDigit : Cond.instanceMethod mX4_readDigit.1 ∈ kw ∧ Cond.selects mX4_readDigit.1.cls mX4_readDigit.1 mX4_readDigit.1 ∈ kw := ⟨kw_t 271 (by decide +kernel) (by decide +kernel), kw_l 4 (by decide +kernel) (by decide +kernel)⟩
abbrev mX4_readNumber : kX := (yX4_readNumber, cX4_readNumber, 5, some .int, 2)
theorem fm_X4_readNumber : kMb mX4_readNumber 1 := ⟨kw_t 297 (by decide +kernel) (by decide +kernel), kw_t 5 (by decide +kernel) (by decide +kernel), by decide +kernel, by decide⟩
theorem fi_X4_readNumber : Cond.instanceMethod mX4_readNumber.1 ∈ kw ∧ Cond.selects mX4_readNumber.1.cls mX4_readNumber.1 mX4_readNumber.1 ∈ kw := ⟨kw_t 296 (by decide +kernel) (by decide +kernel), kw_l 9 (by decide +kernel) (by decide +kernel)⟩
abbrev mX4_takes : kX := (yX4_takes, cX4_takes, 2, some .boolean, 1)
theorem fm_X4_takes : kMb mX4_takes 1 := ⟨kw_t 282 (by decide +kernel) (by decide +kernel), kw_t 5 (by decide +kernel) (by decide +kernel), by decide +kernel, by decide⟩
theorem fi_X4_takes : Cond.instanceMethod mX4_takes.1 ∈ kw ∧ Cond.selects mX4_takes.1.cls mX4_takes.1 mX4_takes.1 ∈ kw := ⟨kw_t 281 (by decide +kernel) (by decide +kernel), kw_l 6 (by decide +kernel) (by decide +kernel)⟩
abbrev mX4_letterHere : kX := (yX4_letterHere, cX4_letterHere, 1, some .int, 0)
theorem fm_X4_letterHere : kMb mX4_letterHere 0 := ⟨kw_t 276 (by decide +kernel) (by decide +kernel), kw_t 5 (by decide +kernel) (by decide +kernel), by decide +kernel, by decide⟩
theorem fi_X4_letterHere : Cond.instanceMethod mX4_letterHere.1 ∈ kw ∧ Cond.selects mX4_letterHere.1.cls mX4_letterHere.1 mX4_letterHere.1 ∈ kw := ⟨kw_t 275 (by decide +kernel) (by decide +kernel), kw_l 5 (by decide +kernel) (by decide +kernel)⟩
abbrev mX4_kindOf : kX := (yX4_kindOf, cX4_kindOf, 1, some .int, 0)
theorem fm_X4_kindOf : kMb mX4_kindOf 1 := ⟨kw_t 293 (by decide +kernel) (by decide +kernel), kw_t 5 (by decide +kernel) (by decide +kernel), by decide +kernel, by decide⟩
theorem fs_X4_kindOf : Cond.static mX4_kindOf.1 ∈ kw := kw_t 292 (by decide +kernel) (by decide +kernel)
abbrev mX5_stage : kX := (yX5_stage, cX5_stage, 4, some .int, 1)
theorem fm_X5_stage : kMb mX5_stage 3 := ⟨kw_t 190 (by decide +kernel) (by decide +kernel), kw_t 1 (by decide +kernel) (by decide +kernel), by decide +kernel, by decide⟩
theorem fi_X5_stage : Cond.instanceMethod mX5_stage.1 ∈ kw ∧ Cond.selects mX5_stage.1.cls mX5_stage.1 mX5_stage.1 ∈ kw := ⟨kw_t 188 (by decide +kernel) (by decide +kernel), kw_t 189 (by decide +kernel) (by decide +kernel)⟩
abbrev mX5_rider : kX := (yX5_rider, cX5_rider, 4, some .int, 1)
theorem fm_X5_rider : kMb mX5_rider 3 := ⟨kw_t 205 (by decide +kernel) (by decide +kernel), kw_t 1 (by decide +kernel) (by decide +kernel), by decide +kernel, by decide⟩
theorem fi_X5_rider : Cond.instanceMethod mX5_rider.1 ∈ kw ∧ Cond.selects mX5_rider.1.cls mX5_rider.1 mX5_rider.1 ∈ kw := ⟨kw_t 203 (by decide +kernel) (by decide +kernel), kw_t 204 (by decide +kernel) (by decide +kernel)⟩
abbrev mX5_of : kX := (yX5_of, cX5_of, 3, some .int, 1)
theorem fm_X5_of : kMb mX5_of 2 := ⟨kw_t 213 (by decide +kernel) (by decide +kernel), kw_t 1 (by decide +kernel) (by decide +kernel), by decide +kernel, by decide⟩
theorem fi_X5_of : Cond.instanceMethod mX5_of.1 ∈ kw ∧ Cond.selects mX5_of.1.cls mX5_of.1 mX5_of.1 ∈ kw := ⟨kw_t 211 (by decide +kernel) (by decide +kernel), kw_t 212 (by decide +kernel) (by decide +kernel)⟩
abbrev mX5_at : kX := (yX5_at, cX5_at, 3, some .int, 2)
theorem fm_X5_at : kMb mX5_at 2 := ⟨kw_t 217 (by decide +kernel) (by decide +kernel), kw_t 1 (by decide +kernel) (by decide +kernel), by decide +kernel, by decide⟩
theorem fi_X5_at : Cond.instanceMethod mX5_at.1 ∈ kw ∧ Cond.selects mX5_at.1.cls mX5_at.1 mX5_at.1 ∈ kw := ⟨kw_t 215 (by decide +kernel) (by decide +kernel), kw_t 216 (by decide +kernel) (by decide +kernel)⟩
abbrev mX5_buys : kX := (yX5_buys, cX5_buys, 4, some .int, 2)
theorem fm_X5_buys : kMb mX5_buys 2 := ⟨kw_t 236 (by decide +kernel) (by decide +kernel), kw_t 1 (by decide +kernel) (by decide +kernel), by decide +kernel, by decide⟩
theorem fi_X5_buys : Cond.instanceMethod mX5_buys.1 ∈ kw ∧ Cond.selects mX5_buys.1.cls mX5_buys.1 mX5_buys.1 ∈ kw := ⟨kw_t 234 (by decide +kernel) (by decide +kernel), kw_t 235 (by decide +kernel) (by decide +kernel)⟩
abbrev mX5_price : kX := (yX5_price, cX5_price, 3, some .int, 1)
theorem fm_X5_price : kMb mX5_price 1 := ⟨kw_t 240 (by decide +kernel) (by decide +kernel), kw_t 1 (by decide +kernel) (by decide +kernel), by decide +kernel, by decide⟩
theorem fi_X5_price : Cond.instanceMethod mX5_price.1 ∈ kw ∧ Cond.selects mX5_price.1.cls mX5_price.1 mX5_price.1 ∈ kw := ⟨kw_t 238 (by decide +kernel) (by decide +kernel), kw_t 239 (by decide +kernel) (by decide +kernel)⟩
abbrev mX5_type : kX := (yX5_type, cX5_type, 2, some .int, 1)
theorem fm_X5_type : kMb mX5_type 1 := ⟨kw_t 244 (by decide +kernel) (by decide +kernel), kw_t 1 (by decide +kernel) (by decide +kernel), by decide +kernel, by decide⟩
theorem fi_X5_type : Cond.instanceMethod mX5_type.1 ∈ kw ∧ Cond.selects mX5_type.1.cls mX5_type.1 mX5_type.1 ∈ kw := ⟨kw_t 242 (by decide +kernel) (by decide +kernel), kw_t 243 (by decide +kernel) (by decide +kernel)⟩
abbrev mX5_road : kX := (yX5_road, cX5_road, 2, some .int, 6)
theorem fm_X5_road : kMb mX5_road 0 := ⟨kw_t 256 (by decide +kernel) (by decide +kernel), kw_t 1 (by decide +kernel) (by decide +kernel), by decide +kernel, by decide⟩
theorem fi_X5_road : Cond.instanceMethod mX5_road.1 ∈ kw ∧ Cond.selects mX5_road.1.cls mX5_road.1 mX5_road.1 ∈ kw := ⟨kw_t 254 (by decide +kernel) (by decide +kernel), kw_t 255 (by decide +kernel) (by decide +kernel)⟩
abbrev mX5_count : kX := (yX5_count, cX5_count, 2, some .int, 2)
theorem fm_X5_count : kMb mX5_count 1 := ⟨kw_t 313 (by decide +kernel) (by decide +kernel), kw_t 1 (by decide +kernel) (by decide +kernel), by decide +kernel, by decide⟩
theorem fi_X5_count : Cond.instanceMethod mX5_count.1 ∈ kw ∧ Cond.selects mX5_count.1.cls mX5_count.1 mX5_count.1 ∈ kw := ⟨kw_t 311 (by decide +kernel) (by decide +kernel), kw_t 312 (by decide +kernel) (by decide +kernel)⟩
abbrev mX5_ride : kX := (yX5_ride, cX5_ride, 5, some .int, 3)
theorem fm_X5_ride : kMb mX5_ride 1 := ⟨kw_t 329 (by decide +kernel) (by decide +kernel), kw_t 1 (by decide +kernel) (by decide +kernel), by decide +kernel, by decide⟩
theorem fi_X5_ride : Cond.instanceMethod mX5_ride.1 ∈ kw ∧ Cond.selects mX5_ride.1.cls mX5_ride.1 mX5_ride.1 ∈ kw := ⟨kw_t 327 (by decide +kernel) (by decide +kernel), kw_t 328 (by decide +kernel) (by decide +kernel)⟩
abbrev mX5_wheel : kX := (yX5_wheel, cX5_wheel, 2, some .int, 3)
theorem fm_X5_wheel : kMb mX5_wheel 1 := ⟨kw_t 352 (by decide +kernel) (by decide +kernel), kw_t 1 (by decide +kernel) (by decide +kernel), by decide +kernel, by decide⟩
theorem fi_X5_wheel : Cond.instanceMethod mX5_wheel.1 ∈ kw ∧ Cond.selects mX5_wheel.1.cls mX5_wheel.1 mX5_wheel.1 ∈ kw := ⟨kw_t 350 (by decide +kernel) (by decide +kernel), kw_t 351 (by decide +kernel) (by decide +kernel)⟩
abbrev mX5_give : kX := (yX5_give, cX5_give, 4, some .int, 3)
theorem fm_X5_give : kMb mX5_give 3 := ⟨kw_t 356 (by decide +kernel) (by decide +kernel), kw_t 1 (by decide +kernel) (by decide +kernel), by decide +kernel, by decide⟩
theorem fi_X5_give : Cond.instanceMethod mX5_give.1 ∈ kw ∧ Cond.selects mX5_give.1.cls mX5_give.1 mX5_give.1 ∈ kw := ⟨kw_t 354 (by decide +kernel) (by decide +kernel), kw_t 355 (by decide +kernel) (by decide +kernel)⟩
abbrev mX5_drift : kX := (yX5_drift, cX5_drift, 6, some .int, 3)
theorem fm_X5_drift : kMb mX5_drift 1 := ⟨kw_t 365 (by decide +kernel) (by decide +kernel), kw_t 1 (by decide +kernel) (by decide +kernel), by decide +kernel, by decide⟩
theorem fi_X5_drift : Cond.instanceMethod mX5_drift.1 ∈ kw ∧ Cond.selects mX5_drift.1.cls mX5_drift.1 mX5_drift.1 ∈ kw := ⟨kw_t 363 (by decide +kernel) (by decide +kernel), kw_t 364 (by decide +kernel) (by decide +kernel)⟩
abbrev mX5_undo : kX := (yX5_undo, cX5_undo, 1, some .int, 3)
theorem fm_X5_undo : kMb mX5_undo 0 := ⟨kw_t 376 (by decide +kernel) (by decide +kernel), kw_t 1 (by decide +kernel) (by decide +kernel), by decide +kernel, by decide⟩
theorem fi_X5_undo : Cond.instanceMethod mX5_undo.1 ∈ kw ∧ Cond.selects mX5_undo.1.cls mX5_undo.1 mX5_undo.1 ∈ kw := ⟨kw_t 374 (by decide +kernel) (by decide +kernel), kw_t 375 (by decide +kernel) (by decide +kernel)⟩
abbrev mX5_seed : kX := (yX5_seed, cX5_seed, 3, some .int, 0)
theorem fm_X5_seed : kMb mX5_seed 1 := ⟨kw_t 388 (by decide +kernel) (by decide +kernel), kw_t 1 (by decide +kernel) (by decide +kernel), by decide +kernel, by decide⟩
theorem fi_X5_seed : Cond.instanceMethod mX5_seed.1 ∈ kw ∧ Cond.selects mX5_seed.1.cls mX5_seed.1 mX5_seed.1 ∈ kw := ⟨kw_t 386 (by decide +kernel) (by decide +kernel), kw_t 387 (by decide +kernel) (by decide +kernel)⟩
abbrev mX5_ahead : kX := (yX5_ahead, cX5_ahead, 4, some .int, 4)
theorem fm_X5_ahead : kMb mX5_ahead 2 := ⟨kw_t 392 (by decide +kernel) (by decide +kernel), kw_t 1 (by decide +kernel) (by decide +kernel), by decide +kernel, by decide⟩
theorem fi_X5_ahead : Cond.instanceMethod mX5_ahead.1 ∈ kw ∧ Cond.selects mX5_ahead.1.cls mX5_ahead.1 mX5_ahead.1 ∈ kw := ⟨kw_t 390 (by decide +kernel) (by decide +kernel), kw_t 391 (by decide +kernel) (by decide +kernel)⟩
abbrev mX5_comes : kX := (yX5_comes, cX5_comes, 3, some .int, 4)
theorem fm_X5_comes : kMb mX5_comes 2 := ⟨kw_t 420 (by decide +kernel) (by decide +kernel), kw_t 1 (by decide +kernel) (by decide +kernel), by decide +kernel, by decide⟩
theorem fi_X5_comes : Cond.instanceMethod mX5_comes.1 ∈ kw ∧ Cond.selects mX5_comes.1.cls mX5_comes.1 mX5_comes.1 ∈ kw := ⟨kw_t 418 (by decide +kernel) (by decide +kernel), kw_t 419 (by decide +kernel) (by decide +kernel)⟩
abbrev mX5_first : kX := (yX5_first, cX5_first, 1, some .int, 4)
theorem fm_X5_first : kMb mX5_first 0 := ⟨kw_t 428 (by decide +kernel) (by decide +kernel), kw_t 1 (by decide +kernel) (by decide +kernel), by decide +kernel, by decide⟩
theorem fi_X5_first : Cond.instanceMethod mX5_first.1 ∈ kw ∧ Cond.selects mX5_first.1.cls mX5_first.1 mX5_first.1 ∈ kw := ⟨kw_t 426 (by decide +kernel) (by decide +kernel), kw_t 427 (by decide +kernel) (by decide +kernel)⟩
abbrev mX5_caught : kX := (yX5_caught, cX5_caught, 5, some .int, 4)
theorem fm_X5_caught : kMb mX5_caught 2 := ⟨kw_t 437 (by decide +kernel) (by decide +kernel), kw_t 1 (by decide +kernel) (by decide +kernel), by decide +kernel, by decide⟩
theorem fi_X5_caught : Cond.instanceMethod mX5_caught.1 ∈ kw ∧ Cond.selects mX5_caught.1.cls mX5_caught.1 mX5_caught.1 ∈ kw := ⟨kw_t 435 (by decide +kernel) (by decide +kernel), kw_t 436 (by decide +kernel) (by decide +kernel)⟩
abbrev mX5_best : kX := (yX5_best, cX5_best, 4, some .int, 6)
theorem fm_X5_best : kMb mX5_best 2 := ⟨kw_t 444 (by decide +kernel) (by decide +kernel), kw_t 1 (by decide +kernel) (by decide +kernel), by decide +kernel, by decide⟩
theorem fi_X5_best : Cond.instanceMethod mX5_best.1 ∈ kw ∧ Cond.selects mX5_best.1.cls mX5_best.1 mX5_best.1 ∈ kw := ⟨kw_t 442 (by decide +kernel) (by decide +kernel), kw_t 443 (by decide +kernel) (by decide +kernel)⟩
abbrev mX5_earlier : kX := (yX5_earlier, cX5_earlier, 5, some .int, 4)
theorem fm_X5_earlier : kMb mX5_earlier 2 := ⟨kw_t 462 (by decide +kernel) (by decide +kernel), kw_t 1 (by decide +kernel) (by decide +kernel), by decide +kernel, by decide⟩
theorem fi_X5_earlier : Cond.instanceMethod mX5_earlier.1 ∈ kw ∧ Cond.selects mX5_earlier.1.cls mX5_earlier.1 mX5_earlier.1 ∈ kw := ⟨kw_t 460 (by decide +kernel) (by decide +kernel), kw_t 461 (by decide +kernel) (by decide +kernel)⟩
abbrev mX5_purse : kX := (yX5_purse, cX5_purse, 4, some .int, 4)
theorem fm_X5_purse : kMb mX5_purse 2 := ⟨kw_t 466 (by decide +kernel) (by decide +kernel), kw_t 1 (by decide +kernel) (by decide +kernel), by decide +kernel, by decide⟩
theorem fi_X5_purse : Cond.instanceMethod mX5_purse.1 ∈ kw ∧ Cond.selects mX5_purse.1.cls mX5_purse.1 mX5_purse.1 ∈ kw := ⟨kw_t 464 (by decide +kernel) (by decide +kernel), kw_t 465 (by decide +kernel) (by decide +kernel)⟩
abbrev mX5_loosened : kX := (yX5_loosened, cX5_loosened, 7, some .int, 4)
theorem fm_X5_loosened : kMb mX5_loosened 2 := ⟨kw_t 470 (by decide +kernel) (by decide +kernel), kw_t 1 (by decide +kernel) (by decide +kernel), by decide +kernel, by decide⟩
theorem fi_X5_loosened : Cond.instanceMethod mX5_loosened.1 ∈ kw ∧ Cond.selects mX5_loosened.1.cls mX5_loosened.1 mX5_loosened.1 ∈ kw := ⟨kw_t 468 (by decide +kernel) (by decide +kernel), kw_t 469 (by decide +kernel) (by decide +kernel)⟩
abbrev mX5_duel : kX := (yX5_duel, cX5_duel, 8, some .int, 5)
theorem fm_X5_duel : kMb mX5_duel 3 := ⟨kw_t 474 (by decide +kernel) (by decide +kernel), kw_t 1 (by decide +kernel) (by decide +kernel), by decide +kernel, by decide⟩
theorem fi_X5_duel : Cond.instanceMethod mX5_duel.1 ∈ kw ∧ Cond.selects mX5_duel.1.cls mX5_duel.1 mX5_duel.1 ∈ kw := ⟨kw_t 472 (by decide +kernel) (by decide +kernel), kw_t 473 (by decide +kernel) (by decide +kernel)⟩
abbrev mX5_luck : kX := (yX5_luck, cX5_luck, 9, some .int, 5)
theorem fm_X5_luck : kMb mX5_luck 3 := ⟨kw_t 486 (by decide +kernel) (by decide +kernel), kw_t 1 (by decide +kernel) (by decide +kernel), by decide +kernel, by decide⟩
theorem fi_X5_luck : Cond.instanceMethod mX5_luck.1 ∈ kw ∧ Cond.selects mX5_luck.1.cls mX5_luck.1 mX5_luck.1 ∈ kw := ⟨kw_t 484 (by decide +kernel) (by decide +kernel), kw_t 485 (by decide +kernel) (by decide +kernel)⟩
abbrev mX5_image : kX := (yX5_image, cX5_image, 1, some .int, 3)
theorem fm_X5_image : kMb mX5_image 0 := ⟨kw_t 501 (by decide +kernel) (by decide +kernel), kw_t 1 (by decide +kernel) (by decide +kernel), by decide +kernel, by decide⟩
theorem fi_X5_image : Cond.instanceMethod mX5_image.1 ∈ kw ∧ Cond.selects mX5_image.1.cls mX5_image.1 mX5_image.1 ∈ kw := ⟨kw_t 499 (by decide +kernel) (by decide +kernel), kw_t 500 (by decide +kernel) (by decide +kernel)⟩
abbrev mX5_restore : kX := (yX5_restore, cX5_restore, 1, some .int, 3)
theorem fm_X5_restore : kMb mX5_restore 0 := ⟨kw_t 511 (by decide +kernel) (by decide +kernel), kw_t 1 (by decide +kernel) (by decide +kernel), by decide +kernel, by decide⟩
theorem fi_X5_restore : Cond.instanceMethod mX5_restore.1 ∈ kw ∧ Cond.selects mX5_restore.1.cls mX5_restore.1 mX5_restore.1 ∈ kw := ⟨kw_t 509 (by decide +kernel) (by decide +kernel), kw_t 510 (by decide +kernel) (by decide +kernel)⟩
abbrev mX5_passed : kX := (yX5_passed, cX5_passed, 9, some .int, 4)
theorem fm_X5_passed : kMb mX5_passed 5 := ⟨kw_t 515 (by decide +kernel) (by decide +kernel), kw_t 1 (by decide +kernel) (by decide +kernel), by decide +kernel, by decide⟩
theorem fi_X5_passed : Cond.instanceMethod mX5_passed.1 ∈ kw ∧ Cond.selects mX5_passed.1.cls mX5_passed.1 mX5_passed.1 ∈ kw := ⟨kw_t 513 (by decide +kernel) (by decide +kernel), kw_t 514 (by decide +kernel) (by decide +kernel)⟩
abbrev mX5_film : kX := (yX5_film, cX5_film, 9, some .int, 4)
theorem fm_X5_film : kMb mX5_film 5 := ⟨kw_t 545 (by decide +kernel) (by decide +kernel), kw_t 1 (by decide +kernel) (by decide +kernel), by decide +kernel, by decide⟩
theorem fi_X5_film : Cond.instanceMethod mX5_film.1 ∈ kw ∧ Cond.selects mX5_film.1.cls mX5_film.1 mX5_film.1 ∈ kw := ⟨kw_t 543 (by decide +kernel) (by decide +kernel), kw_t 544 (by decide +kernel) (by decide +kernel)⟩
abbrev mX5_sheet : kX := (yX5_sheet, cX5_sheet, 4, some .int, 2)
theorem fm_X5_sheet : kMb mX5_sheet 3 := ⟨kw_t 553 (by decide +kernel) (by decide +kernel), kw_t 1 (by decide +kernel) (by decide +kernel), by decide +kernel, by decide⟩
theorem fi_X5_sheet : Cond.instanceMethod mX5_sheet.1 ∈ kw ∧ Cond.selects mX5_sheet.1.cls mX5_sheet.1 mX5_sheet.1 ∈ kw := ⟨kw_t 551 (by decide +kernel) (by decide +kernel), kw_t 552 (by decide +kernel) (by decide +kernel)⟩
abbrev mX5_drop : kX := (yX5_drop, cX5_drop, 2, some .int, 2)
theorem fm_X5_drop : kMb mX5_drop 1 := ⟨kw_t 561 (by decide +kernel) (by decide +kernel), kw_t 1 (by decide +kernel) (by decide +kernel), by decide +kernel, by decide⟩
theorem fi_X5_drop : Cond.instanceMethod mX5_drop.1 ∈ kw ∧ Cond.selects mX5_drop.1.cls mX5_drop.1 mX5_drop.1 ∈ kw := ⟨kw_t 559 (by decide +kernel) (by decide +kernel), kw_t 560 (by decide +kernel) (by decide +kernel)⟩
abbrev mX5_item : kX := (yX5_item, cX5_item, 7, some .int, 2)
theorem fm_X5_item : kMb mX5_item 4 := ⟨kw_t 570 (by decide +kernel) (by decide +kernel), kw_t 1 (by decide +kernel) (by decide +kernel), by decide +kernel, by decide⟩
theorem fi_X5_item : Cond.instanceMethod mX5_item.1 ∈ kw ∧ Cond.selects mX5_item.1.cls mX5_item.1 mX5_item.1 ∈ kw := ⟨kw_t 568 (by decide +kernel) (by decide +kernel), kw_t 569 (by decide +kernel) (by decide +kernel)⟩
abbrev mX5_copy : kX := (yX5_copy, cX5_copy, 8, some .int, 2)
theorem fm_X5_copy : kMb mX5_copy 5 := ⟨kw_t 574 (by decide +kernel) (by decide +kernel), kw_t 1 (by decide +kernel) (by decide +kernel), by decide +kernel, by decide⟩
theorem fi_X5_copy : Cond.instanceMethod mX5_copy.1 ∈ kw ∧ Cond.selects mX5_copy.1.cls mX5_copy.1 mX5_copy.1 ∈ kw := ⟨kw_t 572 (by decide +kernel) (by decide +kernel), kw_t 573 (by decide +kernel) (by decide +kernel)⟩
abbrev mX5_within : kX := (yX5_within, cX5_within, 3, some .boolean, 0)
theorem fm_X5_within : kMb mX5_within 3 := ⟨kw_t 193 (by decide +kernel) (by decide +kernel), kw_t 1 (by decide +kernel) (by decide +kernel), by decide +kernel, by decide⟩
theorem fs_X5_within : Cond.static mX5_within.1 ∈ kw := kw_t 192 (by decide +kernel) (by decide +kernel)
abbrev mX5_isZeroOrOne : kX := (yX5_isZeroOrOne, cX5_isZeroOrOne, 1, some .boolean, 1)
theorem fm_X5_isZeroOrOne : kMb mX5_isZeroOrOne 1 := ⟨kw_t 395 (by decide +kernel) (by decide +kernel), kw_t 1 (by decide +kernel) (by decide +kernel), by decide +kernel, by decide⟩
theorem fs_X5_isZeroOrOne : Cond.static mX5_isZeroOrOne.1 ∈ kw := kw_t 394 (by decide +kernel) (by decide +kernel)
abbrev mX5_isSheet : kX := (yX5_isSheet, cX5_isSheet, 1, some .boolean, 1)
theorem fm_X5_isSheet : kMb mX5_isSheet 1 := ⟨kw_t 522 (by decide +kernel) (by decide +kernel), kw_t 1 (by decide +kernel) (by decide +kernel), by decide +kernel, by decide⟩
theorem fs_X5_isSheet : Cond.static mX5_isSheet.1 ∈ kw := kw_t 521 (by decide +kernel) (by decide +kernel)
abbrev mX5_isLane : kX := (yX5_isLane, cX5_isLane, 1, some .boolean, 1)
theorem fm_X5_isLane : kMb mX5_isLane 1 := ⟨kw_t 525 (by decide +kernel) (by decide +kernel), kw_t 1 (by decide +kernel) (by decide +kernel), by decide +kernel, by decide⟩
theorem fs_X5_isLane : Cond.static mX5_isLane.1 ∈ kw := kw_t 524 (by decide +kernel) (by decide +kernel)
abbrev mX5_isRider : kX := (yX5_isRider, cX5_isRider, 2, some .boolean, 1)
theorem fm_X5_isRider : kMb mX5_isRider 1 := ⟨kw_t 221 (by decide +kernel) (by decide +kernel), kw_t 1 (by decide +kernel) (by decide +kernel), by decide +kernel, by decide⟩
theorem fi_X5_isRider : Cond.instanceMethod mX5_isRider.1 ∈ kw ∧ Cond.selects mX5_isRider.1.cls mX5_isRider.1 mX5_isRider.1 ∈ kw := ⟨kw_t 220 (by decide +kernel) (by decide +kernel), kw_l 0 (by decide +kernel) (by decide +kernel)⟩
abbrev mX5_areTwo : kX := (yX5_areTwo, cX5_areTwo, 3, some .boolean, 2)
theorem fm_X5_areTwo : kMb mX5_areTwo 2 := ⟨kw_t 360 (by decide +kernel) (by decide +kernel), kw_t 1 (by decide +kernel) (by decide +kernel), by decide +kernel, by decide⟩
theorem fi_X5_areTwo : Cond.instanceMethod mX5_areTwo.1 ∈ kw ∧ Cond.selects mX5_areTwo.1.cls mX5_areTwo.1 mX5_areTwo.1 ∈ kw := ⟨kw_t 359 (by decide +kernel) (by decide +kernel), kw_l 11 (by decide +kernel) (by decide +kernel)⟩
abbrev mX5_has : kX := (yX5_has, cX5_has, 2, some .boolean, 0)
theorem fm_X5_has : kMb mX5_has 2 := ⟨kw_t 347 (by decide +kernel) (by decide +kernel), kw_t 1 (by decide +kernel) (by decide +kernel), by decide +kernel, by decide⟩
theorem fs_X5_has : Cond.static mX5_has.1 ∈ kw := kw_t 346 (by decide +kernel) (by decide +kernel)
abbrev mX5_sumOf : kX := (yX5_sumOf, cX5_sumOf, 4, some .int, 0)
theorem fm_X5_sumOf : kMb mX5_sumOf 2 := ⟨kw_t 325 (by decide +kernel) (by decide +kernel), kw_t 1 (by decide +kernel) (by decide +kernel), by decide +kernel, by decide⟩
theorem fs_X5_sumOf : Cond.static mX5_sumOf.1 ∈ kw := kw_t 324 (by decide +kernel) (by decide +kernel)
abbrev mX5_stageTakes : kX := (yX5_stageTakes, cX5_stageTakes, 3, some .int, 1)
theorem fm_X5_stageTakes : kMb mX5_stageTakes 2 := ⟨kw_t 225 (by decide +kernel) (by decide +kernel), kw_t 1 (by decide +kernel) (by decide +kernel), by decide +kernel, by decide⟩
theorem fi_X5_stageTakes : Cond.instanceMethod mX5_stageTakes.1 ∈ kw ∧ Cond.selects mX5_stageTakes.1.cls mX5_stageTakes.1 mX5_stageTakes.1 ∈ kw := ⟨kw_t 224 (by decide +kernel) (by decide +kernel), kw_l 1 (by decide +kernel) (by decide +kernel)⟩
abbrev mX5_minutesFor : kX := (yX5_minutesFor, cX5_minutesFor, 6, some .int, 0)
theorem fm_X5_minutesFor : kMb mX5_minutesFor 3 := ⟨kw_t 232 (by decide +kernel) (by decide +kernel), kw_t 1 (by decide +kernel) (by decide +kernel), by decide +kernel, by decide⟩
theorem fs_X5_minutesFor : Cond.static mX5_minutesFor.1 ∈ kw := kw_t 231 (by decide +kernel) (by decide +kernel)
abbrev mX5_minuteBuying : kX := (yX5_minuteBuying, cX5_minuteBuying, 3, some .int, 4)
theorem fm_X5_minuteBuying : kMb mX5_minuteBuying 2 := ⟨kw_t 452 (by decide +kernel) (by decide +kernel), kw_t 1 (by decide +kernel) (by decide +kernel), by decide +kernel, by decide⟩
theorem fi_X5_minuteBuying : Cond.instanceMethod mX5_minuteBuying.1 ∈ kw ∧ Cond.selects mX5_minuteBuying.1.cls mX5_minuteBuying.1 mX5_minuteBuying.1 ∈ kw := ⟨kw_t 451 (by decide +kernel) (by decide +kernel), kw_l 14 (by decide +kernel) (by decide +kernel)⟩
abbrev mX5_soonestSet : kX := (yX5_soonestSet, cX5_soonestSet, 9, some .int, 5)
theorem fm_X5_soonestSet : kMb mX5_soonestSet 1 := ⟨kw_t 448 (by decide +kernel) (by decide +kernel), kw_t 1 (by decide +kernel) (by decide +kernel), by decide +kernel, by decide⟩
theorem fi_X5_soonestSet : Cond.instanceMethod mX5_soonestSet.1 ∈ kw ∧ Cond.selects mX5_soonestSet.1.cls mX5_soonestSet.1 mX5_soonestSet.1 ∈ kw := ⟨kw_t 447 (by decide +kernel) (by decide +kernel), kw_l 13 (by decide +kernel) (by decide +kernel)⟩
abbrev mX5_fillDuel : kX := (yX5_fillDuel, cX5_fillDuel, 5, none, 4)
theorem fm_X5_fillDuel : kMb mX5_fillDuel 2 := ⟨kw_t 478 (by decide +kernel) (by decide +kernel), kw_t 1 (by decide +kernel) (by decide +kernel), by decide +kernel, by decide⟩
theorem fi_X5_fillDuel : Cond.instanceMethod mX5_fillDuel.1 ∈ kw ∧ Cond.selects mX5_fillDuel.1.cls mX5_fillDuel.1 mX5_fillDuel.1 ∈ kw := ⟨kw_t 477 (by decide +kernel) (by decide +kernel), kw_l 15 (by decide +kernel) (by decide +kernel)⟩
abbrev mX5_isRest : kX := (yX5_isRest, cX5_isRest, 5, some .boolean, 0)
theorem fm_X5_isRest : kMb mX5_isRest 2 := ⟨kw_t 482 (by decide +kernel) (by decide +kernel), kw_t 1 (by decide +kernel) (by decide +kernel), by decide +kernel, by decide⟩
theorem fi_X5_isRest : Cond.instanceMethod mX5_isRest.1 ∈ kw ∧ Cond.selects mX5_isRest.1.cls mX5_isRest.1 mX5_isRest.1 ∈ kw := ⟨kw_t 481 (by decide +kernel) (by decide +kernel), kw_l 16 (by decide +kernel) (by decide +kernel)⟩
abbrev mX5_isFirstWith : kX := (yX5_isFirstWith, cX5_isFirstWith, 3, some .boolean, 4)
theorem fm_X5_isFirstWith : kMb mX5_isFirstWith 2 := ⟨kw_t 494 (by decide +kernel) (by decide +kernel), kw_t 1 (by decide +kernel) (by decide +kernel), by decide +kernel, by decide⟩
theorem fi_X5_isFirstWith : Cond.instanceMethod mX5_isFirstWith.1 ∈ kw ∧ Cond.selects mX5_isFirstWith.1.cls mX5_isFirstWith.1 mX5_isFirstWith.1 ∈ kw := ⟨kw_t 493 (by decide +kernel) (by decide +kernel), kw_l 17 (by decide +kernel) (by decide +kernel)⟩
abbrev mX5_waysOf : kX := (yX5_waysOf, cX5_waysOf, 5, some .int, 1)
theorem fm_X5_waysOf : kMb mX5_waysOf 3 := ⟨kw_t 489 (by decide +kernel) (by decide +kernel), kw_t 1 (by decide +kernel) (by decide +kernel), by decide +kernel, by decide⟩
theorem fs_X5_waysOf : Cond.static mX5_waysOf.1 ∈ kw := kw_t 488 (by decide +kernel) (by decide +kernel)
abbrev mX5_sharedDivisor : kX := (yX5_sharedDivisor, cX5_sharedDivisor, 6, some .int, 0)
theorem fm_X5_sharedDivisor : kMb mX5_sharedDivisor 2 := ⟨kw_t 497 (by decide +kernel) (by decide +kernel), kw_t 1 (by decide +kernel) (by decide +kernel), by decide +kernel, by decide⟩
theorem fs_X5_sharedDivisor : Cond.static mX5_sharedDivisor.1 ∈ kw := kw_t 496 (by decide +kernel) (by decide +kernel)
abbrev mX5_rowFault : kX := (yX5_rowFault, cX5_rowFault, 7, some .int, 2)
theorem fm_X5_rowFault : kMb mX5_rowFault 5 := ⟨kw_t 519 (by decide +kernel) (by decide +kernel), kw_t 1 (by decide +kernel) (by decide +kernel), by decide +kernel, by decide⟩
theorem fi_X5_rowFault : Cond.instanceMethod mX5_rowFault.1 ∈ kw ∧ Cond.selects mX5_rowFault.1.cls mX5_rowFault.1 mX5_rowFault.1 ∈ kw := ⟨kw_t 518 (by decide +kernel) (by decide +kernel), kw_l 18 (by decide +kernel) (by decide +kernel)⟩
abbrev mX5_isTold : kX := (yX5_isTold, cX5_isTold, 7, some .boolean, 1)
theorem fm_X5_isTold : kMb mX5_isTold 4 := ⟨kw_t 541 (by decide +kernel) (by decide +kernel), kw_t 1 (by decide +kernel) (by decide +kernel), by decide +kernel, by decide⟩
theorem fi_X5_isTold : Cond.instanceMethod mX5_isTold.1 ∈ kw ∧ Cond.selects mX5_isTold.1.cls mX5_isTold.1 mX5_isTold.1 ∈ kw := ⟨kw_t 540 (by decide +kernel) (by decide +kernel), kw_l 19 (by decide +kernel) (by decide +kernel)⟩
abbrev mX6_in : kX := (yX6_in, cX6_in, 6, some .boolean, 0)
theorem fm_X6_in : kMb mX6_in 3 := ⟨kw_t 630 (by decide +kernel) (by decide +kernel), kw_t 7 (by decide +kernel) (by decide +kernel), by decide +kernel, by decide⟩
theorem fs_X6_in : Cond.static mX6_in.1 ∈ kw := kw_t 629 (by decide +kernel) (by decide +kernel)
abbrev mX6_has : kX := (yX6_has, cX6_has, 2, some .boolean, 0)
theorem fm_X6_has : kMb mX6_has 2 := ⟨kw_t 758 (by decide +kernel) (by decide +kernel), kw_t 7 (by decide +kernel) (by decide +kernel), by decide +kernel, by decide⟩
theorem fs_X6_has : Cond.static mX6_has.1 ∈ kw := kw_t 757 (by decide +kernel) (by decide +kernel)
abbrev mX6_ones : kX := (yX6_ones, cX6_ones, 3, some .int, 0)
theorem fm_X6_ones : kMb mX6_ones 1 := ⟨kw_t 825 (by decide +kernel) (by decide +kernel), kw_t 7 (by decide +kernel) (by decide +kernel), by decide +kernel, by decide⟩
theorem fs_X6_ones : Cond.static mX6_ones.1 ∈ kw := kw_t 824 (by decide +kernel) (by decide +kernel)
abbrev mX6_copyAll : kX := (yX6_copyAll, cX6_copyAll, 5, none, 0)
theorem fm_X6_copyAll : kMb mX6_copyAll 3 := ⟨kw_t 723 (by decide +kernel) (by decide +kernel), kw_t 7 (by decide +kernel) (by decide +kernel), by decide +kernel, by decide⟩
theorem fi_X6_copyAll : Cond.instanceMethod mX6_copyAll.1 ∈ kw ∧ Cond.selects mX6_copyAll.1.cls mX6_copyAll.1 mX6_copyAll.1 ∈ kw := ⟨kw_t 722 (by decide +kernel) (by decide +kernel), kw_l 32 (by decide +kernel) (by decide +kernel)⟩
abbrev mX6_isRider : kX := (yX6_isRider, cX6_isRider, 2, some .boolean, 1)
theorem fm_X6_isRider : kMb mX6_isRider 1 := ⟨kw_t 649 (by decide +kernel) (by decide +kernel), kw_t 7 (by decide +kernel) (by decide +kernel), by decide +kernel, by decide⟩
theorem fi_X6_isRider : Cond.instanceMethod mX6_isRider.1 ∈ kw ∧ Cond.selects mX6_isRider.1.cls mX6_isRider.1 mX6_isRider.1 ∈ kw := ⟨kw_t 648 (by decide +kernel) (by decide +kernel), kw_l 20 (by decide +kernel) (by decide +kernel)⟩
abbrev mX6_areTwo : kX := (yX6_areTwo, cX6_areTwo, 3, some .boolean, 2)
theorem fm_X6_areTwo : kMb mX6_areTwo 2 := ⟨kw_t 770 (by decide +kernel) (by decide +kernel), kw_t 7 (by decide +kernel) (by decide +kernel), by decide +kernel, by decide⟩
theorem fi_X6_areTwo : Cond.instanceMethod mX6_areTwo.1 ∈ kw ∧ Cond.selects mX6_areTwo.1.cls mX6_areTwo.1 mX6_areTwo.1 ∈ kw := ⟨kw_t 769 (by decide +kernel) (by decide +kernel), kw_l 39 (by decide +kernel) (by decide +kernel)⟩
abbrev mX6_stage : kX := (yX6_stage, cX6_stage, 5, some .int, 1)
theorem fm_X6_stage : kMb mX6_stage 3 := ⟨kw_t 626 (by decide +kernel) (by decide +kernel), kw_t 7 (by decide +kernel) (by decide +kernel), by decide +kernel, by decide⟩
theorem fi_X6_stage : Cond.instanceMethod mX6_stage.1 ∈ kw ∧ Cond.selects mX6_stage.1.cls mX6_stage.1 mX6_stage.1 ∈ kw := ⟨kw_t 624 (by decide +kernel) (by decide +kernel), kw_t 625 (by decide +kernel) (by decide +kernel)⟩
abbrev mX6_rider : kX := (yX6_rider, cX6_rider, 5, some .int, 1)
theorem fm_X6_rider : kMb mX6_rider 3 := ⟨kw_t 635 (by decide +kernel) (by decide +kernel), kw_t 7 (by decide +kernel) (by decide +kernel), by decide +kernel, by decide⟩
theorem fi_X6_rider : Cond.instanceMethod mX6_rider.1 ∈ kw ∧ Cond.selects mX6_rider.1.cls mX6_rider.1 mX6_rider.1 ∈ kw := ⟨kw_t 633 (by decide +kernel) (by decide +kernel), kw_t 634 (by decide +kernel) (by decide +kernel)⟩
abbrev mX6_of : kX := (yX6_of, cX6_of, 3, some .int, 1)
theorem fm_X6_of : kMb mX6_of 2 := ⟨kw_t 641 (by decide +kernel) (by decide +kernel), kw_t 7 (by decide +kernel) (by decide +kernel), by decide +kernel, by decide⟩
theorem fi_X6_of : Cond.instanceMethod mX6_of.1 ∈ kw ∧ Cond.selects mX6_of.1.cls mX6_of.1 mX6_of.1 ∈ kw := ⟨kw_t 639 (by decide +kernel) (by decide +kernel), kw_t 640 (by decide +kernel) (by decide +kernel)⟩
abbrev mX6_takes : kX := (yX6_takes, cX6_takes, 4, some .int, 0)
theorem fm_X6_takes : kMb mX6_takes 3 := ⟨kw_t 660 (by decide +kernel) (by decide +kernel), kw_t 7 (by decide +kernel) (by decide +kernel), by decide +kernel, by decide⟩
theorem fs_X6_takes : Cond.static mX6_takes.1 ∈ kw := kw_t 659 (by decide +kernel) (by decide +kernel)
abbrev mX6_isThere : kX := (yX6_isThere, cX6_isThere, 3, some .boolean, 0)
theorem fm_X6_isThere : kMb mX6_isThere 2 := ⟨kw_t 657 (by decide +kernel) (by decide +kernel), kw_t 7 (by decide +kernel) (by decide +kernel), by decide +kernel, by decide⟩
theorem fi_X6_isThere : Cond.instanceMethod mX6_isThere.1 ∈ kw ∧ Cond.selects mX6_isThere.1.cls mX6_isThere.1 mX6_isThere.1 ∈ kw := ⟨kw_t 656 (by decide +kernel) (by decide +kernel), kw_l 22 (by decide +kernel) (by decide +kernel)⟩
abbrev mX6_takesNow : kX := (yX6_takesNow, cX6_takesNow, 3, some .int, 1)
theorem fm_X6_takesNow : kMb mX6_takesNow 2 := ⟨kw_t 653 (by decide +kernel) (by decide +kernel), kw_t 7 (by decide +kernel) (by decide +kernel), by decide +kernel, by decide⟩
theorem fi_X6_takesNow : Cond.instanceMethod mX6_takesNow.1 ∈ kw ∧ Cond.selects mX6_takesNow.1.cls mX6_takesNow.1 mX6_takesNow.1 ∈ kw := ⟨kw_t 652 (by decide +kernel) (by decide +kernel), kw_l 21 (by decide +kernel) (by decide +kernel)⟩
abbrev mX6_at : kX := (yX6_at, cX6_at, 3, some .int, 2)
theorem fm_X6_at : kMb mX6_at 2 := ⟨kw_t 645 (by decide +kernel) (by decide +kernel), kw_t 7 (by decide +kernel) (by decide +kernel), by decide +kernel, by decide⟩
theorem fi_X6_at : Cond.instanceMethod mX6_at.1 ∈ kw ∧ Cond.selects mX6_at.1.cls mX6_at.1 mX6_at.1 ∈ kw := ⟨kw_t 643 (by decide +kernel) (by decide +kernel), kw_t 644 (by decide +kernel) (by decide +kernel)⟩
abbrev mX6_buys : kX := (yX6_buys, cX6_buys, 4, some .int, 2)
theorem fm_X6_buys : kMb mX6_buys 2 := ⟨kw_t 664 (by decide +kernel) (by decide +kernel), kw_t 7 (by decide +kernel) (by decide +kernel), by decide +kernel, by decide⟩
theorem fi_X6_buys : Cond.instanceMethod mX6_buys.1 ∈ kw ∧ Cond.selects mX6_buys.1.cls mX6_buys.1 mX6_buys.1 ∈ kw := ⟨kw_t 662 (by decide +kernel) (by decide +kernel), kw_t 663 (by decide +kernel) (by decide +kernel)⟩
abbrev mX6_price : kX := (yX6_price, cX6_price, 3, some .int, 1)
theorem fm_X6_price : kMb mX6_price 1 := ⟨kw_t 668 (by decide +kernel) (by decide +kernel), kw_t 7 (by decide +kernel) (by decide +kernel), by decide +kernel, by decide⟩
theorem fi_X6_price : Cond.instanceMethod mX6_price.1 ∈ kw ∧ Cond.selects mX6_price.1.cls mX6_price.1 mX6_price.1 ∈ kw := ⟨kw_t 666 (by decide +kernel) (by decide +kernel), kw_t 667 (by decide +kernel) (by decide +kernel)⟩
abbrev mX6_type : kX := (yX6_type, cX6_type, 2, some .int, 1)
theorem fm_X6_type : kMb mX6_type 1 := ⟨kw_t 672 (by decide +kernel) (by decide +kernel), kw_t 7 (by decide +kernel) (by decide +kernel), by decide +kernel, by decide⟩
theorem fi_X6_type : Cond.instanceMethod mX6_type.1 ∈ kw ∧ Cond.selects mX6_type.1.cls mX6_type.1 mX6_type.1 ∈ kw := ⟨kw_t 670 (by decide +kernel) (by decide +kernel), kw_t 671 (by decide +kernel) (by decide +kernel)⟩
abbrev mX6_letterAt : kX := (yX6_letterAt, cX6_letterAt, 2, some .int, 0)
theorem fm_X6_letterAt : kMb mX6_letterAt 1 := ⟨kw_t 698 (by decide +kernel) (by decide +kernel), kw_t 7 (by decide +kernel) (by decide +kernel), by decide +kernel, by decide⟩
theorem fi_X6_letterAt : Cond.instanceMethod mX6_letterAt.1 ∈ kw ∧ Cond.selects mX6_letterAt.1.cls mX6_letterAt.1 mX6_letterAt.1 ∈ kw := ⟨kw_t 697 (by decide +kernel) (by decide +kernel), kw_l 27 (by decide +kernel) (by decide +kernel)⟩
abbrev mX6_here : kX := (yX6_here, cX6_here, 1, some .int, 1)
theorem fm_X6_here : kMb mX6_here 0 := ⟨kw_t 694 (by decide +kernel) (by decide +kernel), kw_t 7 (by decide +kernel) (by decide +kernel), by decide +kernel, by decide⟩
theorem fi_X6_here : Cond.instanceMethod mX6_here.1 ∈ kw ∧ Cond.selects mX6_here.1.cls mX6_here.1 mX6_here.1 ∈ kw := ⟨kw_t 693 (by decide +kernel) (by decide +kernel), kw_l 26 (by decide +kernel) (by decide +kernel)⟩
abbrev mX6_fails : kX := (yX6_fails, cX6_fails, 2, some .boolean, 0)
theorem fm_X6_fails : kMb mX6_fails 1 := ⟨kw_t 702 (by decide +kernel) (by decide +kernel), kw_t 7 (by decide +kernel) (by decide +kernel), by decide +kernel, by decide⟩
theorem fi_X6_fails : Cond.instanceMethod mX6_fails.1 ∈ kw ∧ Cond.selects mX6_fails.1.cls mX6_fails.1 mX6_fails.1 ∈ kw := ⟨kw_t 701 (by decide +kernel) (by decide +kernel), kw_l 28 (by decide +kernel) (by decide +kernel)⟩
abbrev mX6_digit : kX := (yX6_digit, cX6_digit, 4, some .int, 2)
theorem fm_X6_digit : kMb mX6_digit 2 := ⟨kw_t 690 (by decide +kernel) (by decide +kernel), kw_t 7 (by decide +kernel) (by decide +kernel), by decide +kernel, by decide⟩
theorem fi_X6_digit : Cond.instanceMethod mX6_digit.1 ∈ kw ∧ Cond.selects mX6_digit.1.cls mX6_digit.1 mX6_digit.1 ∈ kw := ⟨kw_t 689 (by decide +kernel) (by decide +kernel), kw_l 25 (by decide +kernel) (by decide +kernel)⟩
abbrev mX6_number : kX := (yX6_number, cX6_number, 4, some .int, 2)
theorem fm_X6_number : kMb mX6_number 1 := ⟨kw_t 713 (by decide +kernel) (by decide +kernel), kw_t 7 (by decide +kernel) (by decide +kernel), by decide +kernel, by decide⟩
theorem fi_X6_number : Cond.instanceMethod mX6_number.1 ∈ kw ∧ Cond.selects mX6_number.1.cls mX6_number.1 mX6_number.1 ∈ kw := ⟨kw_t 712 (by decide +kernel) (by decide +kernel), kw_l 30 (by decide +kernel) (by decide +kernel)⟩
abbrev mX6_takesStage : kX := (yX6_takesStage, cX6_takesStage, 5, some .boolean, 3)
theorem fm_X6_takesStage : kMb mX6_takesStage 0 := ⟨kw_t 686 (by decide +kernel) (by decide +kernel), kw_t 7 (by decide +kernel) (by decide +kernel), by decide +kernel, by decide⟩
theorem fi_X6_takesStage : Cond.instanceMethod mX6_takesStage.1 ∈ kw ∧ Cond.selects mX6_takesStage.1.cls mX6_takesStage.1 mX6_takesStage.1 ∈ kw := ⟨kw_t 685 (by decide +kernel) (by decide +kernel), kw_l 24 (by decide +kernel) (by decide +kernel)⟩
abbrev mX6_kindBy : kX := (yX6_kindBy, cX6_kindBy, 1, some .int, 0)
theorem fm_X6_kindBy : kMb mX6_kindBy 1 := ⟨kw_t 709 (by decide +kernel) (by decide +kernel), kw_t 7 (by decide +kernel) (by decide +kernel), by decide +kernel, by decide⟩
theorem fs_X6_kindBy : Cond.static mX6_kindBy.1 ∈ kw := kw_t 708 (by decide +kernel) (by decide +kernel)
abbrev mX6_takesBuys : kX := (yX6_takesBuys, cX6_takesBuys, 4, some .boolean, 3)
theorem fm_X6_takesBuys : kMb mX6_takesBuys 1 := ⟨kw_t 719 (by decide +kernel) (by decide +kernel), kw_t 7 (by decide +kernel) (by decide +kernel), by decide +kernel, by decide⟩
theorem fi_X6_takesBuys : Cond.instanceMethod mX6_takesBuys.1 ∈ kw ∧ Cond.selects mX6_takesBuys.1.cls mX6_takesBuys.1 mX6_takesBuys.1 ∈ kw := ⟨kw_t 718 (by decide +kernel) (by decide +kernel), kw_l 31 (by decide +kernel) (by decide +kernel)⟩
abbrev mX6_takesRider : kX := (yX6_takesRider, cX6_takesRider, 5, some .boolean, 4)
theorem fm_X6_takesRider : kMb mX6_takesRider 0 := ⟨kw_t 706 (by decide +kernel) (by decide +kernel), kw_t 7 (by decide +kernel) (by decide +kernel), by decide +kernel, by decide⟩
theorem fi_X6_takesRider : Cond.instanceMethod mX6_takesRider.1 ∈ kw ∧ Cond.selects mX6_takesRider.1.cls mX6_takesRider.1 mX6_takesRider.1 ∈ kw := ⟨kw_t 705 (by decide +kernel) (by decide +kernel), kw_l 29 (by decide +kernel) (by decide +kernel)⟩
abbrev mX6_takesRoad : kX := (yX6_takesRoad, cX6_takesRoad, 1, some .boolean, 5)
theorem fm_X6_takesRoad : kMb mX6_takesRoad 0 := ⟨kw_t 682 (by decide +kernel) (by decide +kernel), kw_t 7 (by decide +kernel) (by decide +kernel), by decide +kernel, by decide⟩
theorem fi_X6_takesRoad : Cond.instanceMethod mX6_takesRoad.1 ∈ kw ∧ Cond.selects mX6_takesRoad.1.cls mX6_takesRoad.1 mX6_takesRoad.1 ∈ kw := ⟨kw_t 681 (by decide +kernel) (by decide +kernel), kw_l 23 (by decide +kernel) (by decide +kernel)⟩
abbrev mX6_road : kX := (yX6_road, cX6_road, 2, some .int, 6)
theorem fm_X6_road : kMb mX6_road 0 := ⟨kw_t 678 (by decide +kernel) (by decide +kernel), kw_t 7 (by decide +kernel) (by decide +kernel), by decide +kernel, by decide⟩
theorem fi_X6_road : Cond.instanceMethod mX6_road.1 ∈ kw ∧ Cond.selects mX6_road.1.cls mX6_road.1 mX6_road.1 ∈ kw := ⟨kw_t 676 (by decide +kernel) (by decide +kernel), kw_t 677 (by decide +kernel) (by decide +kernel)⟩
abbrev mX6_nextIn : kX := (yX6_nextIn, cX6_nextIn, 5, some .int, 1)
theorem fm_X6_nextIn : kMb mX6_nextIn 1 := ⟨kw_t 735 (by decide +kernel) (by decide +kernel), kw_t 7 (by decide +kernel) (by decide +kernel), by decide +kernel, by decide⟩
theorem fi_X6_nextIn : Cond.instanceMethod mX6_nextIn.1 ∈ kw ∧ Cond.selects mX6_nextIn.1.cls mX6_nextIn.1 mX6_nextIn.1 ∈ kw := ⟨kw_t 734 (by decide +kernel) (by decide +kernel), kw_l 34 (by decide +kernel) (by decide +kernel)⟩
abbrev mX6_rides : kX := (yX6_rides, cX6_rides, 6, none, 1)
theorem fm_X6_rides : kMb mX6_rides 2 := ⟨kw_t 755 (by decide +kernel) (by decide +kernel), kw_t 7 (by decide +kernel) (by decide +kernel), by decide +kernel, by decide⟩
theorem fi_X6_rides : Cond.instanceMethod mX6_rides.1 ∈ kw ∧ Cond.selects mX6_rides.1.cls mX6_rides.1 mX6_rides.1 ∈ kw := ⟨kw_t 754 (by decide +kernel) (by decide +kernel), kw_l 38 (by decide +kernel) (by decide +kernel)⟩
abbrev mX6_thereIn : kX := (yX6_thereIn, cX6_thereIn, 4, some .int, 1)
theorem fm_X6_thereIn : kMb mX6_thereIn 1 := ⟨kw_t 731 (by decide +kernel) (by decide +kernel), kw_t 7 (by decide +kernel) (by decide +kernel), by decide +kernel, by decide⟩
theorem fi_X6_thereIn : Cond.instanceMethod mX6_thereIn.1 ∈ kw ∧ Cond.selects mX6_thereIn.1.cls mX6_thereIn.1 mX6_thereIn.1 ∈ kw := ⟨kw_t 730 (by decide +kernel) (by decide +kernel), kw_l 33 (by decide +kernel) (by decide +kernel)⟩
abbrev mX6_coinsOfAll : kX := (yX6_coinsOfAll, cX6_coinsOfAll, 3, some .int, 0)
theorem fm_X6_coinsOfAll : kMb mX6_coinsOfAll 0 := ⟨kw_t 739 (by decide +kernel) (by decide +kernel), kw_t 7 (by decide +kernel) (by decide +kernel), by decide +kernel, by decide⟩
theorem fi_X6_coinsOfAll : Cond.instanceMethod mX6_coinsOfAll.1 ∈ kw ∧ Cond.selects mX6_coinsOfAll.1.cls mX6_coinsOfAll.1 mX6_coinsOfAll.1 ∈ kw := ⟨kw_t 738 (by decide +kernel) (by decide +kernel), kw_l 35 (by decide +kernel) (by decide +kernel)⟩
abbrev mX6_horsesOfAll : kX := (yX6_horsesOfAll, cX6_horsesOfAll, 3, some .int, 0)
theorem fm_X6_horsesOfAll : kMb mX6_horsesOfAll 0 := ⟨kw_t 743 (by decide +kernel) (by decide +kernel), kw_t 7 (by decide +kernel) (by decide +kernel), by decide +kernel, by decide⟩
theorem fi_X6_horsesOfAll : Cond.instanceMethod mX6_horsesOfAll.1 ∈ kw ∧ Cond.selects mX6_horsesOfAll.1.cls mX6_horsesOfAll.1 mX6_horsesOfAll.1 ∈ kw := ⟨kw_t 742 (by decide +kernel) (by decide +kernel), kw_l 36 (by decide +kernel) (by decide +kernel)⟩
abbrev mX6_count : kX := (yX6_count, cX6_count, 2, some .int, 2)
theorem fm_X6_count : kMb mX6_count 1 := ⟨kw_t 727 (by decide +kernel) (by decide +kernel), kw_t 7 (by decide +kernel) (by decide +kernel), by decide +kernel, by decide⟩
theorem fi_X6_count : Cond.instanceMethod mX6_count.1 ∈ kw ∧ Cond.selects mX6_count.1.cls mX6_count.1 mX6_count.1 ∈ kw := ⟨kw_t 725 (by decide +kernel) (by decide +kernel), kw_t 726 (by decide +kernel) (by decide +kernel)⟩
abbrev mX6_minds : kX := (yX6_minds, cX6_minds, 1, none, 1)
theorem fm_X6_minds : kMb mX6_minds 0 := ⟨kw_t 751 (by decide +kernel) (by decide +kernel), kw_t 7 (by decide +kernel) (by decide +kernel), by decide +kernel, by decide⟩
theorem fi_X6_minds : Cond.instanceMethod mX6_minds.1 ∈ kw ∧ Cond.selects mX6_minds.1.cls mX6_minds.1 mX6_minds.1 ∈ kw := ⟨kw_t 750 (by decide +kernel) (by decide +kernel), kw_l 37 (by decide +kernel) (by decide +kernel)⟩
abbrev mX6_ride : kX := (yX6_ride, cX6_ride, 3, some .int, 2)
theorem fm_X6_ride : kMb mX6_ride 1 := ⟨kw_t 747 (by decide +kernel) (by decide +kernel), kw_t 7 (by decide +kernel) (by decide +kernel), by decide +kernel, by decide⟩
theorem fi_X6_ride : Cond.instanceMethod mX6_ride.1 ∈ kw ∧ Cond.selects mX6_ride.1.cls mX6_ride.1 mX6_ride.1 ∈ kw := ⟨kw_t 745 (by decide +kernel) (by decide +kernel), kw_t 746 (by decide +kernel) (by decide +kernel)⟩
abbrev mX6_wheel : kX := (yX6_wheel, cX6_wheel, 2, some .int, 2)
theorem fm_X6_wheel : kMb mX6_wheel 1 := ⟨kw_t 762 (by decide +kernel) (by decide +kernel), kw_t 7 (by decide +kernel) (by decide +kernel), by decide +kernel, by decide⟩
theorem fi_X6_wheel : Cond.instanceMethod mX6_wheel.1 ∈ kw ∧ Cond.selects mX6_wheel.1.cls mX6_wheel.1 mX6_wheel.1 ∈ kw := ⟨kw_t 760 (by decide +kernel) (by decide +kernel), kw_t 761 (by decide +kernel) (by decide +kernel)⟩
abbrev mX6_give : kX := (yX6_give, cX6_give, 4, some .int, 3)
theorem fm_X6_give : kMb mX6_give 3 := ⟨kw_t 766 (by decide +kernel) (by decide +kernel), kw_t 7 (by decide +kernel) (by decide +kernel), by decide +kernel, by decide⟩
theorem fi_X6_give : Cond.instanceMethod mX6_give.1 ∈ kw ∧ Cond.selects mX6_give.1.cls mX6_give.1 mX6_give.1 ∈ kw := ⟨kw_t 764 (by decide +kernel) (by decide +kernel), kw_t 765 (by decide +kernel) (by decide +kernel)⟩
abbrev mX6_drift : kX := (yX6_drift, cX6_drift, 6, some .int, 2)
theorem fm_X6_drift : kMb mX6_drift 1 := ⟨kw_t 774 (by decide +kernel) (by decide +kernel), kw_t 7 (by decide +kernel) (by decide +kernel), by decide +kernel, by decide⟩
theorem fi_X6_drift : Cond.instanceMethod mX6_drift.1 ∈ kw ∧ Cond.selects mX6_drift.1.cls mX6_drift.1 mX6_drift.1 ∈ kw := ⟨kw_t 772 (by decide +kernel) (by decide +kernel), kw_t 773 (by decide +kernel) (by decide +kernel)⟩
abbrev mX6_undo : kX := (yX6_undo, cX6_undo, 1, some .int, 1)
theorem fm_X6_undo : kMb mX6_undo 0 := ⟨kw_t 781 (by decide +kernel) (by decide +kernel), kw_t 7 (by decide +kernel) (by decide +kernel), by decide +kernel, by decide⟩
theorem fi_X6_undo : Cond.instanceMethod mX6_undo.1 ∈ kw ∧ Cond.selects mX6_undo.1.cls mX6_undo.1 mX6_undo.1 ∈ kw := ⟨kw_t 779 (by decide +kernel) (by decide +kernel), kw_t 780 (by decide +kernel) (by decide +kernel)⟩
abbrev mX6_seed : kX := (yX6_seed, cX6_seed, 3, some .int, 0)
theorem fm_X6_seed : kMb mX6_seed 1 := ⟨kw_t 785 (by decide +kernel) (by decide +kernel), kw_t 7 (by decide +kernel) (by decide +kernel), by decide +kernel, by decide⟩
theorem fi_X6_seed : Cond.instanceMethod mX6_seed.1 ∈ kw ∧ Cond.selects mX6_seed.1.cls mX6_seed.1 mX6_seed.1 ∈ kw := ⟨kw_t 783 (by decide +kernel) (by decide +kernel), kw_t 784 (by decide +kernel) (by decide +kernel)⟩
abbrev mX6_tries : kX := (yX6_tries, cX6_tries, 1, none, 1)
theorem fm_X6_tries : kMb mX6_tries 0 := ⟨kw_t 797 (by decide +kernel) (by decide +kernel), kw_t 7 (by decide +kernel) (by decide +kernel), by decide +kernel, by decide⟩
theorem fi_X6_tries : Cond.instanceMethod mX6_tries.1 ∈ kw ∧ Cond.selects mX6_tries.1.cls mX6_tries.1 mX6_tries.1 ∈ kw := ⟨kw_t 796 (by decide +kernel) (by decide +kernel), kw_l 41 (by decide +kernel) (by decide +kernel)⟩
abbrev mX6_ridesOn : kX := (yX6_ridesOn, cX6_ridesOn, 5, none, 2)
theorem fm_X6_ridesOn : kMb mX6_ridesOn 2 := ⟨kw_t 801 (by decide +kernel) (by decide +kernel), kw_t 7 (by decide +kernel) (by decide +kernel), by decide +kernel, by decide⟩
theorem fi_X6_ridesOn : Cond.instanceMethod mX6_ridesOn.1 ∈ kw ∧ Cond.selects mX6_ridesOn.1.cls mX6_ridesOn.1 mX6_ridesOn.1 ∈ kw := ⟨kw_t 800 (by decide +kernel) (by decide +kernel), kw_l 42 (by decide +kernel) (by decide +kernel)⟩
abbrev mX6_foretells : kX := (yX6_foretells, cX6_foretells, 1, none, 3)
theorem fm_X6_foretells : kMb mX6_foretells 0 := ⟨kw_t 793 (by decide +kernel) (by decide +kernel), kw_t 7 (by decide +kernel) (by decide +kernel), by decide +kernel, by decide⟩
theorem fi_X6_foretells : Cond.instanceMethod mX6_foretells.1 ∈ kw ∧ Cond.selects mX6_foretells.1.cls mX6_foretells.1 mX6_foretells.1 ∈ kw := ⟨kw_t 792 (by decide +kernel) (by decide +kernel), kw_l 40 (by decide +kernel) (by decide +kernel)⟩
abbrev mX6_ahead : kX := (yX6_ahead, cX6_ahead, 3, some .int, 4)
theorem fm_X6_ahead : kMb mX6_ahead 2 := ⟨kw_t 789 (by decide +kernel) (by decide +kernel), kw_t 7 (by decide +kernel) (by decide +kernel), by decide +kernel, by decide⟩
theorem fi_X6_ahead : Cond.instanceMethod mX6_ahead.1 ∈ kw ∧ Cond.selects mX6_ahead.1.cls mX6_ahead.1 mX6_ahead.1 ∈ kw := ⟨kw_t 787 (by decide +kernel) (by decide +kernel), kw_t 788 (by decide +kernel) (by decide +kernel)⟩
abbrev mX6_comes : kX := (yX6_comes, cX6_comes, 3, some .int, 4)
theorem fm_X6_comes : kMb mX6_comes 2 := ⟨kw_t 805 (by decide +kernel) (by decide +kernel), kw_t 7 (by decide +kernel) (by decide +kernel), by decide +kernel, by decide⟩
theorem fi_X6_comes : Cond.instanceMethod mX6_comes.1 ∈ kw ∧ Cond.selects mX6_comes.1.cls mX6_comes.1 mX6_comes.1 ∈ kw := ⟨kw_t 803 (by decide +kernel) (by decide +kernel), kw_t 804 (by decide +kernel) (by decide +kernel)⟩
abbrev mX6_firstTried : kX := (yX6_firstTried, cX6_firstTried, 3, some .int, 0)
theorem fm_X6_firstTried : kMb mX6_firstTried 0 := ⟨kw_t 813 (by decide +kernel) (by decide +kernel), kw_t 7 (by decide +kernel) (by decide +kernel), by decide +kernel, by decide⟩
theorem fi_X6_firstTried : Cond.instanceMethod mX6_firstTried.1 ∈ kw ∧ Cond.selects mX6_firstTried.1.cls mX6_firstTried.1 mX6_firstTried.1 ∈ kw := ⟨kw_t 812 (by decide +kernel) (by decide +kernel), kw_l 43 (by decide +kernel) (by decide +kernel)⟩
abbrev mX6_first : kX := (yX6_first, cX6_first, 1, some .int, 4)
theorem fm_X6_first : kMb mX6_first 0 := ⟨kw_t 809 (by decide +kernel) (by decide +kernel), kw_t 7 (by decide +kernel) (by decide +kernel), by decide +kernel, by decide⟩
theorem fi_X6_first : Cond.instanceMethod mX6_first.1 ∈ kw ∧ Cond.selects mX6_first.1.cls mX6_first.1 mX6_first.1 ∈ kw := ⟨kw_t 807 (by decide +kernel) (by decide +kernel), kw_t 808 (by decide +kernel) (by decide +kernel)⟩
abbrev mX6_caught : kX := (yX6_caught, cX6_caught, 5, some .int, 4)
theorem fm_X6_caught : kMb mX6_caught 2 := ⟨kw_t 817 (by decide +kernel) (by decide +kernel), kw_t 7 (by decide +kernel) (by decide +kernel), by decide +kernel, by decide⟩
theorem fi_X6_caught : Cond.instanceMethod mX6_caught.1 ∈ kw ∧ Cond.selects mX6_caught.1.cls mX6_caught.1 mX6_caught.1 ∈ kw := ⟨kw_t 815 (by decide +kernel) (by decide +kernel), kw_t 816 (by decide +kernel) (by decide +kernel)⟩
abbrev mX6_best : kX := (yX6_best, cX6_best, 8, some .int, 3)
theorem fm_X6_best : kMb mX6_best 2 := ⟨kw_t 821 (by decide +kernel) (by decide +kernel), kw_t 7 (by decide +kernel) (by decide +kernel), by decide +kernel, by decide⟩
theorem fi_X6_best : Cond.instanceMethod mX6_best.1 ∈ kw ∧ Cond.selects mX6_best.1.cls mX6_best.1 mX6_best.1 ∈ kw := ⟨kw_t 819 (by decide +kernel) (by decide +kernel), kw_t 820 (by decide +kernel) (by decide +kernel)⟩
abbrev mX6_earlier : kX := (yX6_earlier, cX6_earlier, 4, some .int, 3)
theorem fm_X6_earlier : kMb mX6_earlier 2 := ⟨kw_t 829 (by decide +kernel) (by decide +kernel), kw_t 7 (by decide +kernel) (by decide +kernel), by decide +kernel, by decide⟩
theorem fi_X6_earlier : Cond.instanceMethod mX6_earlier.1 ∈ kw ∧ Cond.selects mX6_earlier.1.cls mX6_earlier.1 mX6_earlier.1 ∈ kw := ⟨kw_t 827 (by decide +kernel) (by decide +kernel), kw_t 828 (by decide +kernel) (by decide +kernel)⟩
abbrev mX6_purse : kX := (yX6_purse, cX6_purse, 4, some .int, 3)
theorem fm_X6_purse : kMb mX6_purse 2 := ⟨kw_t 833 (by decide +kernel) (by decide +kernel), kw_t 7 (by decide +kernel) (by decide +kernel), by decide +kernel, by decide⟩
theorem fi_X6_purse : Cond.instanceMethod mX6_purse.1 ∈ kw ∧ Cond.selects mX6_purse.1.cls mX6_purse.1 mX6_purse.1 ∈ kw := ⟨kw_t 831 (by decide +kernel) (by decide +kernel), kw_t 832 (by decide +kernel) (by decide +kernel)⟩
abbrev mX6_loosened : kX := (yX6_loosened, cX6_loosened, 7, some .int, 3)
theorem fm_X6_loosened : kMb mX6_loosened 2 := ⟨kw_t 838 (by decide +kernel) (by decide +kernel), kw_t 7 (by decide +kernel) (by decide +kernel), by decide +kernel, by decide⟩
theorem fi_X6_loosened : Cond.instanceMethod mX6_loosened.1 ∈ kw ∧ Cond.selects mX6_loosened.1.cls mX6_loosened.1 mX6_loosened.1 ∈ kw := ⟨kw_t 836 (by decide +kernel) (by decide +kernel), kw_t 837 (by decide +kernel) (by decide +kernel)⟩
abbrev mX6_layDuel : kX := (yX6_layDuel, cX6_layDuel, 5, none, 3)
theorem fm_X6_layDuel : kMb mX6_layDuel 2 := ⟨kw_t 846 (by decide +kernel) (by decide +kernel), kw_t 7 (by decide +kernel) (by decide +kernel), by decide +kernel, by decide⟩
theorem fi_X6_layDuel : Cond.instanceMethod mX6_layDuel.1 ∈ kw ∧ Cond.selects mX6_layDuel.1.cls mX6_layDuel.1 mX6_layDuel.1 ∈ kw := ⟨kw_t 845 (by decide +kernel) (by decide +kernel), kw_l 44 (by decide +kernel) (by decide +kernel)⟩
abbrev mX6_rests : kX := (yX6_rests, cX6_rests, 5, some .boolean, 0)
theorem fm_X6_rests : kMb mX6_rests 2 := ⟨kw_t 850 (by decide +kernel) (by decide +kernel), kw_t 7 (by decide +kernel) (by decide +kernel), by decide +kernel, by decide⟩
theorem fi_X6_rests : Cond.instanceMethod mX6_rests.1 ∈ kw ∧ Cond.selects mX6_rests.1.cls mX6_rests.1 mX6_rests.1 ∈ kw := ⟨kw_t 849 (by decide +kernel) (by decide +kernel), kw_l 45 (by decide +kernel) (by decide +kernel)⟩
abbrev mX6_duel : kX := (yX6_duel, cX6_duel, 9, some .int, 4)
theorem fm_X6_duel : kMb mX6_duel 3 := ⟨kw_t 842 (by decide +kernel) (by decide +kernel), kw_t 7 (by decide +kernel) (by decide +kernel), by decide +kernel, by decide⟩
theorem fi_X6_duel : Cond.instanceMethod mX6_duel.1 ∈ kw ∧ Cond.selects mX6_duel.1.cls mX6_duel.1 mX6_duel.1 ∈ kw := ⟨kw_t 840 (by decide +kernel) (by decide +kernel), kw_t 841 (by decide +kernel) (by decide +kernel)⟩
abbrev mX6_luck : kX := (yX6_luck, cX6_luck, 11, some .int, 3)
theorem fm_X6_luck : kMb mX6_luck 3 := ⟨kw_t 854 (by decide +kernel) (by decide +kernel), kw_t 7 (by decide +kernel) (by decide +kernel), by decide +kernel, by decide⟩
theorem fi_X6_luck : Cond.instanceMethod mX6_luck.1 ∈ kw ∧ Cond.selects mX6_luck.1.cls mX6_luck.1 mX6_luck.1 ∈ kw := ⟨kw_t 852 (by decide +kernel) (by decide +kernel), kw_t 853 (by decide +kernel) (by decide +kernel)⟩
abbrev mX6_image : kX := (yX6_image, cX6_image, 1, some .int, 1)
theorem fm_X6_image : kMb mX6_image 0 := ⟨kw_t 859 (by decide +kernel) (by decide +kernel), kw_t 7 (by decide +kernel) (by decide +kernel), by decide +kernel, by decide⟩
theorem fi_X6_image : Cond.instanceMethod mX6_image.1 ∈ kw ∧ Cond.selects mX6_image.1.cls mX6_image.1 mX6_image.1 ∈ kw := ⟨kw_t 857 (by decide +kernel) (by decide +kernel), kw_t 858 (by decide +kernel) (by decide +kernel)⟩
abbrev mX6_restore : kX := (yX6_restore, cX6_restore, 1, some .int, 1)
theorem fm_X6_restore : kMb mX6_restore 0 := ⟨kw_t 863 (by decide +kernel) (by decide +kernel), kw_t 7 (by decide +kernel) (by decide +kernel), by decide +kernel, by decide⟩
theorem fi_X6_restore : Cond.instanceMethod mX6_restore.1 ∈ kw ∧ Cond.selects mX6_restore.1.cls mX6_restore.1 mX6_restore.1 ∈ kw := ⟨kw_t 861 (by decide +kernel) (by decide +kernel), kw_t 862 (by decide +kernel) (by decide +kernel)⟩
abbrev mX6_isSheet : kX := (yX6_isSheet, cX6_isSheet, 1, some .boolean, 1)
theorem fm_X6_isSheet : kMb mX6_isSheet 1 := ⟨kw_t 873 (by decide +kernel) (by decide +kernel), kw_t 7 (by decide +kernel) (by decide +kernel), by decide +kernel, by decide⟩
theorem fs_X6_isSheet : Cond.static mX6_isSheet.1 ∈ kw := kw_t 872 (by decide +kernel) (by decide +kernel)
abbrev mX6_isLane : kX := (yX6_isLane, cX6_isLane, 2, some .boolean, 2)
theorem fm_X6_isLane : kMb mX6_isLane 2 := ⟨kw_t 870 (by decide +kernel) (by decide +kernel), kw_t 7 (by decide +kernel) (by decide +kernel), by decide +kernel, by decide⟩
theorem fs_X6_isLane : Cond.static mX6_isLane.1 ∈ kw := kw_t 869 (by decide +kernel) (by decide +kernel)
abbrev mX6_against : kX := (yX6_against, cX6_against, 5, some .int, 0)
theorem fm_X6_against : kMb mX6_against 4 := ⟨kw_t 879 (by decide +kernel) (by decide +kernel), kw_t 7 (by decide +kernel) (by decide +kernel), by decide +kernel, by decide⟩
theorem fi_X6_against : Cond.instanceMethod mX6_against.1 ∈ kw ∧ Cond.selects mX6_against.1.cls mX6_against.1 mX6_against.1 ∈ kw := ⟨kw_t 878 (by decide +kernel) (by decide +kernel), kw_l 46 (by decide +kernel) (by decide +kernel)⟩
abbrev mX6_cut : kX := (yX6_cut, cX6_cut, 3, some .long, 0)
theorem fm_X6_cut : kMb mX6_cut 2 := ⟨kw_t 886 (by decide +kernel) (by decide +kernel), kw_t 7 (by decide +kernel) (by decide +kernel), by decide +kernel, by decide⟩
theorem fs_X6_cut : Cond.static mX6_cut.1 ∈ kw := kw_t 885 (by decide +kernel) (by decide +kernel)
abbrev mX6_passed : kX := (yX6_passed, cX6_passed, 12, some .int, 3)
theorem fm_X6_passed : kMb mX6_passed 5 := ⟨kw_t 867 (by decide +kernel) (by decide +kernel), kw_t 7 (by decide +kernel) (by decide +kernel), by decide +kernel, by decide⟩
theorem fi_X6_passed : Cond.instanceMethod mX6_passed.1 ∈ kw ∧ Cond.selects mX6_passed.1.cls mX6_passed.1 mX6_passed.1 ∈ kw := ⟨kw_t 865 (by decide +kernel) (by decide +kernel), kw_t 866 (by decide +kernel) (by decide +kernel)⟩
abbrev mX6_film : kX := (yX6_film, cX6_film, 9, some .int, 4)
theorem fm_X6_film : kMb mX6_film 5 := ⟨kw_t 883 (by decide +kernel) (by decide +kernel), kw_t 7 (by decide +kernel) (by decide +kernel), by decide +kernel, by decide⟩
theorem fi_X6_film : Cond.instanceMethod mX6_film.1 ∈ kw ∧ Cond.selects mX6_film.1.cls mX6_film.1 mX6_film.1 ∈ kw := ⟨kw_t 881 (by decide +kernel) (by decide +kernel), kw_t 882 (by decide +kernel) (by decide +kernel)⟩
abbrev mX6_sheet : kX := (yX6_sheet, cX6_sheet, 5, some .int, 3)
theorem fm_X6_sheet : kMb mX6_sheet 3 := ⟨kw_t 890 (by decide +kernel) (by decide +kernel), kw_t 7 (by decide +kernel) (by decide +kernel), by decide +kernel, by decide⟩
theorem fi_X6_sheet : Cond.instanceMethod mX6_sheet.1 ∈ kw ∧ Cond.selects mX6_sheet.1.cls mX6_sheet.1 mX6_sheet.1 ∈ kw := ⟨kw_t 888 (by decide +kernel) (by decide +kernel), kw_t 889 (by decide +kernel) (by decide +kernel)⟩
abbrev mX6_drop : kX := (yX6_drop, cX6_drop, 3, some .int, 2)
theorem fm_X6_drop : kMb mX6_drop 1 := ⟨kw_t 894 (by decide +kernel) (by decide +kernel), kw_t 7 (by decide +kernel) (by decide +kernel), by decide +kernel, by decide⟩
theorem fi_X6_drop : Cond.instanceMethod mX6_drop.1 ∈ kw ∧ Cond.selects mX6_drop.1.cls mX6_drop.1 mX6_drop.1 ∈ kw := ⟨kw_t 892 (by decide +kernel) (by decide +kernel), kw_t 893 (by decide +kernel) (by decide +kernel)⟩
abbrev mX6_item : kX := (yX6_item, cX6_item, 7, some .int, 3)
theorem fm_X6_item : kMb mX6_item 4 := ⟨kw_t 898 (by decide +kernel) (by decide +kernel), kw_t 7 (by decide +kernel) (by decide +kernel), by decide +kernel, by decide⟩
theorem fi_X6_item : Cond.instanceMethod mX6_item.1 ∈ kw ∧ Cond.selects mX6_item.1.cls mX6_item.1 mX6_item.1 ∈ kw := ⟨kw_t 896 (by decide +kernel) (by decide +kernel), kw_t 897 (by decide +kernel) (by decide +kernel)⟩
abbrev mX6_copy : kX := (yX6_copy, cX6_copy, 7, some .int, 2)
theorem fm_X6_copy : kMb mX6_copy 5 := ⟨kw_t 902 (by decide +kernel) (by decide +kernel), kw_t 7 (by decide +kernel) (by decide +kernel), by decide +kernel, by decide⟩
theorem fi_X6_copy : Cond.instanceMethod mX6_copy.1 ∈ kw ∧ Cond.selects mX6_copy.1.cls mX6_copy.1 mX6_copy.1 ∈ kw := ⟨kw_t 900 (by decide +kernel) (by decide +kernel), kw_t 901 (by decide +kernel) (by decide +kernel)⟩
abbrev mJ6_bitCount_0f7a4 : kX := (yJ6_bitCount_0f7a4, cJ6_bitCount_0f7a4, 1, some .int, 0)
theorem fm_J6_bitCount_0f7a4 : kMb mJ6_bitCount_0f7a4 1 := ⟨kw_t 455 (by decide +kernel) (by decide +kernel), kw_t 10 (by decide +kernel) (by decide +kernel), by decide +kernel, by decide⟩
theorem fs_J6_bitCount_0f7a4 : Cond.static mJ6_bitCount_0f7a4.1 ∈ kw := kw_t 454 (by decide +kernel) (by decide +kernel)
abbrev mJ9_max_7cf53 : kX := (yJ9_max_7cf53, cJ9_max_7cf53, 2, some .int, 0)
theorem fm_J9_max_7cf53 : kMb mJ9_max_7cf53 2 := ⟨kw_t 440 (by decide +kernel) (by decide +kernel), kw_t 9 (by decide +kernel) (by decide +kernel), by decide +kernel, by decide⟩
theorem fs_J9_max_7cf53 : Cond.static mJ9_max_7cf53.1 ∈ kw := kw_t 439 (by decide +kernel) (by decide +kernel)
abbrev mJ9_min_7cf53 : kX := (yJ9_min_7cf53, cJ9_min_7cf53, 2, some .int, 0)
theorem fm_J9_min_7cf53 : kMb mJ9_min_7cf53 2 := ⟨kw_t 340 (by decide +kernel) (by decide +kernel), kw_t 9 (by decide +kernel) (by decide +kernel), by decide +kernel, by decide⟩
theorem fs_J9_min_7cf53 : Cond.static mJ9_min_7cf53.1 ∈ kw := kw_t 339 (by decide +kernel) (by decide +kernel)
theorem ml_X5_61 : Cond.methodLink RX5 61 yX5_within ∈ kw := kw_t 191 (by decide +kernel) (by decide +kernel)
theorem ml_X5_69 : Cond.methodLink RX5 69 yX2_forget ∈ kw := kw_t 194 (by decide +kernel) (by decide +kernel)
theorem ml_X5_72 : Cond.methodLink RX5 72 yX3_addStage ∈ kw := kw_t 198 (by decide +kernel) (by decide +kernel)
theorem ml_X5_79 : Cond.methodLink RX5 79 yX3_addRider ∈ kw := kw_t 206 (by decide +kernel) (by decide +kernel)
theorem ml_X5_91 : Cond.methodLink RX5 91 yX5_isRider ∈ kw := kw_t 218 (by decide +kernel) (by decide +kernel)
theorem ml_X5_110 : Cond.methodLink RX5 110 yX5_stageTakes ∈ kw := kw_t 222 (by decide +kernel) (by decide +kernel)
theorem ml_X5_117 : Cond.methodLink RX5 117 yX4_isFull ∈ kw := kw_t 245 (by decide +kernel) (by decide +kernel)
theorem ml_X5_121 : Cond.methodLink RX5 121 yX4_append ∈ kw := kw_t 249 (by decide +kernel) (by decide +kernel)
theorem ml_X5_125 : Cond.methodLink RX5 125 yX4_readRoad ∈ kw := kw_t 257 (by decide +kernel) (by decide +kernel)
theorem ml_X5_132 : Cond.methodLink RX5 132 yX3_takeRoad ∈ kw := kw_t 303 (by decide +kernel) (by decide +kernel)
theorem ml_X5_136 : Cond.methodLink RX5 136 yX3_whoIsThere ∈ kw := kw_t 314 (by decide +kernel) (by decide +kernel)
theorem ml_X5_139 : Cond.methodLink RX5 139 yX3_whoRides ∈ kw := kw_t 319 (by decide +kernel) (by decide +kernel)
theorem ml_X5_142 : Cond.methodLink RX5 142 yX5_sumOf ∈ kw := kw_t 323 (by decide +kernel) (by decide +kernel)
theorem ml_X5_149 : Cond.methodLink RX5 149 yX2_mark ∈ kw := kw_t 330 (by decide +kernel) (by decide +kernel)
theorem ml_X5_152 : Cond.methodLink RX5 152 yX3_rideStage ∈ kw := kw_t 341 (by decide +kernel) (by decide +kernel)
theorem ml_X5_156 : Cond.methodLink RX5 156 yX3_isThere ∈ kw := kw_t 226 (by decide +kernel) (by decide +kernel)
theorem ml_X5_159 : Cond.methodLink RX5 159 yX5_areTwo ∈ kw := kw_t 357 (by decide +kernel) (by decide +kernel)
theorem ml_X5_163 : Cond.methodLink RX5 163 yJ9_min_7cf53 ∈ kw := kw_t 361 (by decide +kernel) (by decide +kernel)
theorem ml_X5_169 : Cond.methodLink RX5 169 yX3_drawWheel ∈ kw := kw_t 366 (by decide +kernel) (by decide +kernel)
theorem ml_X5_172 : Cond.methodLink RX5 172 yX2_goBack ∈ kw := kw_t 377 (by decide +kernel) (by decide +kernel)
theorem ml_X5_178 : Cond.methodLink RX5 178 yX5_isZeroOrOne ∈ kw := kw_t 393 (by decide +kernel) (by decide +kernel)
theorem ml_X5_181 : Cond.methodLink RX5 181 yX0_begin ∈ kw := kw_t 396 (by decide +kernel) (by decide +kernel)
theorem ml_X5_184 : Cond.methodLink RX5 184 yX0_rideToForge ∈ kw := kw_t 409 (by decide +kernel) (by decide +kernel)
theorem ml_X5_190 : Cond.methodLink RX5 190 yX0_cameTo ∈ kw := kw_t 421 (by decide +kernel) (by decide +kernel)
theorem ml_X5_193 : Cond.methodLink RX5 193 yX0_whoIsFirst ∈ kw := kw_t 429 (by decide +kernel) (by decide +kernel)
theorem ml_X5_196 : Cond.methodLink RX5 196 yJ9_max_7cf53 ∈ kw := kw_t 438 (by decide +kernel) (by decide +kernel)
theorem ml_X5_199 : Cond.methodLink RX5 199 yX5_soonestSet ∈ kw := kw_t 445 (by decide +kernel) (by decide +kernel)
theorem ml_X5_202 : Cond.methodLink RX5 202 yX5_minuteBuying ∈ kw := kw_t 449 (by decide +kernel) (by decide +kernel)
theorem ml_X5_205 : Cond.methodLink RX5 205 yX5_fillDuel ∈ kw := kw_t 475 (by decide +kernel) (by decide +kernel)
theorem ml_X5_208 : Cond.methodLink RX5 208 yX5_isRest ∈ kw := kw_t 479 (by decide +kernel) (by decide +kernel)
theorem ml_X5_211 : Cond.methodLink RX5 211 yX5_waysOf ∈ kw := kw_t 487 (by decide +kernel) (by decide +kernel)
theorem ml_X5_214 : Cond.methodLink RX5 214 yX5_isFirstWith ∈ kw := kw_t 491 (by decide +kernel) (by decide +kernel)
theorem ml_X5_217 : Cond.methodLink RX5 217 yX5_sharedDivisor ∈ kw := kw_t 495 (by decide +kernel) (by decide +kernel)
theorem ml_X5_220 : Cond.methodLink RX5 220 yX3_takeAll ∈ kw := kw_t 502 (by decide +kernel) (by decide +kernel)
theorem ml_X5_223 : Cond.methodLink RX5 223 yX2_takeAll ∈ kw := kw_t 503 (by decide +kernel) (by decide +kernel)
theorem ml_X5_226 : Cond.methodLink RX5 226 yX5_rowFault ∈ kw := kw_t 516 (by decide +kernel) (by decide +kernel)
theorem ml_X5_230 : Cond.methodLink RX5 230 yX5_isTold ∈ kw := kw_t 538 (by decide +kernel) (by decide +kernel)
theorem ml_X5_234 : Cond.methodLink RX5 234 yX1_put ∈ kw := kw_t 546 (by decide +kernel) (by decide +kernel)
theorem ml_X5_238 : Cond.methodLink RX5 238 yX5_isSheet ∈ kw := kw_t 520 (by decide +kernel) (by decide +kernel)
theorem ml_X5_241 : Cond.methodLink RX5 241 yX5_isLane ∈ kw := kw_t 523 (by decide +kernel) (by decide +kernel)
theorem ml_X5_244 : Cond.methodLink RX5 244 yX1_lay ∈ kw := kw_t 554 (by decide +kernel) (by decide +kernel)
theorem ml_X5_247 : Cond.methodLink RX5 247 yX1_isMissing ∈ kw := kw_t 562 (by decide +kernel) (by decide +kernel)
theorem ml_X5_250 : Cond.methodLink RX5 250 yX1_clear ∈ kw := kw_t 563 (by decide +kernel) (by decide +kernel)
theorem ml_X5_253 : Cond.methodLink RX5 253 yX1_faultOf ∈ kw := kw_t 526 (by decide +kernel) (by decide +kernel)
theorem ml_X5_259 : Cond.methodLink RX5 259 yX1_holds ∈ kw := kw_t 575 (by decide +kernel) (by decide +kernel)
theorem ml_X5_266 : kcw RX5 266 := kw_t 576 (by decide +kernel) (by decide +kernel)
theorem ml_X5_272 : Cond.methodLink RX5 272 yX5_minutesFor ∈ kw := kw_t 230 (by decide +kernel) (by decide +kernel)
theorem ml_X5_276 : Cond.methodLink RX5 276 yJ6_bitCount_0f7a4 ∈ kw := kw_t 453 (by decide +kernel) (by decide +kernel)
theorem ml_X5_281 : Cond.methodLink RX5 281 yX5_has ∈ kw := kw_t 490 (by decide +kernel) (by decide +kernel)
theorem ml_X0_22 : Cond.methodLink RX0 22 yX3_takeAll ∈ kw := kw_t 400 (by decide +kernel) (by decide +kernel)
theorem ml_X0_30 : Cond.methodLink RX0 30 yX0_noteWhere ∈ kw := kw_t 405 (by decide +kernel) (by decide +kernel)
theorem ml_X0_34 : Cond.methodLink RX0 34 yX3_isThere ∈ kw := kw_t 413 (by decide +kernel) (by decide +kernel)
theorem ml_X0_38 : Cond.methodLink RX0 38 yX3_whoRides ∈ kw := kw_t 414 (by decide +kernel) (by decide +kernel)
theorem ml_X0_49 : Cond.methodLink RX0 49 yX3_rideStage ∈ kw := kw_t 416 (by decide +kernel) (by decide +kernel)
theorem ml_X0_56 : Cond.methodLink RX0 56 yX0_rideToForge ∈ kw := kw_t 433 (by decide +kernel) (by decide +kernel)
theorem ml_X1_22 : Cond.methodLink RX1 22 yX1_isMissing ∈ kw := kw_t 530 (by decide +kernel) (by decide +kernel)
theorem ml_X1_26 : Cond.methodLink RX1 26 yX1_holds ∈ kw := kw_t 534 (by decide +kernel) (by decide +kernel)
theorem ml_X2_22 : Cond.methodLink RX2 22 yX3_writeMoving ∈ kw := kw_t 334 (by decide +kernel) (by decide +kernel)
theorem ml_X2_26 : Cond.methodLink RX2 26 yJ9_min_7cf53 ∈ kw := kw_t 338 (by decide +kernel) (by decide +kernel)
theorem ml_X2_32 : Cond.methodLink RX2 32 yX3_readMoving ∈ kw := kw_t 381 (by decide +kernel) (by decide +kernel)
theorem ml_X2_35 : kcw RX2 35 := kw_t 507 (by decide +kernel) (by decide +kernel)
theorem ml_X3_49 : Cond.methodLink RX3 49 yX3_takeRoad ∈ kw := kw_t 404 (by decide +kernel) (by decide +kernel)
theorem ml_X3_53 : kcw RX3 53 := kw_t 307 (by decide +kernel) (by decide +kernel)
theorem ml_X3_59 : Cond.methodLink RX3 59 yX3_isThere ∈ kw := kw_t 318 (by decide +kernel) (by decide +kernel)
theorem ml_X4_35 : Cond.methodLink RX4 35 yX4_readStages ∈ kw := kw_t 261 (by decide +kernel) (by decide +kernel)
theorem ml_X4_39 : Cond.methodLink RX4 39 yX4_readRiders ∈ kw := kw_t 283 (by decide +kernel) (by decide +kernel)
theorem ml_X4_42 : Cond.methodLink RX4 42 yX4_readStage ∈ kw := kw_t 265 (by decide +kernel) (by decide +kernel)
theorem ml_X4_45 : Cond.methodLink RX4 45 yX4_takes ∈ kw := kw_t 279 (by decide +kernel) (by decide +kernel)
theorem ml_X4_49 : Cond.methodLink RX4 49 yX4_readDigit ∈ kw := kw_t 269 (by decide +kernel) (by decide +kernel)
theorem ml_X4_53 : Cond.methodLink RX4 53 yX3_addStage ∈ kw := kw_t 278 (by decide +kernel) (by decide +kernel)
theorem ml_X4_57 : Cond.methodLink RX4 57 yX4_readRider ∈ kw := kw_t 287 (by decide +kernel) (by decide +kernel)
theorem ml_X4_60 : Cond.methodLink RX4 60 yX4_letterHere ∈ kw := kw_t 273 (by decide +kernel) (by decide +kernel)
theorem ml_X4_64 : Cond.methodLink RX4 64 yX4_kindOf ∈ kw := kw_t 291 (by decide +kernel) (by decide +kernel)
theorem ml_X4_68 : Cond.methodLink RX4 68 yX4_readNumber ∈ kw := kw_t 294 (by decide +kernel) (by decide +kernel)
theorem ml_X4_71 : Cond.methodLink RX4 71 yX3_addRider ∈ kw := kw_t 298 (by decide +kernel) (by decide +kernel)
theorem ml_X4_74 : Cond.methodLink RX4 74 yX4_readBuying ∈ kw := kw_t 299 (by decide +kernel) (by decide +kernel)
theorem ml_X6_38 : Cond.methodLink RX6 38 yX6_in ∈ kw := kw_t 628 (by decide +kernel) (by decide +kernel)
theorem ml_X6_42 : Cond.methodLink RX6 42 yX6_isRider ∈ kw := kw_t 646 (by decide +kernel) (by decide +kernel)
theorem ml_X6_54 : Cond.methodLink RX6 54 yX6_isThere ∈ kw := kw_t 654 (by decide +kernel) (by decide +kernel)
theorem ml_X6_58 : Cond.methodLink RX6 58 yX6_takes ∈ kw := kw_t 658 (by decide +kernel) (by decide +kernel)
theorem ml_X6_62 : Cond.methodLink RX6 62 yX6_takesNow ∈ kw := kw_t 650 (by decide +kernel) (by decide +kernel)
theorem ml_X6_77 : Cond.methodLink RX6 77 yX6_letterAt ∈ kw := kw_t 695 (by decide +kernel) (by decide +kernel)
theorem ml_X6_84 : Cond.methodLink RX6 84 yX6_here ∈ kw := kw_t 691 (by decide +kernel) (by decide +kernel)
theorem ml_X6_88 : Cond.methodLink RX6 88 yX6_fails ∈ kw := kw_t 699 (by decide +kernel) (by decide +kernel)
theorem ml_X6_95 : Cond.methodLink RX6 95 yX6_digit ∈ kw := kw_t 687 (by decide +kernel) (by decide +kernel)
theorem ml_X6_99 : Cond.methodLink RX6 99 yX6_kindBy ∈ kw := kw_t 707 (by decide +kernel) (by decide +kernel)
theorem ml_X6_102 : Cond.methodLink RX6 102 yX6_number ∈ kw := kw_t 710 (by decide +kernel) (by decide +kernel)
theorem ml_X6_105 : Cond.methodLink RX6 105 yX6_takesBuys ∈ kw := kw_t 716 (by decide +kernel) (by decide +kernel)
theorem ml_X6_108 : Cond.methodLink RX6 108 yX6_takesStage ∈ kw := kw_t 683 (by decide +kernel) (by decide +kernel)
theorem ml_X6_112 : Cond.methodLink RX6 112 yX6_takesRider ∈ kw := kw_t 703 (by decide +kernel) (by decide +kernel)
theorem ml_X6_115 : Cond.methodLink RX6 115 yX6_takesRoad ∈ kw := kw_t 679 (by decide +kernel) (by decide +kernel)
theorem ml_X6_118 : Cond.methodLink RX6 118 yX6_copyAll ∈ kw := kw_t 720 (by decide +kernel) (by decide +kernel)
theorem ml_X6_122 : Cond.methodLink RX6 122 yX6_has ∈ kw := kw_t 756 (by decide +kernel) (by decide +kernel)
theorem ml_X6_125 : Cond.methodLink RX6 125 yX6_thereIn ∈ kw := kw_t 728 (by decide +kernel) (by decide +kernel)
theorem ml_X6_128 : Cond.methodLink RX6 128 yX6_nextIn ∈ kw := kw_t 732 (by decide +kernel) (by decide +kernel)
theorem ml_X6_131 : Cond.methodLink RX6 131 yX6_coinsOfAll ∈ kw := kw_t 736 (by decide +kernel) (by decide +kernel)
theorem ml_X6_134 : Cond.methodLink RX6 134 yX6_horsesOfAll ∈ kw := kw_t 740 (by decide +kernel) (by decide +kernel)
theorem ml_X6_137 : Cond.methodLink RX6 137 yX6_minds ∈ kw := kw_t 748 (by decide +kernel) (by decide +kernel)
theorem ml_X6_140 : Cond.methodLink RX6 140 yX6_rides ∈ kw := kw_t 752 (by decide +kernel) (by decide +kernel)
theorem ml_X6_144 : Cond.methodLink RX6 144 yX6_areTwo ∈ kw := kw_t 767 (by decide +kernel) (by decide +kernel)
theorem ml_X6_150 : Cond.methodLink RX6 150 yX6_tries ∈ kw := kw_t 794 (by decide +kernel) (by decide +kernel)
theorem ml_X6_153 : Cond.methodLink RX6 153 yX6_ridesOn ∈ kw := kw_t 798 (by decide +kernel) (by decide +kernel)
theorem ml_X6_156 : Cond.methodLink RX6 156 yX6_foretells ∈ kw := kw_t 790 (by decide +kernel) (by decide +kernel)
theorem ml_X6_159 : Cond.methodLink RX6 159 yX6_firstTried ∈ kw := kw_t 810 (by decide +kernel) (by decide +kernel)
theorem ml_X6_163 : Cond.methodLink RX6 163 yX6_ones ∈ kw := kw_t 823 (by decide +kernel) (by decide +kernel)
theorem ml_X6_168 : Cond.methodLink RX6 168 yX6_layDuel ∈ kw := kw_t 843 (by decide +kernel) (by decide +kernel)
theorem ml_X6_171 : Cond.methodLink RX6 171 yX6_rests ∈ kw := kw_t 847 (by decide +kernel) (by decide +kernel)
theorem ml_X6_182 : Cond.methodLink RX6 182 yX6_isSheet ∈ kw := kw_t 871 (by decide +kernel) (by decide +kernel)
theorem ml_X6_185 : Cond.methodLink RX6 185 yX6_isLane ∈ kw := kw_t 868 (by decide +kernel) (by decide +kernel)
theorem ml_X6_190 : Cond.methodLink RX6 190 yX6_against ∈ kw := kw_t 876 (by decide +kernel) (by decide +kernel)
theorem ml_X6_194 : Cond.methodLink RX6 194 yX6_cut ∈ kw := kw_t 884 (by decide +kernel) (by decide +kernel)
theorem cn_X3_71 : Cond.constant RX3 71 (1103515245) ∈ kw := kw_t 370 (by decide +kernel) (by decide +kernel)
theorem cn_X3_72 : Cond.constant RX3 72 (2147483647) ∈ kw := kw_t 371 (by decide +kernel) (by decide +kernel)
theorem cn_X3_73 : Cond.constant RX3 73 (65536) ∈ kw := kw_t 372 (by decide +kernel) (by decide +kernel)
theorem cn_X6_147 : Cond.constant RX6 147 (1103515245) ∈ kw := kw_t 775 (by decide +kernel) (by decide +kernel)
theorem cn_X6_148 : Cond.constant RX6 148 (2147483647) ∈ kw := kw_t 776 (by decide +kernel) (by decide +kernel)
theorem cn_X6_149 : Cond.constant RX6 149 (65536) ∈ kw := kw_t 777 (by decide +kernel) (by decide +kernel)
theorem cn_X6_162 : Cond.constant RX6 162 (1000000000) ∈ kw := kw_t 822 (by decide +kernel) (by decide +kernel)
theorem cn_J6_265 : Cond.constant RJ6 265 (1431655765) ∈ kw := kw_t 456 (by decide +kernel) (by decide +kernel)
theorem cn_J6_266 : Cond.constant RJ6 266 (858993459) ∈ kw := kw_t 457 (by decide +kernel) (by decide +kernel)
theorem cn_J6_267 : Cond.constant RJ6 267 (252645135) ∈ kw := kw_t 458 (by decide +kernel) (by decide +kernel)
theorem cn_X6_46 : Cond.constantLong RX6 46 (9) ∈ kw := kw_t 627 (by decide +kernel) (by decide +kernel)
theorem cn_X6_48 : Cond.constantLong RX6 48 (4) ∈ kw := kw_t 631 (by decide +kernel) (by decide +kernel)
theorem cn_X6_50 : Cond.constantLong RX6 50 (999) ∈ kw := kw_t 636 (by decide +kernel) (by decide +kernel)
theorem cn_X6_52 : Cond.constantLong RX6 52 (99) ∈ kw := kw_t 637 (by decide +kernel) (by decide +kernel)
theorem cn_X6_66 : Cond.constantLong RX6 66 (32) ∈ kw := kw_t 673 (by decide +kernel) (by decide +kernel)
theorem cn_X6_68 : Cond.constantLong RX6 68 (126) ∈ kw := kw_t 674 (by decide +kernel) (by decide +kernel)
theorem cn_X6_91 : Cond.constantLong RX6 91 (48) ∈ kw := kw_t 714 (by decide +kernel) (by decide +kernel)
theorem cn_X6_93 : Cond.constantLong RX6 93 (57) ∈ kw := kw_t 715 (by decide +kernel) (by decide +kernel)
theorem cn_X6_166 : Cond.constantLong RX6 166 (9999) ∈ kw := kw_t 834 (by decide +kernel) (by decide +kernel)
theorem cn_X6_174 : Cond.constantLong RX6 174 (10) ∈ kw := kw_t 855 (by decide +kernel) (by decide +kernel)
theorem cn_X6_180 : Cond.constantLong RX6 180 (3) ∈ kw := kw_t 874 (by decide +kernel) (by decide +kernel)
theorem cn_X6_188 : Cond.constantLong RX6 188 (8) ∈ kw := kw_t 875 (by decide +kernel) (by decide +kernel)
theorem ic_m1 : Int32.ofInt (-1) = -1 := by decide
theorem ic_0 : Int32.ofInt (0) = 0 := by decide
theorem ic_1 : Int32.ofInt (1) = 1 := by decide
theorem ic_2 : Int32.ofInt (2) = 2 := by decide
theorem ic_3 : Int32.ofInt (3) = 3 := by decide
theorem ic_4 : Int32.ofInt (4) = 4 := by decide
theorem ic_5 : Int32.ofInt (5) = 5 := by decide
theorem bp_m20 : (Int8.ofInt (-20)).toInt32 = -20 := by decide
theorem bp_m14 : (Int8.ofInt (-14)).toInt32 = -14 := by decide
theorem bp_m13 : (Int8.ofInt (-13)).toInt32 = -13 := by decide
theorem bp_m12 : (Int8.ofInt (-12)).toInt32 = -12 := by decide
theorem bp_m11 : (Int8.ofInt (-11)).toInt32 = -11 := by decide
theorem bp_m4 : (Int8.ofInt (-4)).toInt32 = -4 := by decide
theorem bp_m3 : (Int8.ofInt (-3)).toInt32 = -3 := by decide
theorem bp_m2 : (Int8.ofInt (-2)).toInt32 = -2 := by decide
theorem bp_6 : (Int8.ofInt (6)).toInt32 = 6 := by decide
theorem bp_7 : (Int8.ofInt (7)).toInt32 = 7 := by decide
theorem bp_8 : (Int8.ofInt (8)).toInt32 = 8 := by decide
theorem bp_9 : (Int8.ofInt (9)).toInt32 = 9 := by decide
theorem bp_10 : (Int8.ofInt (10)).toInt32 = 10 := by decide
theorem bp_12 : (Int8.ofInt (12)).toInt32 = 12 := by decide
theorem bp_16 : (Int8.ofInt (16)).toInt32 = 16 := by decide
theorem bp_20 : (Int8.ofInt (20)).toInt32 = 20 := by decide
theorem bp_21 : (Int8.ofInt (21)).toInt32 = 21 := by decide
theorem bp_22 : (Int8.ofInt (22)).toInt32 = 22 := by decide
theorem bp_23 : (Int8.ofInt (23)).toInt32 = 23 := by decide
theorem bp_24 : (Int8.ofInt (24)).toInt32 = 24 := by decide
theorem bp_30 : (Int8.ofInt (30)).toInt32 = 30 := by decide
theorem bp_32 : (Int8.ofInt (32)).toInt32 = 32 := by decide
theorem bp_36 : (Int8.ofInt (36)).toInt32 = 36 := by decide
theorem bp_40 : (Int8.ofInt (40)).toInt32 = 40 := by decide
theorem bp_44 : (Int8.ofInt (44)).toInt32 = 44 := by decide
theorem bp_47 : (Int8.ofInt (47)).toInt32 = 47 := by decide
theorem bp_48 : (Int8.ofInt (48)).toInt32 = 48 := by decide
theorem bp_49 : (Int8.ofInt (49)).toInt32 = 49 := by decide
theorem bp_57 : (Int8.ofInt (57)).toInt32 = 57 := by decide
theorem bp_58 : (Int8.ofInt (58)).toInt32 = 58 := by decide
theorem bp_59 : (Int8.ofInt (59)).toInt32 = 59 := by decide
theorem bp_63 : (Int8.ofInt (63)).toInt32 = 63 := by decide
theorem bp_64 : (Int8.ofInt (64)).toInt32 = 64 := by decide
theorem bp_70 : (Int8.ofInt (70)).toInt32 = 70 := by decide
theorem bp_90 : (Int8.ofInt (90)).toInt32 = 90 := by decide
theorem bp_98 : (Int8.ofInt (98)).toInt32 = 98 := by decide
theorem bp_99 : (Int8.ofInt (99)).toInt32 = 99 := by decide
theorem bp_100 : (Int8.ofInt (100)).toInt32 = 100 := by decide
theorem bp_111 : (Int8.ofInt (111)).toInt32 = 111 := by decide
theorem bp_112 : (Int8.ofInt (112)).toInt32 = 112 := by decide
theorem bp_114 : (Int8.ofInt (114)).toInt32 = 114 := by decide
theorem bp_115 : (Int8.ofInt (115)).toInt32 = 115 := by decide
theorem bp_126 : (Int8.ofInt (126)).toInt32 = 126 := by decide
theorem sp_147 : (Int16.ofInt (147)).toInt32 = 147 := by decide
theorem sp_217 : (Int16.ofInt (217)).toInt32 = 217 := by decide
theorem sp_300 : (Int16.ofInt (300)).toInt32 = 300 := by decide
theorem sp_434 : (Int16.ofInt (434)).toInt32 = 434 := by decide
theorem sp_442 : (Int16.ofInt (442)).toInt32 = 442 := by decide
theorem sp_446 : (Int16.ofInt (446)).toInt32 = 446 := by decide
theorem sp_450 : (Int16.ofInt (450)).toInt32 = 450 := by decide
theorem sp_454 : (Int16.ofInt (454)).toInt32 = 454 := by decide
theorem sp_455 : (Int16.ofInt (455)).toInt32 = 455 := by decide
theorem sp_456 : (Int16.ofInt (456)).toInt32 = 456 := by decide
theorem sp_457 : (Int16.ofInt (457)).toInt32 = 457 := by decide
theorem sp_458 : (Int16.ofInt (458)).toInt32 = 458 := by decide
theorem sp_466 : (Int16.ofInt (466)).toInt32 = 466 := by decide
theorem sp_474 : (Int16.ofInt (474)).toInt32 = 474 := by decide
theorem sp_478 : (Int16.ofInt (478)).toInt32 = 478 := by decide
theorem sp_999 : (Int16.ofInt (999)).toInt32 = 999 := by decide
theorem sp_9999 : (Int16.ofInt (9999)).toInt32 = 9999 := by decide
theorem sp_12345 : (Int16.ofInt (12345)).toInt32 = 12345 := by decide
def kqi (Q : Int32 → kM → Prop) : Option kV → kM → Prop := fun v M => ∃ r : Int32, v = some (.inl r) ∧ Q r M
def kql (Q : Int64 → kM → Prop) : Option kV → kM → Prop := fun v M => ∃ r : Int64, v = some (.inr (.inl r)) ∧ Q r M
def kqv (Q : kM → Prop) : Option kV → kM → Prop := fun v M => v = none ∧ Q M
end
