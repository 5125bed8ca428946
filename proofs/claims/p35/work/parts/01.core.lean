-- ===== PART A: goes FIRST, ahead of the names: the tables' words, and 'selects' of the private methods out of them =====
/-- a private method of a class that the tables say can be made, by its rows of tables_1 -/
def lw_okq (q : MethodName × Nat) : Prop := (q.1.cls ≠ "java/lang/invoke/MethodHandle" ∧ q.1.cls ≠ "java/lang/invoke/VarHandle") ∧ Cond.instantiable q.1.cls q.2 ∈ tables_1 ∧ Cond.privateMethod q.1 ∈ tables_1 ∧ Cond.instanceMethod q.1 ∈ tables_1
theorem lw_p0 : lw_okq (⟨"KnitRiver", "refuse", "(I)I"⟩, 9) := ⟨⟨by decide +kernel, by decide +kernel⟩, List.mem_of_getElem? (i := 15) (by decide +kernel), List.mem_of_getElem? (i := 305) (by decide +kernel), List.mem_of_getElem? (i := 306) (by decide +kernel)⟩
theorem lw_p1 : lw_okq (⟨"KnitRiver$Text", "push", "(I)V"⟩, 5) := ⟨⟨by decide +kernel, by decide +kernel⟩, List.mem_of_getElem? (i := 30) (by decide +kernel), List.mem_of_getElem? (i := 325) (by decide +kernel), List.mem_of_getElem? (i := 326) (by decide +kernel)⟩
theorem lw_p2 : lw_okq (⟨"KnitRiver$Text", "pop", "()I"⟩, 5) := ⟨⟨by decide +kernel, by decide +kernel⟩, List.mem_of_getElem? (i := 30) (by decide +kernel), List.mem_of_getElem? (i := 329) (by decide +kernel), List.mem_of_getElem? (i := 330) (by decide +kernel)⟩
theorem lw_p3 : lw_okq (⟨"KnitRiver", "isRow", "(I)Z"⟩, 9) := ⟨⟨by decide +kernel, by decide +kernel⟩, List.mem_of_getElem? (i := 15) (by decide +kernel), List.mem_of_getElem? (i := 353) (by decide +kernel), List.mem_of_getElem? (i := 354) (by decide +kernel)⟩
theorem lw_p4 : lw_okq (⟨"KnitRiver$Reader", "part", "(II)Z"⟩, 6) := ⟨⟨by decide +kernel, by decide +kernel⟩, List.mem_of_getElem? (i := 131) (by decide +kernel), List.mem_of_getElem? (i := 428) (by decide +kernel), List.mem_of_getElem? (i := 429) (by decide +kernel)⟩
theorem lw_p5 : lw_okq (⟨"KnitRiver$Reader", "between", "(II)Z"⟩, 6) := ⟨⟨by decide +kernel, by decide +kernel⟩, List.mem_of_getElem? (i := 131) (by decide +kernel), List.mem_of_getElem? (i := 432) (by decide +kernel), List.mem_of_getElem? (i := 433) (by decide +kernel)⟩
theorem lw_p6 : lw_okq (⟨"KnitRiver$Reader", "piece", "(I)Z"⟩, 6) := ⟨⟨by decide +kernel, by decide +kernel⟩, List.mem_of_getElem? (i := 131) (by decide +kernel), List.mem_of_getElem? (i := 436) (by decide +kernel), List.mem_of_getElem? (i := 437) (by decide +kernel)⟩
theorem lw_p7 : lw_okq (⟨"KnitRiver$Reader", "next", "()I"⟩, 6) := ⟨⟨by decide +kernel, by decide +kernel⟩, List.mem_of_getElem? (i := 131) (by decide +kernel), List.mem_of_getElem? (i := 440) (by decide +kernel), List.mem_of_getElem? (i := 441) (by decide +kernel)⟩
theorem lw_p8 : lw_okq (⟨"KnitRiver$Reader", "number", "()V"⟩, 6) := ⟨⟨by decide +kernel, by decide +kernel⟩, List.mem_of_getElem? (i := 131) (by decide +kernel), List.mem_of_getElem? (i := 447) (by decide +kernel), List.mem_of_getElem? (i := 448) (by decide +kernel)⟩
theorem lw_p9 : lw_okq (⟨"KnitRiver$Reader", "keep", "(I)V"⟩, 6) := ⟨⟨by decide +kernel, by decide +kernel⟩, List.mem_of_getElem? (i := 131) (by decide +kernel), List.mem_of_getElem? (i := 451) (by decide +kernel), List.mem_of_getElem? (i := 452) (by decide +kernel)⟩
theorem lw_p10 : lw_okq (⟨"KnitRiver$Reader", "opened", "(II)Z"⟩, 6) := ⟨⟨by decide +kernel, by decide +kernel⟩, List.mem_of_getElem? (i := 131) (by decide +kernel), List.mem_of_getElem? (i := 455) (by decide +kernel), List.mem_of_getElem? (i := 456) (by decide +kernel)⟩
theorem lw_p11 : lw_okq (⟨"KnitRiver$Reader", "nameOf", "(I)I"⟩, 6) := ⟨⟨by decide +kernel, by decide +kernel⟩, List.mem_of_getElem? (i := 131) (by decide +kernel), List.mem_of_getElem? (i := 459) (by decide +kernel), List.mem_of_getElem? (i := 460) (by decide +kernel)⟩
theorem lw_p12 : lw_okq (⟨"KnitRiver$Course", "wasAhead", "(I)Z"⟩, 4) := ⟨⟨by decide +kernel, by decide +kernel⟩, List.mem_of_getElem? (i := 159) (by decide +kernel), List.mem_of_getElem? (i := 555) (by decide +kernel), List.mem_of_getElem? (i := 556) (by decide +kernel)⟩
theorem lw_p13 : lw_okq (⟨"KnitRiver$Reach", "leads", "(ILKnitRiver$Course;II)Z"⟩, 4) := ⟨⟨by decide +kernel, by decide +kernel⟩, List.mem_of_getElem? (i := 184) (by decide +kernel), List.mem_of_getElem? (i := 572) (by decide +kernel), List.mem_of_getElem? (i := 573) (by decide +kernel)⟩
theorem lw_p14 : lw_okq (⟨"KnitRiver$Reach", "keepIfLess", "(I)V"⟩, 4) := ⟨⟨by decide +kernel, by decide +kernel⟩, List.mem_of_getElem? (i := 184) (by decide +kernel), List.mem_of_getElem? (i := 583) (by decide +kernel), List.mem_of_getElem? (i := 584) (by decide +kernel)⟩
theorem lw_p15 : lw_okq (⟨"KnitRiver$Reach", "yarnOf", "(I)I"⟩, 4) := ⟨⟨by decide +kernel, by decide +kernel⟩, List.mem_of_getElem? (i := 184) (by decide +kernel), List.mem_of_getElem? (i := 587) (by decide +kernel), List.mem_of_getElem? (i := 588) (by decide +kernel)⟩
def lw_privs_1 : List (MethodName × Nat) := [(⟨"KnitRiver", "refuse", "(I)I"⟩, 9), (⟨"KnitRiver$Text", "push", "(I)V"⟩, 5), (⟨"KnitRiver$Text", "pop", "()I"⟩, 5), (⟨"KnitRiver", "isRow", "(I)Z"⟩, 9), (⟨"KnitRiver$Reader", "part", "(II)Z"⟩, 6), (⟨"KnitRiver$Reader", "between", "(II)Z"⟩, 6), (⟨"KnitRiver$Reader", "piece", "(I)Z"⟩, 6), (⟨"KnitRiver$Reader", "next", "()I"⟩, 6), (⟨"KnitRiver$Reader", "number", "()V"⟩, 6), (⟨"KnitRiver$Reader", "keep", "(I)V"⟩, 6), (⟨"KnitRiver$Reader", "opened", "(II)Z"⟩, 6), (⟨"KnitRiver$Reader", "nameOf", "(I)I"⟩, 6), (⟨"KnitRiver$Course", "wasAhead", "(I)Z"⟩, 4), (⟨"KnitRiver$Reach", "leads", "(ILKnitRiver$Course;II)Z"⟩, 4), (⟨"KnitRiver$Reach", "keepIfLess", "(I)V"⟩, 4), (⟨"KnitRiver$Reach", "yarnOf", "(I)I"⟩, 4)]
theorem lw_r1 : ∀ q ∈ lw_privs_1, lw_okq q := List.forall_mem_cons.mpr ⟨lw_p0, List.forall_mem_cons.mpr ⟨lw_p1, List.forall_mem_cons.mpr ⟨lw_p2, List.forall_mem_cons.mpr ⟨lw_p3, List.forall_mem_cons.mpr ⟨lw_p4, List.forall_mem_cons.mpr ⟨lw_p5, List.forall_mem_cons.mpr ⟨lw_p6, List.forall_mem_cons.mpr ⟨lw_p7, List.forall_mem_cons.mpr ⟨lw_p8, List.forall_mem_cons.mpr ⟨lw_p9, List.forall_mem_cons.mpr ⟨lw_p10, List.forall_mem_cons.mpr ⟨lw_p11, List.forall_mem_cons.mpr ⟨lw_p12, List.forall_mem_cons.mpr ⟨lw_p13, List.forall_mem_cons.mpr ⟨lw_p14, List.forall_mem_cons.mpr ⟨lw_p15, fun _ h => absurd h List.not_mem_nil⟩⟩⟩⟩⟩⟩⟩⟩⟩⟩⟩⟩⟩⟩⟩⟩
theorem lw_p16 : lw_okq (⟨"KnitRiver", "comesAsTold", "(ILKnitRiver$Sheet;)Z"⟩, 9) := ⟨⟨by decide +kernel, by decide +kernel⟩, List.mem_of_getElem? (i := 15) (by decide +kernel), List.mem_of_getElem? (i := 623) (by decide +kernel), List.mem_of_getElem? (i := 624) (by decide +kernel)⟩
theorem lw_p17 : lw_okq (⟨"KnitRiver$Voices", "spoken", "(IIII)I"⟩, 9) := ⟨⟨by decide +kernel, by decide +kernel⟩, List.mem_of_getElem? (i := 207) (by decide +kernel), List.mem_of_getElem? (i := 635) (by decide +kernel), List.mem_of_getElem? (i := 636) (by decide +kernel)⟩
theorem lw_p18 : lw_okq (⟨"KnitRiver$Voices", "workedOut", "(III)I"⟩, 9) := ⟨⟨by decide +kernel, by decide +kernel⟩, List.mem_of_getElem? (i := 207) (by decide +kernel), List.mem_of_getElem? (i := 645) (by decide +kernel), List.mem_of_getElem? (i := 646) (by decide +kernel)⟩
theorem lw_p19 : lw_okq (⟨"KnitRiver$Voices", "partedBy", "(II)I"⟩, 9) := ⟨⟨by decide +kernel, by decide +kernel⟩, List.mem_of_getElem? (i := 207) (by decide +kernel), List.mem_of_getElem? (i := 649) (by decide +kernel), List.mem_of_getElem? (i := 650) (by decide +kernel)⟩
theorem lw_p20 : lw_okq (⟨"KnitRiver", "whyNoSheet", "(I)I"⟩, 9) := ⟨⟨by decide +kernel, by decide +kernel⟩, List.mem_of_getElem? (i := 15) (by decide +kernel), List.mem_of_getElem? (i := 671) (by decide +kernel), List.mem_of_getElem? (i := 672) (by decide +kernel)⟩
theorem lw_p21 : lw_okq (⟨"KnitRiverModel", "error", "(I)I"⟩, 27) := ⟨⟨by decide +kernel, by decide +kernel⟩, List.mem_of_getElem? (i := 730) (by decide +kernel), List.mem_of_getElem? (i := 825) (by decide +kernel), List.mem_of_getElem? (i := 826) (by decide +kernel)⟩
theorem lw_p22 : lw_okq (⟨"KnitRiverModel", "whole", "()Z"⟩, 27) := ⟨⟨by decide +kernel, by decide +kernel⟩, List.mem_of_getElem? (i := 730) (by decide +kernel), List.mem_of_getElem? (i := 835) (by decide +kernel), List.mem_of_getElem? (i := 836) (by decide +kernel)⟩
theorem lw_p23 : lw_okq (⟨"KnitRiverModel", "both", "()Z"⟩, 27) := ⟨⟨by decide +kernel, by decide +kernel⟩, List.mem_of_getElem? (i := 730) (by decide +kernel), List.mem_of_getElem? (i := 839) (by decide +kernel), List.mem_of_getElem? (i := 840) (by decide +kernel)⟩
theorem lw_p24 : lw_okq (⟨"KnitRiverModel", "compared", "()Z"⟩, 27) := ⟨⟨by decide +kernel, by decide +kernel⟩, List.mem_of_getElem? (i := 730) (by decide +kernel), List.mem_of_getElem? (i := 843) (by decide +kernel), List.mem_of_getElem? (i := 844) (by decide +kernel)⟩
theorem lw_p25 : lw_okq (⟨"KnitRiverModel", "sum", "()Z"⟩, 27) := ⟨⟨by decide +kernel, by decide +kernel⟩, List.mem_of_getElem? (i := 730) (by decide +kernel), List.mem_of_getElem? (i := 847) (by decide +kernel), List.mem_of_getElem? (i := 848) (by decide +kernel)⟩
theorem lw_p26 : lw_okq (⟨"KnitRiverModel", "product", "()Z"⟩, 27) := ⟨⟨by decide +kernel, by decide +kernel⟩, List.mem_of_getElem? (i := 730) (by decide +kernel), List.mem_of_getElem? (i := 851) (by decide +kernel), List.mem_of_getElem? (i := 852) (by decide +kernel)⟩
theorem lw_p27 : lw_okq (⟨"KnitRiverModel", "one", "()Z"⟩, 27) := ⟨⟨by decide +kernel, by decide +kernel⟩, List.mem_of_getElem? (i := 730) (by decide +kernel), List.mem_of_getElem? (i := 855) (by decide +kernel), List.mem_of_getElem? (i := 856) (by decide +kernel)⟩
theorem lw_p28 : lw_okq (⟨"KnitRiverModel", "look", "()I"⟩, 27) := ⟨⟨by decide +kernel, by decide +kernel⟩, List.mem_of_getElem? (i := 730) (by decide +kernel), List.mem_of_getElem? (i := 859) (by decide +kernel), List.mem_of_getElem? (i := 860) (by decide +kernel)⟩
theorem lw_p29 : lw_okq (⟨"KnitRiverModel", "isName", "(I)Z"⟩, 27) := ⟨⟨by decide +kernel, by decide +kernel⟩, List.mem_of_getElem? (i := 730) (by decide +kernel), List.mem_of_getElem? (i := 863) (by decide +kernel), List.mem_of_getElem? (i := 864) (by decide +kernel)⟩
theorem lw_p30 : lw_okq (⟨"KnitRiverModel", "step1", "(II)V"⟩, 27) := ⟨⟨by decide +kernel, by decide +kernel⟩, List.mem_of_getElem? (i := 730) (by decide +kernel), List.mem_of_getElem? (i := 867) (by decide +kernel), List.mem_of_getElem? (i := 868) (by decide +kernel)⟩
theorem lw_p31 : lw_okq (⟨"KnitRiverModel", "opens", "()Z"⟩, 27) := ⟨⟨by decide +kernel, by decide +kernel⟩, List.mem_of_getElem? (i := 730) (by decide +kernel), List.mem_of_getElem? (i := 871) (by decide +kernel), List.mem_of_getElem? (i := 872) (by decide +kernel)⟩
def lw_privs_2 : List (MethodName × Nat) := [(⟨"KnitRiver", "comesAsTold", "(ILKnitRiver$Sheet;)Z"⟩, 9), (⟨"KnitRiver$Voices", "spoken", "(IIII)I"⟩, 9), (⟨"KnitRiver$Voices", "workedOut", "(III)I"⟩, 9), (⟨"KnitRiver$Voices", "partedBy", "(II)I"⟩, 9), (⟨"KnitRiver", "whyNoSheet", "(I)I"⟩, 9), (⟨"KnitRiverModel", "error", "(I)I"⟩, 27), (⟨"KnitRiverModel", "whole", "()Z"⟩, 27), (⟨"KnitRiverModel", "both", "()Z"⟩, 27), (⟨"KnitRiverModel", "compared", "()Z"⟩, 27), (⟨"KnitRiverModel", "sum", "()Z"⟩, 27), (⟨"KnitRiverModel", "product", "()Z"⟩, 27), (⟨"KnitRiverModel", "one", "()Z"⟩, 27), (⟨"KnitRiverModel", "look", "()I"⟩, 27), (⟨"KnitRiverModel", "isName", "(I)Z"⟩, 27), (⟨"KnitRiverModel", "step1", "(II)V"⟩, 27), (⟨"KnitRiverModel", "opens", "()Z"⟩, 27)]
theorem lw_r2 : ∀ q ∈ lw_privs_2, lw_okq q := List.forall_mem_cons.mpr ⟨lw_p16, List.forall_mem_cons.mpr ⟨lw_p17, List.forall_mem_cons.mpr ⟨lw_p18, List.forall_mem_cons.mpr ⟨lw_p19, List.forall_mem_cons.mpr ⟨lw_p20, List.forall_mem_cons.mpr ⟨lw_p21, List.forall_mem_cons.mpr ⟨lw_p22, List.forall_mem_cons.mpr ⟨lw_p23, List.forall_mem_cons.mpr ⟨lw_p24, List.forall_mem_cons.mpr ⟨lw_p25, List.forall_mem_cons.mpr ⟨lw_p26, List.forall_mem_cons.mpr ⟨lw_p27, List.forall_mem_cons.mpr ⟨lw_p28, List.forall_mem_cons.mpr ⟨lw_p29, List.forall_mem_cons.mpr ⟨lw_p30, List.forall_mem_cons.mpr ⟨lw_p31, fun _ h => absurd h List.not_mem_nil⟩⟩⟩⟩⟩⟩⟩⟩⟩⟩⟩⟩⟩⟩⟩⟩
theorem lw_p32 : lw_okq (⟨"KnitRiverModel", "hasText", "(I)Z"⟩, 27) := ⟨⟨by decide +kernel, by decide +kernel⟩, List.mem_of_getElem? (i := 730) (by decide +kernel), List.mem_of_getElem? (i := 879) (by decide +kernel), List.mem_of_getElem? (i := 880) (by decide +kernel)⟩
theorem lw_p33 : lw_okq (⟨"KnitRiverModel", "yarnAs", "(III)I"⟩, 27) := ⟨⟨by decide +kernel, by decide +kernel⟩, List.mem_of_getElem? (i := 730) (by decide +kernel), List.mem_of_getElem? (i := 893) (by decide +kernel), List.mem_of_getElem? (i := 894) (by decide +kernel)⟩
theorem lw_p34 : lw_okq (⟨"KnitRiverModel", "saidOf", "(IIII)I"⟩, 27) := ⟨⟨by decide +kernel, by decide +kernel⟩, List.mem_of_getElem? (i := 730) (by decide +kernel), List.mem_of_getElem? (i := 897) (by decide +kernel), List.mem_of_getElem? (i := 898) (by decide +kernel)⟩
theorem lw_p35 : lw_okq (⟨"KnitRiverModel", "yarnTold", "(III)I"⟩, 27) := ⟨⟨by decide +kernel, by decide +kernel⟩, List.mem_of_getElem? (i := 730) (by decide +kernel), List.mem_of_getElem? (i := 901) (by decide +kernel), List.mem_of_getElem? (i := 902) (by decide +kernel)⟩
theorem lw_p36 : lw_okq (⟨"KnitRiverModel", "worked", "(I)I"⟩, 27) := ⟨⟨by decide +kernel, by decide +kernel⟩, List.mem_of_getElem? (i := 730) (by decide +kernel), List.mem_of_getElem? (i := 905) (by decide +kernel), List.mem_of_getElem? (i := 906) (by decide +kernel)⟩
theorem lw_p37 : lw_okq (⟨"KnitRiverModel", "lays1", "(III)V"⟩, 27) := ⟨⟨by decide +kernel, by decide +kernel⟩, List.mem_of_getElem? (i := 730) (by decide +kernel), List.mem_of_getElem? (i := 915) (by decide +kernel), List.mem_of_getElem? (i := 916) (by decide +kernel)⟩
theorem lw_p38 : lw_okq (⟨"KnitRiverModel", "isRow", "(I)Z"⟩, 27) := ⟨⟨by decide +kernel, by decide +kernel⟩, List.mem_of_getElem? (i := 730) (by decide +kernel), List.mem_of_getElem? (i := 923) (by decide +kernel), List.mem_of_getElem? (i := 924) (by decide +kernel)⟩
theorem lw_p39 : lw_okq (⟨"KnitRiverModel", "its", "(II)I"⟩, 27) := ⟨⟨by decide +kernel, by decide +kernel⟩, List.mem_of_getElem? (i := 730) (by decide +kernel), List.mem_of_getElem? (i := 927) (by decide +kernel), List.mem_of_getElem? (i := 928) (by decide +kernel)⟩
theorem lw_p40 : lw_okq (⟨"KnitRiverModel", "yarnOf", "(I)I"⟩, 27) := ⟨⟨by decide +kernel, by decide +kernel⟩, List.mem_of_getElem? (i := 730) (by decide +kernel), List.mem_of_getElem? (i := 931) (by decide +kernel), List.mem_of_getElem? (i := 932) (by decide +kernel)⟩
theorem lw_p41 : lw_okq (⟨"KnitRiverModel", "holdsBy", "(II)I"⟩, 27) := ⟨⟨by decide +kernel, by decide +kernel⟩, List.mem_of_getElem? (i := 730) (by decide +kernel), List.mem_of_getElem? (i := 935) (by decide +kernel), List.mem_of_getElem? (i := 936) (by decide +kernel)⟩
theorem lw_p42 : lw_okq (⟨"KnitRiverModel", "holdsTold", "(III)I"⟩, 27) := ⟨⟨by decide +kernel, by decide +kernel⟩, List.mem_of_getElem? (i := 730) (by decide +kernel), List.mem_of_getElem? (i := 939) (by decide +kernel), List.mem_of_getElem? (i := 940) (by decide +kernel)⟩
theorem lw_p43 : lw_okq (⟨"KnitRiverModel", "change1", "(II)I"⟩, 27) := ⟨⟨by decide +kernel, by decide +kernel⟩, List.mem_of_getElem? (i := 730) (by decide +kernel), List.mem_of_getElem? (i := 950) (by decide +kernel), List.mem_of_getElem? (i := 951) (by decide +kernel)⟩
theorem lw_p44 : lw_okq (⟨"KnitRiverModel", "aSeason", "(I)I"⟩, 27) := ⟨⟨by decide +kernel, by decide +kernel⟩, List.mem_of_getElem? (i := 730) (by decide +kernel), List.mem_of_getElem? (i := 992) (by decide +kernel), List.mem_of_getElem? (i := 993) (by decide +kernel)⟩
theorem lw_p45 : lw_okq (⟨"KnitRiverModel", "letDown", "(II)V"⟩, 27) := ⟨⟨by decide +kernel, by decide +kernel⟩, List.mem_of_getElem? (i := 730) (by decide +kernel), List.mem_of_getElem? (i := 996) (by decide +kernel), List.mem_of_getElem? (i := 997) (by decide +kernel)⟩
theorem lw_p46 : lw_okq (⟨"KnitRiverModel", "draw", "()I"⟩, 27) := ⟨⟨by decide +kernel, by decide +kernel⟩, List.mem_of_getElem? (i := 730) (by decide +kernel), List.mem_of_getElem? (i := 1004) (by decide +kernel), List.mem_of_getElem? (i := 1005) (by decide +kernel)⟩
theorem lw_p47 : lw_okq (⟨"KnitRiverModel", "findCourse", "()V"⟩, 27) := ⟨⟨by decide +kernel, by decide +kernel⟩, List.mem_of_getElem? (i := 730) (by decide +kernel), List.mem_of_getElem? (i := 1021) (by decide +kernel), List.mem_of_getElem? (i := 1022) (by decide +kernel)⟩
def lw_privs_3 : List (MethodName × Nat) := [(⟨"KnitRiverModel", "hasText", "(I)Z"⟩, 27), (⟨"KnitRiverModel", "yarnAs", "(III)I"⟩, 27), (⟨"KnitRiverModel", "saidOf", "(IIII)I"⟩, 27), (⟨"KnitRiverModel", "yarnTold", "(III)I"⟩, 27), (⟨"KnitRiverModel", "worked", "(I)I"⟩, 27), (⟨"KnitRiverModel", "lays1", "(III)V"⟩, 27), (⟨"KnitRiverModel", "isRow", "(I)Z"⟩, 27), (⟨"KnitRiverModel", "its", "(II)I"⟩, 27), (⟨"KnitRiverModel", "yarnOf", "(I)I"⟩, 27), (⟨"KnitRiverModel", "holdsBy", "(II)I"⟩, 27), (⟨"KnitRiverModel", "holdsTold", "(III)I"⟩, 27), (⟨"KnitRiverModel", "change1", "(II)I"⟩, 27), (⟨"KnitRiverModel", "aSeason", "(I)I"⟩, 27), (⟨"KnitRiverModel", "letDown", "(II)V"⟩, 27), (⟨"KnitRiverModel", "draw", "()I"⟩, 27), (⟨"KnitRiverModel", "findCourse", "()V"⟩, 27)]
theorem lw_r3 : ∀ q ∈ lw_privs_3, lw_okq q := List.forall_mem_cons.mpr ⟨lw_p32, List.forall_mem_cons.mpr ⟨lw_p33, List.forall_mem_cons.mpr ⟨lw_p34, List.forall_mem_cons.mpr ⟨lw_p35, List.forall_mem_cons.mpr ⟨lw_p36, List.forall_mem_cons.mpr ⟨lw_p37, List.forall_mem_cons.mpr ⟨lw_p38, List.forall_mem_cons.mpr ⟨lw_p39, List.forall_mem_cons.mpr ⟨lw_p40, List.forall_mem_cons.mpr ⟨lw_p41, List.forall_mem_cons.mpr ⟨lw_p42, List.forall_mem_cons.mpr ⟨lw_p43, List.forall_mem_cons.mpr ⟨lw_p44, List.forall_mem_cons.mpr ⟨lw_p45, List.forall_mem_cons.mpr ⟨lw_p46, List.forall_mem_cons.mpr ⟨lw_p47, fun _ h => absurd h List.not_mem_nil⟩⟩⟩⟩⟩⟩⟩⟩⟩⟩⟩⟩⟩⟩⟩⟩
theorem lw_p48 : lw_okq (⟨"KnitRiverModel", "step", "(II)V"⟩, 27) := ⟨⟨by decide +kernel, by decide +kernel⟩, List.mem_of_getElem? (i := 730) (by decide +kernel), List.mem_of_getElem? (i := 1025) (by decide +kernel), List.mem_of_getElem? (i := 1026) (by decide +kernel)⟩
theorem lw_p49 : lw_okq (⟨"KnitRiverModel", "leads", "(IIIII)Z"⟩, 27) := ⟨⟨by decide +kernel, by decide +kernel⟩, List.mem_of_getElem? (i := 730) (by decide +kernel), List.mem_of_getElem? (i := 1037) (by decide +kernel), List.mem_of_getElem? (i := 1038) (by decide +kernel)⟩
theorem lw_p50 : lw_okq (⟨"KnitRiverModel", "lacks", "(I)I"⟩, 27) := ⟨⟨by decide +kernel, by decide +kernel⟩, List.mem_of_getElem? (i := 730) (by decide +kernel), List.mem_of_getElem? (i := 1062) (by decide +kernel), List.mem_of_getElem? (i := 1063) (by decide +kernel)⟩
theorem lw_p51 : lw_okq (⟨"KnitRiverModel", "kindNow", "()I"⟩, 27) := ⟨⟨by decide +kernel, by decide +kernel⟩, List.mem_of_getElem? (i := 730) (by decide +kernel), List.mem_of_getElem? (i := 1073) (by decide +kernel), List.mem_of_getElem? (i := 1074) (by decide +kernel)⟩
theorem lw_p52 : lw_okq (⟨"KnitRiverModel", "runsAs", "(II)I"⟩, 27) := ⟨⟨by decide +kernel, by decide +kernel⟩, List.mem_of_getElem? (i := 730) (by decide +kernel), List.mem_of_getElem? (i := 1077) (by decide +kernel), List.mem_of_getElem? (i := 1078) (by decide +kernel)⟩
theorem lw_p53 : lw_okq (⟨"KnitRiverModel", "starts", "(I)V"⟩, 27) := ⟨⟨by decide +kernel, by decide +kernel⟩, List.mem_of_getElem? (i := 730) (by decide +kernel), List.mem_of_getElem? (i := 1081) (by decide +kernel), List.mem_of_getElem? (i := 1082) (by decide +kernel)⟩
theorem lw_p54 : lw_okq (⟨"KnitRiverModel", "turnsAs", "(II)I"⟩, 27) := ⟨⟨by decide +kernel, by decide +kernel⟩, List.mem_of_getElem? (i := 730) (by decide +kernel), List.mem_of_getElem? (i := 1085) (by decide +kernel), List.mem_of_getElem? (i := 1086) (by decide +kernel)⟩
theorem lw_p55 : lw_okq (⟨"KnitRiverModel", "mNow", "()I"⟩, 27) := ⟨⟨by decide +kernel, by decide +kernel⟩, List.mem_of_getElem? (i := 730) (by decide +kernel), List.mem_of_getElem? (i := 1089) (by decide +kernel), List.mem_of_getElem? (i := 1090) (by decide +kernel)⟩
theorem lw_p56 : lw_okq (⟨"KnitRiverModel", "poolsAs", "(II)I"⟩, 27) := ⟨⟨by decide +kernel, by decide +kernel⟩, List.mem_of_getElem? (i := 730) (by decide +kernel), List.mem_of_getElem? (i := 1093) (by decide +kernel), List.mem_of_getElem? (i := 1094) (by decide +kernel)⟩
theorem lw_p57 : lw_okq (⟨"KnitRiverModel", "partsAs", "(II)I"⟩, 27) := ⟨⟨by decide +kernel, by decide +kernel⟩, List.mem_of_getElem? (i := 730) (by decide +kernel), List.mem_of_getElem? (i := 1097) (by decide +kernel), List.mem_of_getElem? (i := 1098) (by decide +kernel)⟩
def lw_privs_4 : List (MethodName × Nat) := [(⟨"KnitRiverModel", "step", "(II)V"⟩, 27), (⟨"KnitRiverModel", "leads", "(IIIII)Z"⟩, 27), (⟨"KnitRiverModel", "lacks", "(I)I"⟩, 27), (⟨"KnitRiverModel", "kindNow", "()I"⟩, 27), (⟨"KnitRiverModel", "runsAs", "(II)I"⟩, 27), (⟨"KnitRiverModel", "starts", "(I)V"⟩, 27), (⟨"KnitRiverModel", "turnsAs", "(II)I"⟩, 27), (⟨"KnitRiverModel", "mNow", "()I"⟩, 27), (⟨"KnitRiverModel", "poolsAs", "(II)I"⟩, 27), (⟨"KnitRiverModel", "partsAs", "(II)I"⟩, 27)]
theorem lw_r4 : ∀ q ∈ lw_privs_4, lw_okq q := List.forall_mem_cons.mpr ⟨lw_p48, List.forall_mem_cons.mpr ⟨lw_p49, List.forall_mem_cons.mpr ⟨lw_p50, List.forall_mem_cons.mpr ⟨lw_p51, List.forall_mem_cons.mpr ⟨lw_p52, List.forall_mem_cons.mpr ⟨lw_p53, List.forall_mem_cons.mpr ⟨lw_p54, List.forall_mem_cons.mpr ⟨lw_p55, List.forall_mem_cons.mpr ⟨lw_p56, List.forall_mem_cons.mpr ⟨lw_p57, fun _ h => absurd h List.not_mem_nil⟩⟩⟩⟩⟩⟩⟩⟩⟩⟩
def lw_privs : List (MethodName × Nat) := lw_privs_1 ++ (lw_privs_2 ++ (lw_privs_3 ++ (lw_privs_4)))
def lw_tbl : List Cond := k2_sels lw_privs ++ tables_1
theorem lw_privs_ok : ∀ q ∈ lw_privs, lw_okq q := by
  show ∀ q ∈ lw_privs_1 ++ (lw_privs_2 ++ (lw_privs_3 ++ (lw_privs_4))), lw_okq q
  exact List.forall_mem_append.mpr ⟨lw_r1, List.forall_mem_append.mpr ⟨lw_r2, List.forall_mem_append.mpr ⟨lw_r3, lw_r4⟩⟩⟩

/-! The walk of all methods by one pure state: a memory of numbers (object, place), the shape of the objects fixed; ZP: from here the method comes to its end. -/
abbrev Zmem : Type := Nat → Nat → Int32
abbrev Zent : Type := Nat × Nat × Instr × Nat × Nat × List Nat
abbrev Zmi : Type := MethodName × ByteArray × Nat × Option FieldType
/-- one place written -/
def Zu (M : Zmem) (o k : Nat) (v : Int32) : Zmem := fun a => if a = o then upd (M o) k v else M a
def Ztg : List Cond := lw_tbl.filter goodWord
def Zisn : Cond → Bool
  | .methodLinkNest .. => true
  | _ => false
def Znest : List Cond := lw_tbl.filter Zisn
def Zc0 : List Cond := [.selects "KnitRiver" ⟨"KnitRiver","refuse","(I)I"⟩ ⟨"KnitRiver","refuse","(I)I"⟩,
  .selects "KnitRiver$Text" ⟨"KnitRiver$Text","push","(I)V"⟩ ⟨"KnitRiver$Text","push","(I)V"⟩,
  .selects "KnitRiver$Text" ⟨"KnitRiver$Text","pop","()I"⟩ ⟨"KnitRiver$Text","pop","()I"⟩,
  .selects "KnitRiver" ⟨"KnitRiver","isRow","(I)Z"⟩ ⟨"KnitRiver","isRow","(I)Z"⟩,
  .selects "KnitRiver$Reader" ⟨"KnitRiver$Reader","part","(II)Z"⟩ ⟨"KnitRiver$Reader","part","(II)Z"⟩,
  .selects "KnitRiver$Reader" ⟨"KnitRiver$Reader","between","(II)Z"⟩ ⟨"KnitRiver$Reader","between","(II)Z"⟩,
  .selects "KnitRiver$Reader" ⟨"KnitRiver$Reader","piece","(I)Z"⟩ ⟨"KnitRiver$Reader","piece","(I)Z"⟩,
  .selects "KnitRiver$Reader" ⟨"KnitRiver$Reader","next","()I"⟩ ⟨"KnitRiver$Reader","next","()I"⟩,
  .selects "KnitRiver$Reader" ⟨"KnitRiver$Reader","number","()V"⟩ ⟨"KnitRiver$Reader","number","()V"⟩,
  .selects "KnitRiver$Reader" ⟨"KnitRiver$Reader","keep","(I)V"⟩ ⟨"KnitRiver$Reader","keep","(I)V"⟩,
  .selects "KnitRiver$Reader" ⟨"KnitRiver$Reader","opened","(II)Z"⟩ ⟨"KnitRiver$Reader","opened","(II)Z"⟩,
  .selects "KnitRiver$Reader" ⟨"KnitRiver$Reader","nameOf","(I)I"⟩ ⟨"KnitRiver$Reader","nameOf","(I)I"⟩,
  .selects "KnitRiver$Course" ⟨"KnitRiver$Course","wasAhead","(I)Z"⟩ ⟨"KnitRiver$Course","wasAhead","(I)Z"⟩,
  .selects "KnitRiver$Reach" ⟨"KnitRiver$Reach","leads","(ILKnitRiver$Course;II)Z"⟩ ⟨"KnitRiver$Reach","leads","(ILKnitRiver$Course;II)Z"⟩,
  .selects "KnitRiver$Reach" ⟨"KnitRiver$Reach","keepIfLess","(I)V"⟩ ⟨"KnitRiver$Reach","keepIfLess","(I)V"⟩,
  .selects "KnitRiver$Reach" ⟨"KnitRiver$Reach","yarnOf","(I)I"⟩ ⟨"KnitRiver$Reach","yarnOf","(I)I"⟩]
set_option maxRecDepth 100000 in
theorem Zcg0 : k2_sels lw_privs_1 = Zc0 := rfl
def Zc1 : List Cond := [.selects "KnitRiver" ⟨"KnitRiver","comesAsTold","(ILKnitRiver$Sheet;)Z"⟩ ⟨"KnitRiver","comesAsTold","(ILKnitRiver$Sheet;)Z"⟩,
  .selects "KnitRiver$Voices" ⟨"KnitRiver$Voices","spoken","(IIII)I"⟩ ⟨"KnitRiver$Voices","spoken","(IIII)I"⟩,
  .selects "KnitRiver$Voices" ⟨"KnitRiver$Voices","workedOut","(III)I"⟩ ⟨"KnitRiver$Voices","workedOut","(III)I"⟩,
  .selects "KnitRiver$Voices" ⟨"KnitRiver$Voices","partedBy","(II)I"⟩ ⟨"KnitRiver$Voices","partedBy","(II)I"⟩,
  .selects "KnitRiver" ⟨"KnitRiver","whyNoSheet","(I)I"⟩ ⟨"KnitRiver","whyNoSheet","(I)I"⟩,
  .selects "KnitRiverModel" ⟨"KnitRiverModel","error","(I)I"⟩ ⟨"KnitRiverModel","error","(I)I"⟩,
  .selects "KnitRiverModel" ⟨"KnitRiverModel","whole","()Z"⟩ ⟨"KnitRiverModel","whole","()Z"⟩,
  .selects "KnitRiverModel" ⟨"KnitRiverModel","both","()Z"⟩ ⟨"KnitRiverModel","both","()Z"⟩,
  .selects "KnitRiverModel" ⟨"KnitRiverModel","compared","()Z"⟩ ⟨"KnitRiverModel","compared","()Z"⟩,
  .selects "KnitRiverModel" ⟨"KnitRiverModel","sum","()Z"⟩ ⟨"KnitRiverModel","sum","()Z"⟩,
  .selects "KnitRiverModel" ⟨"KnitRiverModel","product","()Z"⟩ ⟨"KnitRiverModel","product","()Z"⟩,
  .selects "KnitRiverModel" ⟨"KnitRiverModel","one","()Z"⟩ ⟨"KnitRiverModel","one","()Z"⟩,
  .selects "KnitRiverModel" ⟨"KnitRiverModel","look","()I"⟩ ⟨"KnitRiverModel","look","()I"⟩,
  .selects "KnitRiverModel" ⟨"KnitRiverModel","isName","(I)Z"⟩ ⟨"KnitRiverModel","isName","(I)Z"⟩,
  .selects "KnitRiverModel" ⟨"KnitRiverModel","step1","(II)V"⟩ ⟨"KnitRiverModel","step1","(II)V"⟩,
  .selects "KnitRiverModel" ⟨"KnitRiverModel","opens","()Z"⟩ ⟨"KnitRiverModel","opens","()Z"⟩]
set_option maxRecDepth 100000 in
theorem Zcg1 : k2_sels lw_privs_2 = Zc1 := rfl
def Zc2 : List Cond := [.selects "KnitRiverModel" ⟨"KnitRiverModel","hasText","(I)Z"⟩ ⟨"KnitRiverModel","hasText","(I)Z"⟩,
  .selects "KnitRiverModel" ⟨"KnitRiverModel","yarnAs","(III)I"⟩ ⟨"KnitRiverModel","yarnAs","(III)I"⟩,
  .selects "KnitRiverModel" ⟨"KnitRiverModel","saidOf","(IIII)I"⟩ ⟨"KnitRiverModel","saidOf","(IIII)I"⟩,
  .selects "KnitRiverModel" ⟨"KnitRiverModel","yarnTold","(III)I"⟩ ⟨"KnitRiverModel","yarnTold","(III)I"⟩,
  .selects "KnitRiverModel" ⟨"KnitRiverModel","worked","(I)I"⟩ ⟨"KnitRiverModel","worked","(I)I"⟩,
  .selects "KnitRiverModel" ⟨"KnitRiverModel","lays1","(III)V"⟩ ⟨"KnitRiverModel","lays1","(III)V"⟩,
  .selects "KnitRiverModel" ⟨"KnitRiverModel","isRow","(I)Z"⟩ ⟨"KnitRiverModel","isRow","(I)Z"⟩,
  .selects "KnitRiverModel" ⟨"KnitRiverModel","its","(II)I"⟩ ⟨"KnitRiverModel","its","(II)I"⟩,
  .selects "KnitRiverModel" ⟨"KnitRiverModel","yarnOf","(I)I"⟩ ⟨"KnitRiverModel","yarnOf","(I)I"⟩,
  .selects "KnitRiverModel" ⟨"KnitRiverModel","holdsBy","(II)I"⟩ ⟨"KnitRiverModel","holdsBy","(II)I"⟩,
  .selects "KnitRiverModel" ⟨"KnitRiverModel","holdsTold","(III)I"⟩ ⟨"KnitRiverModel","holdsTold","(III)I"⟩,
  .selects "KnitRiverModel" ⟨"KnitRiverModel","change1","(II)I"⟩ ⟨"KnitRiverModel","change1","(II)I"⟩,
  .selects "KnitRiverModel" ⟨"KnitRiverModel","aSeason","(I)I"⟩ ⟨"KnitRiverModel","aSeason","(I)I"⟩,
  .selects "KnitRiverModel" ⟨"KnitRiverModel","letDown","(II)V"⟩ ⟨"KnitRiverModel","letDown","(II)V"⟩,
  .selects "KnitRiverModel" ⟨"KnitRiverModel","draw","()I"⟩ ⟨"KnitRiverModel","draw","()I"⟩,
  .selects "KnitRiverModel" ⟨"KnitRiverModel","findCourse","()V"⟩ ⟨"KnitRiverModel","findCourse","()V"⟩]
set_option maxRecDepth 100000 in
theorem Zcg2 : k2_sels lw_privs_3 = Zc2 := rfl
def Zc3 : List Cond := [.selects "KnitRiverModel" ⟨"KnitRiverModel","step","(II)V"⟩ ⟨"KnitRiverModel","step","(II)V"⟩,
  .selects "KnitRiverModel" ⟨"KnitRiverModel","leads","(IIIII)Z"⟩ ⟨"KnitRiverModel","leads","(IIIII)Z"⟩,
  .selects "KnitRiverModel" ⟨"KnitRiverModel","lacks","(I)I"⟩ ⟨"KnitRiverModel","lacks","(I)I"⟩,
  .selects "KnitRiverModel" ⟨"KnitRiverModel","kindNow","()I"⟩ ⟨"KnitRiverModel","kindNow","()I"⟩,
  .selects "KnitRiverModel" ⟨"KnitRiverModel","runsAs","(II)I"⟩ ⟨"KnitRiverModel","runsAs","(II)I"⟩,
  .selects "KnitRiverModel" ⟨"KnitRiverModel","starts","(I)V"⟩ ⟨"KnitRiverModel","starts","(I)V"⟩,
  .selects "KnitRiverModel" ⟨"KnitRiverModel","turnsAs","(II)I"⟩ ⟨"KnitRiverModel","turnsAs","(II)I"⟩,
  .selects "KnitRiverModel" ⟨"KnitRiverModel","mNow","()I"⟩ ⟨"KnitRiverModel","mNow","()I"⟩,
  .selects "KnitRiverModel" ⟨"KnitRiverModel","poolsAs","(II)I"⟩ ⟨"KnitRiverModel","poolsAs","(II)I"⟩,
  .selects "KnitRiverModel" ⟨"KnitRiverModel","partsAs","(II)I"⟩ ⟨"KnitRiverModel","partsAs","(II)I"⟩]
set_option maxRecDepth 100000 in
theorem Zcg3 : k2_sels lw_privs_4 = Zc3 := rfl
def Zc4 : List Cond := [.initialized "KnitRiverLaw",
  .initialized "KnitRiver",
  .initialized "KnitRiver$River",
  .initialized "KnitRiver$Text",
  .initialized "KnitRiver$Reader",
  .initialized "KnitRiver$Course",
  .initialized "KnitRiver$Reach",
  .initialized "KnitRiver$Voices",
  .initialized "KnitRiver$Sheet",
  .initialized "KnitRiverModel",
  .initialized "KnitRiver$Kinds",
  .initialized "java/lang/Math",
  .initialized "java/lang/System",
  .initialized "java/lang/Integer",
  .classLink "KnitRiverLaw" 7 "KnitRiver",
  .instantiable "KnitRiver" 9,
  .methodLink "KnitRiverLaw" 9 ⟨"KnitRiver","<init>","()V"⟩,
  .instanceMethod ⟨"KnitRiver","<init>","()V"⟩,
  .code ⟨"KnitRiver","<init>","()V"⟩ prog_1_method_1_code 2 none,
  .methodLink "KnitRiver" 1 ⟨"java/lang/Object","<init>","()V"⟩,
  .instanceMethod ⟨"java/lang/Object","<init>","()V"⟩,
  .code ⟨"java/lang/Object","<init>","()V"⟩ object_method_1_code 1 none,
  .classLink "KnitRiver" 7 "KnitRiver$River",
  .instantiable "KnitRiver$River" 17,
  .methodLink "KnitRiver" 9 ⟨"KnitRiver$River","<init>","()V"⟩,
  .instanceMethod ⟨"KnitRiver$River","<init>","()V"⟩,
  .code ⟨"KnitRiver$River","<init>","()V"⟩ prog_6_method_1_code 1 none,
  .methodLink "KnitRiver$River" 3 ⟨"java/lang/Object","<init>","()V"⟩,
  .classLink "KnitRiver$River" 59 "KnitRiver$Text",
  .arrayOver (.object "KnitRiver$Text"),
  .instantiable "KnitRiver$Text" 5,
  .methodLinkNest "KnitRiver$River" 68 ⟨"KnitRiver$Text","<init>","()V"⟩ "KnitRiver"]
def Zc5 : List Cond := [.instanceMethod ⟨"KnitRiver$Text","<init>","()V"⟩,
  .code ⟨"KnitRiver$Text","<init>","()V"⟩ prog_8_method_1_code 1 none,
  .methodLink "KnitRiver$Text" 3 ⟨"java/lang/Object","<init>","()V"⟩,
  .fieldLink "KnitRiver$Text" 9 "KnitRiver$Text" "known" "Z",
  .fieldLink "KnitRiver$River" 95 "KnitRiver$Text" "known" "Z",
  .fieldLink "KnitRiver" 163 "KnitRiver$Text" "known" "Z",
  .fieldLink "KnitRiver$Text" 15 "KnitRiver$Text" "code" "[I",
  .fieldLink "KnitRiver$Text" 19 "KnitRiver$Text" "size" "I",
  .fieldLink "KnitRiver$Text" 23 "KnitRiver$Text" "stack" "[I",
  .fieldLink "KnitRiver$Text" 26 "KnitRiver$Text" "top" "I",
  .lays "KnitRiver$Text" "KnitRiver$Text" "known" "Z",
  .soleField "KnitRiver$Text" "known",
  .laysFinal "KnitRiver$Text" "KnitRiver$Text" "code" "[I",
  .soleField "KnitRiver$Text" "code",
  .lays "KnitRiver$Text" "KnitRiver$Text" "size" "I",
  .soleField "KnitRiver$Text" "size",
  .laysFinal "KnitRiver$Text" "KnitRiver$Text" "stack" "[I",
  .soleField "KnitRiver$Text" "stack",
  .lays "KnitRiver$Text" "KnitRiver$Text" "top" "I",
  .soleField "KnitRiver$Text" "top",
  .superclass "KnitRiver$Text" "java/lang/Object",
  .arrayClass .int,
  .arrayClass .byte,
  .fieldLink "KnitRiver$River" 9 "KnitRiver$River" "kind" "[I",
  .fieldLink "KnitRiver$Voices" 39 "KnitRiver$River" "kind" "[I",
  .fieldLink "KnitRiver" 94 "KnitRiver$River" "kind" "[I",
  .fieldLink "KnitRiver$Course" 37 "KnitRiver$River" "kind" "[I",
  .fieldLink "KnitRiver$River" 15 "KnitRiver$River" "m" "[I",
  .fieldLink "KnitRiver$Voices" 43 "KnitRiver$River" "m" "[I",
  .fieldLink "KnitRiver" 97 "KnitRiver$River" "m" "[I",
  .fieldLink "KnitRiver$Course" 40 "KnitRiver$River" "m" "[I",
  .fieldLink "KnitRiver$River" 18 "KnitRiver$River" "wide" "[I"]
def Zc6 : List Cond := [.fieldLink "KnitRiver" 100 "KnitRiver$River" "wide" "[I",
  .fieldLink "KnitRiver$River" 21 "KnitRiver$River" "tension" "[I",
  .fieldLink "KnitRiver" 103 "KnitRiver$River" "tension" "[I",
  .fieldLink "KnitRiver$River" 24 "KnitRiver$River" "tied" "[I",
  .fieldLink "KnitRiver" 106 "KnitRiver$River" "tied" "[I",
  .fieldLink "KnitRiver$River" 27 "KnitRiver$River" "rows" "I",
  .fieldLink "KnitRiver" 77 "KnitRiver$River" "rows" "I",
  .fieldLink "KnitRiver$Course" 36 "KnitRiver$River" "rows" "I",
  .fieldLink "KnitRiver$River" 31 "KnitRiver$River" "thread" "I",
  .fieldLink "KnitRiver" 84 "KnitRiver$River" "thread" "I",
  .fieldLink "KnitRiver$River" 34 "KnitRiver$River" "way" "I",
  .fieldLink "KnitRiver$Course" 31 "KnitRiver$River" "way" "I",
  .fieldLink "KnitRiver" 128 "KnitRiver$River" "way" "I",
  .fieldLink "KnitRiver$River" 37 "KnitRiver$River" "season" "I",
  .fieldLink "KnitRiver" 174 "KnitRiver$River" "season" "I",
  .fieldLink "KnitRiver$River" 40 "KnitRiver$River" "sea" "I",
  .fieldLink "KnitRiver" 293 "KnitRiver$River" "sea" "I",
  .fieldLink "KnitRiver$River" 43 "KnitRiver$River" "z" "I",
  .fieldLink "KnitRiver" 187 "KnitRiver$River" "z" "I",
  .fieldLink "KnitRiver$River" 46 "KnitRiver$River" "tape" "[B",
  .fieldLink "KnitRiver" 133 "KnitRiver$River" "tape" "[B",
  .fieldLink "KnitRiver$River" 50 "KnitRiver$River" "bytes" "I",
  .fieldLink "KnitRiver" 130 "KnitRiver$River" "bytes" "I",
  .fieldLink "KnitRiver$River" 53 "KnitRiver$River" "waits" "[I",
  .fieldLink "KnitRiver" 290 "KnitRiver$River" "waits" "[I",
  .fieldLink "KnitRiver$River" 56 "KnitRiver$River" "waiting" "I",
  .fieldLink "KnitRiver" 287 "KnitRiver$River" "waiting" "I",
  .fieldLink "KnitRiver$River" 61 "KnitRiver$River" "texts" "[LKnitRiver$Text;",
  .fieldLink "KnitRiver" 147 "KnitRiver$River" "texts" "[LKnitRiver$Text;",
  .fieldLink "KnitRiver$River" 65 "KnitRiver$River" "comes" "[I",
  .fieldLink "KnitRiver" 193 "KnitRiver$River" "comes" "[I",
  .laysFinal "KnitRiver$River" "KnitRiver$River" "kind" "[I"]
def Zc7 : List Cond := [.soleField "KnitRiver$River" "kind",
  .laysFinal "KnitRiver$River" "KnitRiver$River" "m" "[I",
  .soleField "KnitRiver$River" "m",
  .laysFinal "KnitRiver$River" "KnitRiver$River" "wide" "[I",
  .soleField "KnitRiver$River" "wide",
  .laysFinal "KnitRiver$River" "KnitRiver$River" "tension" "[I",
  .soleField "KnitRiver$River" "tension",
  .laysFinal "KnitRiver$River" "KnitRiver$River" "tied" "[I",
  .soleField "KnitRiver$River" "tied",
  .lays "KnitRiver$River" "KnitRiver$River" "rows" "I",
  .soleField "KnitRiver$River" "rows",
  .lays "KnitRiver$River" "KnitRiver$River" "thread" "I",
  .soleField "KnitRiver$River" "thread",
  .lays "KnitRiver$River" "KnitRiver$River" "way" "I",
  .soleField "KnitRiver$River" "way",
  .lays "KnitRiver$River" "KnitRiver$River" "season" "I",
  .soleField "KnitRiver$River" "season",
  .lays "KnitRiver$River" "KnitRiver$River" "sea" "I",
  .soleField "KnitRiver$River" "sea",
  .lays "KnitRiver$River" "KnitRiver$River" "z" "I",
  .soleField "KnitRiver$River" "z",
  .laysFinal "KnitRiver$River" "KnitRiver$River" "tape" "[B",
  .soleField "KnitRiver$River" "tape",
  .lays "KnitRiver$River" "KnitRiver$River" "bytes" "I",
  .soleField "KnitRiver$River" "bytes",
  .laysFinal "KnitRiver$River" "KnitRiver$River" "waits" "[I",
  .soleField "KnitRiver$River" "waits",
  .lays "KnitRiver$River" "KnitRiver$River" "waiting" "I",
  .soleField "KnitRiver$River" "waiting",
  .laysFinal "KnitRiver$River" "KnitRiver$River" "texts" "[LKnitRiver$Text;",
  .soleField "KnitRiver$River" "texts",
  .laysFinal "KnitRiver$River" "KnitRiver$River" "comes" "[I"]
def Zc8 : List Cond := [.soleField "KnitRiver$River" "comes",
  .superclass "KnitRiver$River" "java/lang/Object",
  .classLink "KnitRiver" 19 "KnitRiver$Reader",
  .instantiable "KnitRiver$Reader" 6,
  .methodLinkNest "KnitRiver" 21 ⟨"KnitRiver$Reader","<init>","()V"⟩ "KnitRiver",
  .instanceMethod ⟨"KnitRiver$Reader","<init>","()V"⟩,
  .code ⟨"KnitRiver$Reader","<init>","()V"⟩ prog_5_method_1_code 1 none,
  .methodLink "KnitRiver$Reader" 3 ⟨"java/lang/Object","<init>","()V"⟩,
  .fieldLink "KnitRiver$Reader" 9 "KnitRiver$Reader" "code" "[I",
  .fieldLink "KnitRiver" 151 "KnitRiver$Reader" "code" "[I",
  .fieldLink "KnitRiver$Reader" 15 "KnitRiver$Reader" "size" "I",
  .fieldLink "KnitRiver" 154 "KnitRiver$Reader" "size" "I",
  .fieldLink "KnitRiver$Reader" 19 "KnitRiver$Reader" "at" "I",
  .fieldLink "KnitRiver" 144 "KnitRiver$Reader" "at" "I",
  .fieldLink "KnitRiver$Reader" 22 "KnitRiver$Reader" "tape" "[B",
  .fieldLink "KnitRiver$Reader" 26 "KnitRiver$Reader" "bytes" "I",
  .fieldLink "KnitRiver$Reader" 29 "KnitRiver$Reader" "use" "I",
  .laysFinal "KnitRiver$Reader" "KnitRiver$Reader" "code" "[I",
  .soleField "KnitRiver$Reader" "code",
  .lays "KnitRiver$Reader" "KnitRiver$Reader" "size" "I",
  .soleField "KnitRiver$Reader" "size",
  .lays "KnitRiver$Reader" "KnitRiver$Reader" "at" "I",
  .soleField "KnitRiver$Reader" "at",
  .lays "KnitRiver$Reader" "KnitRiver$Reader" "tape" "[B",
  .soleField "KnitRiver$Reader" "tape",
  .lays "KnitRiver$Reader" "KnitRiver$Reader" "bytes" "I",
  .soleField "KnitRiver$Reader" "bytes",
  .lays "KnitRiver$Reader" "KnitRiver$Reader" "use" "I",
  .soleField "KnitRiver$Reader" "use",
  .superclass "KnitRiver$Reader" "java/lang/Object",
  .classLink "KnitRiver" 26 "KnitRiver$Course",
  .instantiable "KnitRiver$Course" 4]
def Zc9 : List Cond := [.methodLinkNest "KnitRiver" 28 ⟨"KnitRiver$Course","<init>","()V"⟩ "KnitRiver",
  .instanceMethod ⟨"KnitRiver$Course","<init>","()V"⟩,
  .code ⟨"KnitRiver$Course","<init>","()V"⟩ prog_2_method_1_code 1 none,
  .methodLink "KnitRiver$Course" 3 ⟨"java/lang/Object","<init>","()V"⟩,
  .fieldLink "KnitRiver$Course" 9 "KnitRiver$Course" "across" "[I",
  .fieldLink "KnitRiver$Reach" 32 "KnitRiver$Course" "across" "[I",
  .fieldLink "KnitRiver" 200 "KnitRiver$Course" "across" "[I",
  .fieldLink "KnitRiver$Course" 15 "KnitRiver$Course" "down" "[I",
  .fieldLink "KnitRiver$Reach" 46 "KnitRiver$Course" "down" "[I",
  .fieldLink "KnitRiver" 203 "KnitRiver$Course" "down" "[I",
  .fieldLink "KnitRiver$Course" 18 "KnitRiver$Course" "rows" "I",
  .fieldLink "KnitRiver$Reach" 37 "KnitRiver$Course" "rows" "I",
  .fieldLink "KnitRiver$Course" 22 "KnitRiver$Course" "goes" "I",
  .fieldLink "KnitRiver$Reach" 69 "KnitRiver$Course" "goes" "I",
  .laysFinal "KnitRiver$Course" "KnitRiver$Course" "across" "[I",
  .soleField "KnitRiver$Course" "across",
  .laysFinal "KnitRiver$Course" "KnitRiver$Course" "down" "[I",
  .soleField "KnitRiver$Course" "down",
  .lays "KnitRiver$Course" "KnitRiver$Course" "rows" "I",
  .soleField "KnitRiver$Course" "rows",
  .lays "KnitRiver$Course" "KnitRiver$Course" "goes" "I",
  .soleField "KnitRiver$Course" "goes",
  .superclass "KnitRiver$Course" "java/lang/Object",
  .classLink "KnitRiver" 33 "KnitRiver$Reach",
  .instantiable "KnitRiver$Reach" 4,
  .methodLinkNest "KnitRiver" 35 ⟨"KnitRiver$Reach","<init>","()V"⟩ "KnitRiver",
  .instanceMethod ⟨"KnitRiver$Reach","<init>","()V"⟩,
  .code ⟨"KnitRiver$Reach","<init>","()V"⟩ prog_4_method_1_code 1 none,
  .methodLink "KnitRiver$Reach" 3 ⟨"java/lang/Object","<init>","()V"⟩,
  .fieldLink "KnitRiver$Reach" 9 "KnitRiver$Reach" "STITCHES" "[I",
  .laysStatic "KnitRiver$Reach" "STITCHES" "[I",
  .fieldLink "KnitRiver$Reach" 15 "KnitRiver$Reach" "yarns" "[I"]
def Zc10 : List Cond := [.fieldLink "KnitRiver$Reach" 18 "KnitRiver$Reach" "many" "I",
  .fieldLink "KnitRiver" 213 "KnitRiver$Reach" "many" "I",
  .fieldLink "KnitRiver$Reach" 22 "KnitRiver$Reach" "yarn" "I",
  .fieldLink "KnitRiver" 216 "KnitRiver$Reach" "yarn" "I",
  .fieldLink "KnitRiver$Reach" 25 "KnitRiver$Reach" "found" "I",
  .laysFinal "KnitRiver$Reach" "KnitRiver$Reach" "yarns" "[I",
  .soleField "KnitRiver$Reach" "yarns",
  .lays "KnitRiver$Reach" "KnitRiver$Reach" "many" "I",
  .soleField "KnitRiver$Reach" "many",
  .lays "KnitRiver$Reach" "KnitRiver$Reach" "yarn" "I",
  .soleField "KnitRiver$Reach" "yarn",
  .lays "KnitRiver$Reach" "KnitRiver$Reach" "found" "I",
  .soleField "KnitRiver$Reach" "found",
  .superclass "KnitRiver$Reach" "java/lang/Object",
  .classLink "KnitRiver" 40 "KnitRiver$Voices",
  .instantiable "KnitRiver$Voices" 9,
  .methodLinkNest "KnitRiver" 42 ⟨"KnitRiver$Voices","<init>","()V"⟩ "KnitRiver",
  .instanceMethod ⟨"KnitRiver$Voices","<init>","()V"⟩,
  .code ⟨"KnitRiver$Voices","<init>","()V"⟩ prog_9_method_1_code 1 none,
  .methodLink "KnitRiver$Voices" 1 ⟨"java/lang/Object","<init>","()V"⟩,
  .fieldLink "KnitRiver$Voices" 9 "KnitRiver$Voices" "trace" "[I",
  .fieldLink "KnitRiver" 262 "KnitRiver$Voices" "trace" "[I",
  .fieldLink "KnitRiver$Voices" 13 "KnitRiver$Voices" "traced" "I",
  .fieldLink "KnitRiver" 259 "KnitRiver$Voices" "traced" "I",
  .fieldLink "KnitRiver$Voices" 17 "KnitRiver$Voices" "answer" "I",
  .fieldLink "KnitRiver" 256 "KnitRiver$Voices" "answer" "I",
  .fieldLink "KnitRiver$Voices" 20 "KnitRiver$Voices" "begun" "[I",
  .fieldLink "KnitRiver$Voices" 23 "KnitRiver$Voices" "began" "I",
  .fieldLink "KnitRiver$Voices" 26 "KnitRiver$Voices" "parted" "Z",
  .fieldLink "KnitRiver$Voices" 30 "KnitRiver$Voices" "kind" "I",
  .fieldLink "KnitRiver$Voices" 33 "KnitRiver$Voices" "k" "I",
  .fieldLink "KnitRiver$Voices" 36 "KnitRiver$Voices" "m" "I"]
def Zc11 : List Cond := [.laysFinal "KnitRiver$Voices" "KnitRiver$Voices" "trace" "[I",
  .soleField "KnitRiver$Voices" "trace",
  .lays "KnitRiver$Voices" "KnitRiver$Voices" "traced" "I",
  .soleField "KnitRiver$Voices" "traced",
  .lays "KnitRiver$Voices" "KnitRiver$Voices" "answer" "I",
  .soleField "KnitRiver$Voices" "answer",
  .laysFinal "KnitRiver$Voices" "KnitRiver$Voices" "begun" "[I",
  .soleField "KnitRiver$Voices" "begun",
  .lays "KnitRiver$Voices" "KnitRiver$Voices" "began" "I",
  .soleField "KnitRiver$Voices" "began",
  .lays "KnitRiver$Voices" "KnitRiver$Voices" "parted" "Z",
  .soleField "KnitRiver$Voices" "parted",
  .lays "KnitRiver$Voices" "KnitRiver$Voices" "kind" "I",
  .soleField "KnitRiver$Voices" "kind",
  .lays "KnitRiver$Voices" "KnitRiver$Voices" "k" "I",
  .soleField "KnitRiver$Voices" "k"]
set_option maxRecDepth 100000 in
theorem Zcg4 : tables_1_1 = Zc4 ++ (Zc5 ++ (Zc6 ++ (Zc7 ++ (Zc8 ++ (Zc9 ++ (Zc10 ++ (Zc11))))))) := rfl
def Zc12 : List Cond := [.lays "KnitRiver$Voices" "KnitRiver$Voices" "m" "I",
  .soleField "KnitRiver$Voices" "m",
  .superclass "KnitRiver$Voices" "java/lang/Object",
  .classLink "KnitRiver" 47 "KnitRiver$Sheet",
  .arrayOver (.object "KnitRiver$Sheet"),
  .instantiable "KnitRiver$Sheet" 3,
  .methodLinkNest "KnitRiver" 61 ⟨"KnitRiver$Sheet","<init>","()V"⟩ "KnitRiver",
  .instanceMethod ⟨"KnitRiver$Sheet","<init>","()V"⟩,
  .code ⟨"KnitRiver$Sheet","<init>","()V"⟩ prog_7_method_1_code 1 none,
  .methodLink "KnitRiver$Sheet" 3 ⟨"java/lang/Object","<init>","()V"⟩,
  .fieldLink "KnitRiver$Sheet" 9 "KnitRiver$Sheet" "numbers" "[I",
  .fieldLink "KnitRiver" 245 "KnitRiver$Sheet" "numbers" "[I",
  .fieldLink "KnitRiver$Sheet" 15 "KnitRiver$Sheet" "bits" "I",
  .fieldLink "KnitRiver" 241 "KnitRiver$Sheet" "bits" "I",
  .fieldLink "KnitRiver$Sheet" 19 "KnitRiver$Sheet" "size" "I",
  .fieldLink "KnitRiver" 244 "KnitRiver$Sheet" "size" "I",
  .laysFinal "KnitRiver$Sheet" "KnitRiver$Sheet" "numbers" "[I",
  .soleField "KnitRiver$Sheet" "numbers",
  .lays "KnitRiver$Sheet" "KnitRiver$Sheet" "bits" "I",
  .soleField "KnitRiver$Sheet" "bits",
  .lays "KnitRiver$Sheet" "KnitRiver$Sheet" "size" "I",
  .soleField "KnitRiver$Sheet" "size",
  .superclass "KnitRiver$Sheet" "java/lang/Object",
  .fieldLink "KnitRiver" 10 "KnitRiver" "now" "LKnitRiver$River;",
  .fieldLink "KnitRiver" 16 "KnitRiver" "kept" "LKnitRiver$River;",
  .fieldLink "KnitRiver" 22 "KnitRiver" "reader" "LKnitRiver$Reader;",
  .fieldLink "KnitRiver" 29 "KnitRiver" "path" "LKnitRiver$Course;",
  .fieldLink "KnitRiver" 36 "KnitRiver" "way" "LKnitRiver$Reach;",
  .fieldLink "KnitRiver" 43 "KnitRiver" "voices" "LKnitRiver$Voices;",
  .fieldLink "KnitRiver" 49 "KnitRiver" "sheets" "[LKnitRiver$Sheet;",
  .fieldLink "KnitRiver" 53 "KnitRiver" "errors" "[I",
  .fieldLink "KnitRiver" 57 "KnitRiver" "images" "I"]
def Zc13 : List Cond := [.laysFinal "KnitRiver" "KnitRiver" "now" "LKnitRiver$River;",
  .soleField "KnitRiver" "now",
  .laysFinal "KnitRiver" "KnitRiver" "kept" "LKnitRiver$River;",
  .soleField "KnitRiver" "kept",
  .laysFinal "KnitRiver" "KnitRiver" "reader" "LKnitRiver$Reader;",
  .soleField "KnitRiver" "reader",
  .laysFinal "KnitRiver" "KnitRiver" "path" "LKnitRiver$Course;",
  .soleField "KnitRiver" "path",
  .laysFinal "KnitRiver" "KnitRiver" "way" "LKnitRiver$Reach;",
  .soleField "KnitRiver" "way",
  .laysFinal "KnitRiver" "KnitRiver" "voices" "LKnitRiver$Voices;",
  .soleField "KnitRiver" "voices",
  .laysFinal "KnitRiver" "KnitRiver" "sheets" "[LKnitRiver$Sheet;",
  .soleField "KnitRiver" "sheets",
  .laysFinal "KnitRiver" "KnitRiver" "errors" "[I",
  .soleField "KnitRiver" "errors",
  .lays "KnitRiver" "KnitRiver" "images" "I",
  .soleField "KnitRiver" "images",
  .superclass "KnitRiver" "java/lang/Object",
  .methodLink "KnitRiverLaw" 13 ⟨"KnitRiver","knit","(III)I"⟩,
  .instanceMethod ⟨"KnitRiver","knit","(III)I"⟩,
  .selects "KnitRiver" ⟨"KnitRiver","knit","(III)I"⟩ ⟨"KnitRiver","knit","(III)I"⟩,
  .code ⟨"KnitRiver","knit","(III)I"⟩ prog_1_method_2_code 5 (some .int),
  .methodLink "KnitRiver" 62 ⟨"KnitRiver","isStitch","(I)Z"⟩,
  .static ⟨"KnitRiver","isStitch","(I)Z"⟩,
  .code ⟨"KnitRiver","isStitch","(I)Z"⟩ prog_1_method_40_code 1 (some .boolean),
  .methodLink "KnitRiver" 66 ⟨"KnitRiver","within","(III)Z"⟩,
  .static ⟨"KnitRiver","within","(III)Z"⟩,
  .code ⟨"KnitRiver","within","(III)Z"⟩ prog_1_method_47_code 3 (some .boolean),
  .methodLink "KnitRiver" 70 ⟨"KnitRiver","isTension","(I)Z"⟩,
  .static ⟨"KnitRiver","isTension","(I)Z"⟩,
  .code ⟨"KnitRiver","isTension","(I)Z"⟩ prog_1_method_41_code 1 (some .boolean)]
def Zc14 : List Cond := [.methodLink "KnitRiver" 73 ⟨"KnitRiver","refuse","(I)I"⟩,
  .privateMethod ⟨"KnitRiver","refuse","(I)I"⟩,
  .instanceMethod ⟨"KnitRiver","refuse","(I)I"⟩,
  .code ⟨"KnitRiver","refuse","(I)I"⟩ prog_1_method_38_code 2 (some .int),
  .constant "KnitRiver" 296 (-1000000000),
  .methodLink "KnitRiver" 80 ⟨"KnitRiver$River","yarnFor","(III)I"⟩,
  .instanceMethod ⟨"KnitRiver$River","yarnFor","(III)I"⟩,
  .selects "KnitRiver$River" ⟨"KnitRiver$River","yarnFor","(III)I"⟩ ⟨"KnitRiver$River","yarnFor","(III)I"⟩,
  .code ⟨"KnitRiver$River","yarnFor","(III)I"⟩ prog_6_method_4_code 4 (some .int),
  .methodLink "KnitRiver$River" 79 ⟨"KnitRiver$Kinds","yarn","(IIII)I"⟩,
  .static ⟨"KnitRiver$Kinds","yarn","(IIII)I"⟩,
  .code ⟨"KnitRiver$Kinds","yarn","(IIII)I"⟩ prog_3_method_4_code 6 (some .int),
  .methodLink "KnitRiver$River" 85 ⟨"KnitRiver$River","given","(IIII)I"⟩,
  .instanceMethod ⟨"KnitRiver$River","given","(IIII)I"⟩,
  .selects "KnitRiver$River" ⟨"KnitRiver$River","given","(IIII)I"⟩ ⟨"KnitRiver$River","given","(IIII)I"⟩,
  .code ⟨"KnitRiver$River","given","(IIII)I"⟩ prog_6_method_7_code 6 (some .int),
  .methodLink "KnitRiver$River" 99 ⟨"KnitRiver$Text","workedOut","(III)I"⟩,
  .instanceMethod ⟨"KnitRiver$Text","workedOut","(III)I"⟩,
  .selects "KnitRiver$Text" ⟨"KnitRiver$Text","workedOut","(III)I"⟩ ⟨"KnitRiver$Text","workedOut","(III)I"⟩,
  .code ⟨"KnitRiver$Text","workedOut","(III)I"⟩ prog_8_method_4_code 8 (some .int),
  .methodLink "KnitRiver$Text" 49 ⟨"KnitRiver$Text","push","(I)V"⟩,
  .privateMethod ⟨"KnitRiver$Text","push","(I)V"⟩,
  .instanceMethod ⟨"KnitRiver$Text","push","(I)V"⟩,
  .code ⟨"KnitRiver$Text","push","(I)V"⟩ prog_8_method_5_code 2 none,
  .methodLink "KnitRiver$Text" 53 ⟨"KnitRiver$Text","pop","()I"⟩,
  .privateMethod ⟨"KnitRiver$Text","pop","()I"⟩,
  .instanceMethod ⟨"KnitRiver$Text","pop","()I"⟩,
  .code ⟨"KnitRiver$Text","pop","()I"⟩ prog_8_method_6_code 1 (some .int),
  .methodLink "KnitRiver$Text" 57 ⟨"KnitRiver$Text","joined","(III)I"⟩,
  .static ⟨"KnitRiver$Text","joined","(III)I"⟩,
  .code ⟨"KnitRiver$Text","joined","(III)I"⟩ prog_8_method_7_code 3 (some .int),
  .methodLinkNest "KnitRiver$River" 92 ⟨"KnitRiver","held","(III)I"⟩ "KnitRiver"]
def Zc15 : List Cond := [.static ⟨"KnitRiver","held","(III)I"⟩,
  .code ⟨"KnitRiver","held","(III)I"⟩ prog_1_method_48_code 3 (some .int),
  .methodLink "KnitRiver" 230 ⟨"java/lang/Math","min","(II)I"⟩,
  .static ⟨"java/lang/Math","min","(II)I"⟩,
  .code ⟨"java/lang/Math","min","(II)I"⟩ prog_13_method_69_code 2 (some .int),
  .methodLink "KnitRiver" 297 ⟨"java/lang/Math","max","(II)I"⟩,
  .static ⟨"java/lang/Math","max","(II)I"⟩,
  .code ⟨"java/lang/Math","max","(II)I"⟩ prog_13_method_65_code 2 (some .int),
  .methodLink "KnitRiver" 87 ⟨"KnitRiver$River","addRow","(III)V"⟩,
  .instanceMethod ⟨"KnitRiver$River","addRow","(III)V"⟩,
  .selects "KnitRiver$River" ⟨"KnitRiver$River","addRow","(III)V"⟩ ⟨"KnitRiver$River","addRow","(III)V"⟩,
  .code ⟨"KnitRiver$River","addRow","(III)V"⟩ prog_6_method_3_code 4 none,
  .methodLink "KnitRiverLaw" 18 ⟨"KnitRiver","rowIs","(II)I"⟩,
  .instanceMethod ⟨"KnitRiver","rowIs","(II)I"⟩,
  .selects "KnitRiver" ⟨"KnitRiver","rowIs","(II)I"⟩ ⟨"KnitRiver","rowIs","(II)I"⟩,
  .code ⟨"KnitRiver","rowIs","(II)I"⟩ prog_1_method_3_code 3 (some .int),
  .methodLink "KnitRiver" 91 ⟨"KnitRiver","isRow","(I)Z"⟩,
  .privateMethod ⟨"KnitRiver","isRow","(I)Z"⟩,
  .instanceMethod ⟨"KnitRiver","isRow","(I)Z"⟩,
  .code ⟨"KnitRiver","isRow","(I)Z"⟩ prog_1_method_39_code 2 (some .boolean),
  .methodLink "KnitRiver" 109 ⟨"KnitRiver$River","yarnOf","(I)I"⟩,
  .instanceMethod ⟨"KnitRiver$River","yarnOf","(I)I"⟩,
  .selects "KnitRiver$River" ⟨"KnitRiver$River","yarnOf","(I)I"⟩ ⟨"KnitRiver$River","yarnOf","(I)I"⟩,
  .code ⟨"KnitRiver$River","yarnOf","(I)I"⟩ prog_6_method_5_code 2 (some .int),
  .methodLink "KnitRiver$River" 88 ⟨"KnitRiver$River","yarnFor","(III)I"⟩,
  .methodLink "KnitRiver" 112 ⟨"KnitRiver$River","holdsOf","(II)I"⟩,
  .instanceMethod ⟨"KnitRiver$River","holdsOf","(II)I"⟩,
  .selects "KnitRiver$River" ⟨"KnitRiver$River","holdsOf","(II)I"⟩ ⟨"KnitRiver$River","holdsOf","(II)I"⟩,
  .code ⟨"KnitRiver$River","holdsOf","(II)I"⟩ prog_6_method_6_code 4 (some .int),
  .methodLink "KnitRiver" 116 ⟨"KnitRiver$Kinds","bends","(II)I"⟩,
  .static ⟨"KnitRiver$Kinds","bends","(II)I"⟩,
  .code ⟨"KnitRiver$Kinds","bends","(II)I"⟩ prog_3_method_5_code 3 (some .int)]
def Zc16 : List Cond := [.methodLink "KnitRiverLaw" 23 ⟨"KnitRiver","become","(II)I"⟩,
  .instanceMethod ⟨"KnitRiver","become","(II)I"⟩,
  .selects "KnitRiver" ⟨"KnitRiver","become","(II)I"⟩ ⟨"KnitRiver","become","(II)I"⟩,
  .code ⟨"KnitRiver","become","(II)I"⟩ prog_1_method_4_code 4 (some .int),
  .methodLink "KnitRiverLaw" 27 ⟨"KnitRiver","as","(II)I"⟩,
  .instanceMethod ⟨"KnitRiver","as","(II)I"⟩,
  .selects "KnitRiver" ⟨"KnitRiver","as","(II)I"⟩ ⟨"KnitRiver","as","(II)I"⟩,
  .code ⟨"KnitRiver","as","(II)I"⟩ prog_1_method_5_code 3 (some .int),
  .methodLink "KnitRiver" 121 ⟨"KnitRiver$Kinds","isOrIsUnder","(II)Z"⟩,
  .static ⟨"KnitRiver$Kinds","isOrIsUnder","(II)Z"⟩,
  .code ⟨"KnitRiver$Kinds","isOrIsUnder","(II)Z"⟩ prog_3_method_3_code 4 (some .boolean),
  .methodLink "KnitRiver$Kinds" 19 ⟨"KnitRiver$Kinds","above","(I)I"⟩,
  .static ⟨"KnitRiver$Kinds","above","(I)I"⟩,
  .code ⟨"KnitRiver$Kinds","above","(I)I"⟩ prog_3_method_2_code 1 (some .int),
  .methodLinkNest "KnitRiver$Kinds" 9 ⟨"KnitRiver","within","(III)Z"⟩ "KnitRiver",
  .fieldLink "KnitRiver$Kinds" 15 "KnitRiver$Kinds" "ABOVE" "[I",
  .laysStatic "KnitRiver$Kinds" "ABOVE" "[I",
  .methodLink "KnitRiverLaw" 31 ⟨"KnitRiver","tie","(II)I"⟩,
  .instanceMethod ⟨"KnitRiver","tie","(II)I"⟩,
  .selects "KnitRiver" ⟨"KnitRiver","tie","(II)I"⟩ ⟨"KnitRiver","tie","(II)I"⟩,
  .code ⟨"KnitRiver","tie","(II)I"⟩ prog_1_method_6_code 4 (some .int),
  .methodLink "KnitRiverLaw" 35 ⟨"KnitRiver","drop","(I)I"⟩,
  .instanceMethod ⟨"KnitRiver","drop","(I)I"⟩,
  .selects "KnitRiver" ⟨"KnitRiver","drop","(I)I"⟩ ⟨"KnitRiver","drop","(I)I"⟩,
  .code ⟨"KnitRiver","drop","(I)I"⟩ prog_1_method_7_code 2 (some .int),
  .methodLink "KnitRiverLaw" 40 ⟨"KnitRiver","tense","(II)I"⟩,
  .instanceMethod ⟨"KnitRiver","tense","(II)I"⟩,
  .selects "KnitRiver" ⟨"KnitRiver","tense","(II)I"⟩ ⟨"KnitRiver","tense","(II)I"⟩,
  .code ⟨"KnitRiver","tense","(II)I"⟩ prog_1_method_8_code 4 (some .int),
  .methodLink "KnitRiverLaw" 44 ⟨"KnitRiver","pull","(I)I"⟩,
  .instanceMethod ⟨"KnitRiver","pull","(I)I"⟩,
  .selects "KnitRiver" ⟨"KnitRiver","pull","(I)I"⟩ ⟨"KnitRiver","pull","(I)I"⟩]
def Zc17 : List Cond := [.code ⟨"KnitRiver","pull","(I)I"⟩ prog_1_method_9_code 2 (some .int),
  .methodLink "KnitRiver" 125 ⟨"KnitRiver$River","undo","(I)I"⟩,
  .instanceMethod ⟨"KnitRiver$River","undo","(I)I"⟩,
  .selects "KnitRiver$River" ⟨"KnitRiver$River","undo","(I)I"⟩ ⟨"KnitRiver$River","undo","(I)I"⟩,
  .code ⟨"KnitRiver$River","undo","(I)I"⟩ prog_6_method_9_code 4 (some .int),
  .methodLink "KnitRiver$River" 111 ⟨"KnitRiver$River","yarnOf","(I)I"⟩,
  .methodLink "KnitRiver$River" 106 ⟨"java/lang/Math","min","(II)I"⟩,
  .methodLink "KnitRiverLaw" 48 ⟨"KnitRiver","wind","(II)I"⟩,
  .instanceMethod ⟨"KnitRiver","wind","(II)I"⟩,
  .selects "KnitRiver" ⟨"KnitRiver","wind","(II)I"⟩ ⟨"KnitRiver","wind","(II)I"⟩,
  .code ⟨"KnitRiver","wind","(II)I"⟩ prog_1_method_10_code 4 (some .int),
  .methodLink "KnitRiverLaw" 54 ⟨"KnitRiver","feed","(JI)I"⟩,
  .instanceMethod ⟨"KnitRiver","feed","(JI)I"⟩,
  .selects "KnitRiver" ⟨"KnitRiver","feed","(JI)I"⟩ ⟨"KnitRiver","feed","(JI)I"⟩,
  .code ⟨"KnitRiver","feed","(JI)I"⟩ prog_1_method_11_code 5 (some .int),
  .methodLink "KnitRiverLaw" 59 ⟨"KnitRiver","text","(I)I"⟩,
  .instanceMethod ⟨"KnitRiver","text","(I)I"⟩,
  .selects "KnitRiver" ⟨"KnitRiver","text","(I)I"⟩ ⟨"KnitRiver","text","(I)I"⟩,
  .code ⟨"KnitRiver","text","(I)I"⟩ prog_1_method_12_code 3 (some .int),
  .methodLink "KnitRiver" 137 ⟨"KnitRiver","isUse","(I)Z"⟩,
  .static ⟨"KnitRiver","isUse","(I)Z"⟩,
  .code ⟨"KnitRiver","isUse","(I)Z"⟩ prog_1_method_43_code 1 (some .boolean),
  .methodLink "KnitRiver" 140 ⟨"KnitRiver$Reader","reads","([BII)Z"⟩,
  .instanceMethod ⟨"KnitRiver$Reader","reads","([BII)Z"⟩,
  .selects "KnitRiver$Reader" ⟨"KnitRiver$Reader","reads","([BII)Z"⟩ ⟨"KnitRiver$Reader","reads","([BII)Z"⟩,
  .code ⟨"KnitRiver$Reader","reads","([BII)Z"⟩ prog_5_method_2_code 4 (some .boolean),
  .methodLinkNest "KnitRiver$Reader" 32 ⟨"KnitRiver","held","(III)I"⟩ "KnitRiver",
  .methodLink "KnitRiver$Reader" 36 ⟨"KnitRiver$Reader","part","(II)Z"⟩,
  .privateMethod ⟨"KnitRiver$Reader","part","(II)Z"⟩,
  .instanceMethod ⟨"KnitRiver$Reader","part","(II)Z"⟩,
  .code ⟨"KnitRiver$Reader","part","(II)Z"⟩ prog_5_method_5_code 6 (some .boolean),
  .methodLink "KnitRiver$Reader" 40 ⟨"KnitRiver$Reader","between","(II)Z"⟩]
def Zc18 : List Cond := [.privateMethod ⟨"KnitRiver$Reader","between","(II)Z"⟩,
  .instanceMethod ⟨"KnitRiver$Reader","between","(II)Z"⟩,
  .code ⟨"KnitRiver$Reader","between","(II)Z"⟩ prog_5_method_6_code 3 (some .boolean),
  .methodLink "KnitRiver$Reader" 55 ⟨"KnitRiver$Reader","piece","(I)Z"⟩,
  .privateMethod ⟨"KnitRiver$Reader","piece","(I)Z"⟩,
  .instanceMethod ⟨"KnitRiver$Reader","piece","(I)Z"⟩,
  .code ⟨"KnitRiver$Reader","piece","(I)Z"⟩ prog_5_method_8_code 4 (some .boolean),
  .methodLink "KnitRiver$Reader" 43 ⟨"KnitRiver$Reader","next","()I"⟩,
  .privateMethod ⟨"KnitRiver$Reader","next","()I"⟩,
  .instanceMethod ⟨"KnitRiver$Reader","next","()I"⟩,
  .code ⟨"KnitRiver$Reader","next","()I"⟩ prog_5_method_3_code 1 (some .int),
  .methodLink "KnitRiver$Reader" 59 ⟨"KnitRiver$Reader","isDigit","(I)Z"⟩,
  .static ⟨"KnitRiver$Reader","isDigit","(I)Z"⟩,
  .code ⟨"KnitRiver$Reader","isDigit","(I)Z"⟩ prog_5_method_11_code 1 (some .boolean),
  .methodLink "KnitRiver$Reader" 62 ⟨"KnitRiver$Reader","number","()V"⟩,
  .privateMethod ⟨"KnitRiver$Reader","number","()V"⟩,
  .instanceMethod ⟨"KnitRiver$Reader","number","()V"⟩,
  .code ⟨"KnitRiver$Reader","number","()V"⟩ prog_5_method_10_code 3 none,
  .methodLink "KnitRiver$Reader" 51 ⟨"KnitRiver$Reader","keep","(I)V"⟩,
  .privateMethod ⟨"KnitRiver$Reader","keep","(I)V"⟩,
  .instanceMethod ⟨"KnitRiver$Reader","keep","(I)V"⟩,
  .code ⟨"KnitRiver$Reader","keep","(I)V"⟩ prog_5_method_4_code 2 none,
  .methodLink "KnitRiver$Reader" 65 ⟨"KnitRiver$Reader","opened","(II)Z"⟩,
  .privateMethod ⟨"KnitRiver$Reader","opened","(II)Z"⟩,
  .instanceMethod ⟨"KnitRiver$Reader","opened","(II)Z"⟩,
  .code ⟨"KnitRiver$Reader","opened","(II)Z"⟩ prog_5_method_9_code 4 (some .boolean),
  .methodLink "KnitRiver$Reader" 68 ⟨"KnitRiver$Reader","nameOf","(I)I"⟩,
  .privateMethod ⟨"KnitRiver$Reader","nameOf","(I)I"⟩,
  .instanceMethod ⟨"KnitRiver$Reader","nameOf","(I)I"⟩,
  .code ⟨"KnitRiver$Reader","nameOf","(I)I"⟩ prog_5_method_12_code 4 (some .int),
  .fieldLink "KnitRiver$Reader" 71 "KnitRiver$Reader" "NAMES" "[C",
  .laysStatic "KnitRiver$Reader" "NAMES" "[C"]
def Zc19 : List Cond := [.methodLink "KnitRiver$Reader" 47 ⟨"KnitRiver$Reader","levelOf","(I)I"⟩,
  .static ⟨"KnitRiver$Reader","levelOf","(I)I"⟩,
  .code ⟨"KnitRiver$Reader","levelOf","(I)I"⟩ prog_5_method_7_code 1 (some .int),
  .methodLink "KnitRiver" 157 ⟨"KnitRiver$Text","take","([II)V"⟩,
  .instanceMethod ⟨"KnitRiver$Text","take","([II)V"⟩,
  .selects "KnitRiver$Text" ⟨"KnitRiver$Text","take","([II)V"⟩ ⟨"KnitRiver$Text","take","([II)V"⟩,
  .code ⟨"KnitRiver$Text","take","([II)V"⟩ prog_8_method_2_code 3 none,
  .methodLink "KnitRiver$Text" 29 ⟨"java/lang/Math","min","(II)I"⟩,
  .methodLinkNest "KnitRiver$Text" 35 ⟨"KnitRiver","held","(III)I"⟩ "KnitRiver",
  .methodLink "KnitRiver$Text" 39 ⟨"java/lang/System","arraycopy","(Ljava/lang/Object;ILjava/lang/Object;II)V"⟩,
  .static ⟨"java/lang/System","arraycopy","(Ljava/lang/Object;ILjava/lang/Object;II)V"⟩,
  .native ⟨"java/lang/System","arraycopy","(Ljava/lang/Object;ILjava/lang/Object;II)V"⟩,
  .methodLink "KnitRiverLaw" 63 ⟨"KnitRiver","untell","(I)I"⟩,
  .instanceMethod ⟨"KnitRiver","untell","(I)I"⟩,
  .selects "KnitRiver" ⟨"KnitRiver","untell","(I)I"⟩ ⟨"KnitRiver","untell","(I)I"⟩,
  .code ⟨"KnitRiver","untell","(I)I"⟩ prog_1_method_13_code 3 (some .int)]
set_option maxRecDepth 100000 in
theorem Zcg5 : tables_1_2 = Zc12 ++ (Zc13 ++ (Zc14 ++ (Zc15 ++ (Zc16 ++ (Zc17 ++ (Zc18 ++ (Zc19))))))) := rfl
def Zc20 : List Cond := [.methodLink "KnitRiverLaw" 67 ⟨"KnitRiver","law","(IIII)I"⟩,
  .instanceMethod ⟨"KnitRiver","law","(IIII)I"⟩,
  .selects "KnitRiver" ⟨"KnitRiver","law","(IIII)I"⟩ ⟨"KnitRiver","law","(IIII)I"⟩,
  .code ⟨"KnitRiver","law","(IIII)I"⟩ prog_1_method_14_code 5 (some .int),
  .methodLink "KnitRiver" 167 ⟨"KnitRiver$River","given","(IIII)I"⟩,
  .methodLink "KnitRiverLaw" 72 ⟨"KnitRiver","season","(I)I"⟩,
  .instanceMethod ⟨"KnitRiver","season","(I)I"⟩,
  .selects "KnitRiver" ⟨"KnitRiver","season","(I)I"⟩ ⟨"KnitRiver","season","(I)I"⟩,
  .code ⟨"KnitRiver","season","(I)I"⟩ prog_1_method_15_code 2 (some .int),
  .methodLink "KnitRiver" 171 ⟨"KnitRiver","isWater","(I)Z"⟩,
  .static ⟨"KnitRiver","isWater","(I)Z"⟩,
  .code ⟨"KnitRiver","isWater","(I)Z"⟩ prog_1_method_42_code 1 (some .boolean),
  .methodLink "KnitRiver" 177 ⟨"KnitRiver$River","pass","(I)I"⟩,
  .instanceMethod ⟨"KnitRiver$River","pass","(I)I"⟩,
  .selects "KnitRiver$River" ⟨"KnitRiver$River","pass","(I)I"⟩ ⟨"KnitRiver$River","pass","(I)I"⟩,
  .code ⟨"KnitRiver$River","pass","(I)I"⟩ prog_6_method_11_code 4 (some .int),
  .methodLink "KnitRiver$River" 115 ⟨"KnitRiver$River","waters","(II)I"⟩,
  .instanceMethod ⟨"KnitRiver$River","waters","(II)I"⟩,
  .selects "KnitRiver$River" ⟨"KnitRiver$River","waters","(II)I"⟩ ⟨"KnitRiver$River","waters","(II)I"⟩,
  .code ⟨"KnitRiver$River","waters","(II)I"⟩ prog_6_method_10_code 6 (some .int),
  .methodLink "KnitRiver$River" 102 ⟨"KnitRiver$River","holdsOf","(II)I"⟩,
  .methodLink "KnitRiver$River" 118 ⟨"java/lang/Math","max","(II)I"⟩,
  .methodLink "KnitRiverLaw" 76 ⟨"KnitRiver","loose","(I)I"⟩,
  .instanceMethod ⟨"KnitRiver","loose","(I)I"⟩,
  .selects "KnitRiver" ⟨"KnitRiver","loose","(I)I"⟩ ⟨"KnitRiver","loose","(I)I"⟩,
  .code ⟨"KnitRiver","loose","(I)I"⟩ prog_1_method_16_code 4 (some .int),
  .methodLink "KnitRiver" 180 ⟨"KnitRiver$River","draw","()I"⟩,
  .instanceMethod ⟨"KnitRiver$River","draw","()I"⟩,
  .selects "KnitRiver$River" ⟨"KnitRiver$River","draw","()I"⟩ ⟨"KnitRiver$River","draw","()I"⟩,
  .code ⟨"KnitRiver$River","draw","()I"⟩ prog_6_method_13_code 1 (some .int),
  .constant "KnitRiver$River" 125 1103515245,
  .methodLink "KnitRiver" 184 ⟨"KnitRiver$River","wear","()V"⟩]
def Zc21 : List Cond := [.instanceMethod ⟨"KnitRiver$River","wear","()V"⟩,
  .selects "KnitRiver$River" ⟨"KnitRiver$River","wear","()V"⟩ ⟨"KnitRiver$River","wear","()V"⟩,
  .code ⟨"KnitRiver$River","wear","()V"⟩ prog_6_method_12_code 3 none,
  .methodLink "KnitRiver$River" 121 ⟨"KnitRiver$River","draw","()I"⟩,
  .methodLink "KnitRiverLaw" 80 ⟨"KnitRiver","seed","(I)I"⟩,
  .instanceMethod ⟨"KnitRiver","seed","(I)I"⟩,
  .selects "KnitRiver" ⟨"KnitRiver","seed","(I)I"⟩ ⟨"KnitRiver","seed","(I)I"⟩,
  .code ⟨"KnitRiver","seed","(I)I"⟩ prog_1_method_17_code 3 (some .int),
  .methodLink "KnitRiverLaw" 84 ⟨"KnitRiver","flow","(III)I"⟩,
  .instanceMethod ⟨"KnitRiver","flow","(III)I"⟩,
  .selects "KnitRiver" ⟨"KnitRiver","flow","(III)I"⟩ ⟨"KnitRiver","flow","(III)I"⟩,
  .code ⟨"KnitRiver","flow","(III)I"⟩ prog_1_method_18_code 5 (some .int),
  .methodLink "KnitRiver" 190 ⟨"KnitRiver$River","waters","(II)I"⟩,
  .methodLink "KnitRiverLaw" 88 ⟨"KnitRiver","course","(II)I"⟩,
  .instanceMethod ⟨"KnitRiver","course","(II)I"⟩,
  .selects "KnitRiver" ⟨"KnitRiver","course","(II)I"⟩ ⟨"KnitRiver","course","(II)I"⟩,
  .code ⟨"KnitRiver","course","(II)I"⟩ prog_1_method_19_code 3 (some .int),
  .methodLink "KnitRiver" 196 ⟨"KnitRiver$Course","follow","(LKnitRiver$River;)V"⟩,
  .instanceMethod ⟨"KnitRiver$Course","follow","(LKnitRiver$River;)V"⟩,
  .selects "KnitRiver$Course" ⟨"KnitRiver$Course","follow","(LKnitRiver$River;)V"⟩ ⟨"KnitRiver$Course","follow","(LKnitRiver$River;)V"⟩,
  .code ⟨"KnitRiver$Course","follow","(LKnitRiver$River;)V"⟩ prog_2_method_5_code 3 none,
  .methodLink "KnitRiver$Course" 43 ⟨"KnitRiver$Kinds","bends","(II)I"⟩,
  .methodLink "KnitRiver$Course" 48 ⟨"KnitRiver$Course","turned","(II)I"⟩,
  .static ⟨"KnitRiver$Course","turned","(II)I"⟩,
  .code ⟨"KnitRiver$Course","turned","(II)I"⟩ prog_2_method_2_code 2 (some .int),
  .methodLink "KnitRiver$Course" 25 ⟨"java/lang/Math","floorMod","(II)I"⟩,
  .static ⟨"java/lang/Math","floorMod","(II)I"⟩,
  .code ⟨"java/lang/Math","floorMod","(II)I"⟩ prog_13_method_50_code 3 (some .int),
  .methodLink "KnitRiver$Course" 51 ⟨"KnitRiver$Course","acrossMore","(I)I"⟩,
  .static ⟨"KnitRiver$Course","acrossMore","(I)I"⟩,
  .code ⟨"KnitRiver$Course","acrossMore","(I)I"⟩ prog_2_method_3_code 1 (some .int),
  .methodLink "KnitRiver$Course" 55 ⟨"KnitRiver$Course","downMore","(I)I"⟩]
def Zc22 : List Cond := [.static ⟨"KnitRiver$Course","downMore","(I)I"⟩,
  .code ⟨"KnitRiver$Course","downMore","(I)I"⟩ prog_2_method_4_code 1 (some .int),
  .methodLink "KnitRiverLaw" 92 ⟨"KnitRiver","crosses","()I"⟩,
  .instanceMethod ⟨"KnitRiver","crosses","()I"⟩,
  .selects "KnitRiver" ⟨"KnitRiver","crosses","()I"⟩ ⟨"KnitRiver","crosses","()I"⟩,
  .code ⟨"KnitRiver","crosses","()I"⟩ prog_1_method_20_code 1 (some .int),
  .methodLink "KnitRiver" 206 ⟨"KnitRiver$Course","crossings","()I"⟩,
  .instanceMethod ⟨"KnitRiver$Course","crossings","()I"⟩,
  .selects "KnitRiver$Course" ⟨"KnitRiver$Course","crossings","()I"⟩ ⟨"KnitRiver$Course","crossings","()I"⟩,
  .code ⟨"KnitRiver$Course","crossings","()I"⟩ prog_2_method_6_code 3 (some .int),
  .methodLink "KnitRiver$Course" 58 ⟨"KnitRiver$Course","wasAhead","(I)Z"⟩,
  .privateMethod ⟨"KnitRiver$Course","wasAhead","(I)Z"⟩,
  .instanceMethod ⟨"KnitRiver$Course","wasAhead","(I)Z"⟩,
  .code ⟨"KnitRiver$Course","wasAhead","(I)Z"⟩ prog_2_method_7_code 3 (some .boolean),
  .methodLink "KnitRiverLaw" 97 ⟨"KnitRiver","reach","(III)I"⟩,
  .instanceMethod ⟨"KnitRiver","reach","(III)I"⟩,
  .selects "KnitRiver" ⟨"KnitRiver","reach","(III)I"⟩ ⟨"KnitRiver","reach","(III)I"⟩,
  .code ⟨"KnitRiver","reach","(III)I"⟩ prog_1_method_21_code 4 (some .int),
  .methodLink "KnitRiver" 209 ⟨"KnitRiver$Reach","finds","(LKnitRiver$River;LKnitRiver$Course;II)Z"⟩,
  .instanceMethod ⟨"KnitRiver$Reach","finds","(LKnitRiver$River;LKnitRiver$Course;II)Z"⟩,
  .selects "KnitRiver$Reach" ⟨"KnitRiver$Reach","finds","(LKnitRiver$River;LKnitRiver$Course;II)Z"⟩ ⟨"KnitRiver$Reach","finds","(LKnitRiver$River;LKnitRiver$Course;II)Z"⟩,
  .code ⟨"KnitRiver$Reach","finds","(LKnitRiver$River;LKnitRiver$Course;II)Z"⟩ prog_4_method_3_code 7 (some .boolean),
  .methodLink "KnitRiver$Reach" 40 ⟨"java/lang/Math","abs","(I)I"⟩,
  .static ⟨"java/lang/Math","abs","(I)I"⟩,
  .code ⟨"java/lang/Math","abs","(I)I"⟩ prog_13_method_59_code 1 (some .int),
  .methodLink "KnitRiver$Reach" 49 ⟨"java/lang/Math","min","(II)I"⟩,
  .methodLink "KnitRiver$Reach" 53 ⟨"KnitRiver$River","yarnFor","(III)I"⟩,
  .methodLink "KnitRiver$Reach" 58 ⟨"KnitRiver$Reach","leads","(ILKnitRiver$Course;II)Z"⟩,
  .privateMethod ⟨"KnitRiver$Reach","leads","(ILKnitRiver$Course;II)Z"⟩,
  .instanceMethod ⟨"KnitRiver$Reach","leads","(ILKnitRiver$Course;II)Z"⟩,
  .code ⟨"KnitRiver$Reach","leads","(ILKnitRiver$Course;II)Z"⟩ prog_4_method_5_code 10 (some .boolean),
  .methodLink "KnitRiver$Reach" 28 ⟨"KnitRiver$Reach","digit","(III)I"⟩]
def Zc23 : List Cond := [.static ⟨"KnitRiver$Reach","digit","(III)I"⟩,
  .code ⟨"KnitRiver$Reach","digit","(III)I"⟩ prog_4_method_7_code 3 (some .int),
  .methodLink "KnitRiver$Reach" 72 ⟨"KnitRiver$Kinds","bends","(II)I"⟩,
  .methodLink "KnitRiver$Reach" 77 ⟨"KnitRiver$Course","turned","(II)I"⟩,
  .methodLink "KnitRiver$Reach" 80 ⟨"KnitRiver$Course","acrossMore","(I)I"⟩,
  .methodLink "KnitRiver$Reach" 83 ⟨"KnitRiver$Course","downMore","(I)I"⟩,
  .methodLink "KnitRiver$Reach" 62 ⟨"KnitRiver$Reach","keepIfLess","(I)V"⟩,
  .privateMethod ⟨"KnitRiver$Reach","keepIfLess","(I)V"⟩,
  .instanceMethod ⟨"KnitRiver$Reach","keepIfLess","(I)V"⟩,
  .code ⟨"KnitRiver$Reach","keepIfLess","(I)V"⟩ prog_4_method_4_code 3 none,
  .methodLink "KnitRiver$Reach" 66 ⟨"KnitRiver$Reach","yarnOf","(I)I"⟩,
  .privateMethod ⟨"KnitRiver$Reach","yarnOf","(I)I"⟩,
  .instanceMethod ⟨"KnitRiver$Reach","yarnOf","(I)I"⟩,
  .code ⟨"KnitRiver$Reach","yarnOf","(I)I"⟩ prog_4_method_6_code 4 (some .int),
  .methodLink "KnitRiver" 219 ⟨"KnitRiver$Reach","stitch","(I)I"⟩,
  .instanceMethod ⟨"KnitRiver$Reach","stitch","(I)I"⟩,
  .selects "KnitRiver$Reach" ⟨"KnitRiver$Reach","stitch","(I)I"⟩ ⟨"KnitRiver$Reach","stitch","(I)I"⟩,
  .code ⟨"KnitRiver$Reach","stitch","(I)I"⟩ prog_4_method_2_code 2 (some .int),
  .methodLink "KnitRiverLaw" 101 ⟨"KnitRiver","ease","(II)I"⟩,
  .instanceMethod ⟨"KnitRiver","ease","(II)I"⟩,
  .selects "KnitRiver" ⟨"KnitRiver","ease","(II)I"⟩ ⟨"KnitRiver","ease","(II)I"⟩,
  .code ⟨"KnitRiver","ease","(II)I"⟩ prog_1_method_22_code 7 (some .int),
  .methodLink "KnitRiver" 222 ⟨"java/lang/Integer","bitCount","(I)I"⟩,
  .static ⟨"java/lang/Integer","bitCount","(I)I"⟩,
  .code ⟨"java/lang/Integer","bitCount","(I)I"⟩ prog_12_method_49_code 1 (some .int),
  .constant "java/lang/Integer" 265 1431655765,
  .constant "java/lang/Integer" 266 858993459,
  .constant "java/lang/Integer" 267 252645135,
  .methodLink "KnitRiverLaw" 105 ⟨"KnitRiver","odds","(I)I"⟩,
  .instanceMethod ⟨"KnitRiver","odds","(I)I"⟩,
  .selects "KnitRiver" ⟨"KnitRiver","odds","(I)I"⟩ ⟨"KnitRiver","odds","(I)I"⟩,
  .code ⟨"KnitRiver","odds","(I)I"⟩ prog_1_method_23_code 5 (some .int)]
def Zc24 : List Cond := [.methodLink "KnitRiver" 227 ⟨"KnitRiver$River","leastHolds","()I"⟩,
  .instanceMethod ⟨"KnitRiver$River","leastHolds","()I"⟩,
  .selects "KnitRiver$River" ⟨"KnitRiver$River","leastHolds","()I"⟩ ⟨"KnitRiver$River","leastHolds","()I"⟩,
  .code ⟨"KnitRiver$River","leastHolds","()I"⟩ prog_6_method_8_code 3 (some .int),
  .methodLink "KnitRiver" 235 ⟨"KnitRiver","commonDivisor","(II)I"⟩,
  .static ⟨"KnitRiver","commonDivisor","(II)I"⟩,
  .code ⟨"KnitRiver","commonDivisor","(II)I"⟩ prog_1_method_49_code 6 (some .int),
  .methodLink "KnitRiverLaw" 109 ⟨"KnitRiver","fits","(II)I"⟩,
  .instanceMethod ⟨"KnitRiver","fits","(II)I"⟩,
  .selects "KnitRiver" ⟨"KnitRiver","fits","(II)I"⟩ ⟨"KnitRiver","fits","(II)I"⟩,
  .code ⟨"KnitRiver","fits","(II)I"⟩ prog_1_method_24_code 6 (some .int),
  .methodLink "KnitRiver" 238 ⟨"KnitRiver","isSheet","(I)Z"⟩,
  .static ⟨"KnitRiver","isSheet","(I)Z"⟩,
  .code ⟨"KnitRiver","isSheet","(I)Z"⟩ prog_1_method_44_code 1 (some .boolean),
  .methodLink "KnitRiver" 248 ⟨"KnitRiver","comesAsTold","(ILKnitRiver$Sheet;)Z"⟩,
  .privateMethod ⟨"KnitRiver","comesAsTold","(ILKnitRiver$Sheet;)Z"⟩,
  .instanceMethod ⟨"KnitRiver","comesAsTold","(ILKnitRiver$Sheet;)Z"⟩,
  .code ⟨"KnitRiver","comesAsTold","(ILKnitRiver$Sheet;)Z"⟩ prog_1_method_46_code 4 (some .boolean),
  .methodLink "KnitRiverLaw" 113 ⟨"KnitRiver","voice","(III)I"⟩,
  .instanceMethod ⟨"KnitRiver","voice","(III)I"⟩,
  .selects "KnitRiver" ⟨"KnitRiver","voice","(III)I"⟩ ⟨"KnitRiver","voice","(III)I"⟩,
  .code ⟨"KnitRiver","voice","(III)I"⟩ prog_1_method_25_code 4 (some .int),
  .methodLink "KnitRiver" 252 ⟨"KnitRiver$Voices","utters","(LKnitRiver$River;III)Z"⟩,
  .instanceMethod ⟨"KnitRiver$Voices","utters","(LKnitRiver$River;III)Z"⟩,
  .selects "KnitRiver$Voices" ⟨"KnitRiver$Voices","utters","(LKnitRiver$River;III)Z"⟩ ⟨"KnitRiver$Voices","utters","(LKnitRiver$River;III)Z"⟩,
  .code ⟨"KnitRiver$Voices","utters","(LKnitRiver$River;III)Z"⟩ prog_9_method_2_code 6 (some .boolean),
  .methodLink "KnitRiver$Voices" 45 ⟨"KnitRiver$Voices","spoken","(IIII)I"⟩,
  .privateMethod ⟨"KnitRiver$Voices","spoken","(IIII)I"⟩,
  .instanceMethod ⟨"KnitRiver$Voices","spoken","(IIII)I"⟩,
  .code ⟨"KnitRiver$Voices","spoken","(IIII)I"⟩ prog_9_method_3_code 6 (some .int),
  .methodLink "KnitRiver$Voices" 55 ⟨"KnitRiver$Voices","bodyOf","(II)I"⟩,
  .static ⟨"KnitRiver$Voices","bodyOf","(II)I"⟩]
def Zc25 : List Cond := [.code ⟨"KnitRiver$Voices","bodyOf","(II)I"⟩ prog_9_method_4_code 5 (some .int),
  .fieldLink "KnitRiver$Voices" 65 "KnitRiver$Voices" "BODIES" "[I",
  .laysStatic "KnitRiver$Voices" "BODIES" "[I",
  .methodLink "KnitRiver$Voices" 68 ⟨"KnitRiver$Kinds","above","(I)I"⟩,
  .methodLink "KnitRiver$Voices" 59 ⟨"KnitRiver$Voices","workedOut","(III)I"⟩,
  .privateMethod ⟨"KnitRiver$Voices","workedOut","(III)I"⟩,
  .instanceMethod ⟨"KnitRiver$Voices","workedOut","(III)I"⟩,
  .code ⟨"KnitRiver$Voices","workedOut","(III)I"⟩ prog_9_method_5_code 5 (some .int),
  .methodLink "KnitRiver$Voices" 72 ⟨"KnitRiver$Voices","partedBy","(II)I"⟩,
  .privateMethod ⟨"KnitRiver$Voices","partedBy","(II)I"⟩,
  .instanceMethod ⟨"KnitRiver$Voices","partedBy","(II)I"⟩,
  .code ⟨"KnitRiver$Voices","partedBy","(II)I"⟩ prog_9_method_6_code 3 (some .int),
  .methodLink "KnitRiver$Voices" 49 ⟨"java/lang/System","arraycopy","(Ljava/lang/Object;ILjava/lang/Object;II)V"⟩,
  .methodLink "KnitRiverLaw" 117 ⟨"KnitRiver","body","(I)I"⟩,
  .instanceMethod ⟨"KnitRiver","body","(I)I"⟩,
  .selects "KnitRiver" ⟨"KnitRiver","body","(I)I"⟩ ⟨"KnitRiver","body","(I)I"⟩,
  .code ⟨"KnitRiver","body","(I)I"⟩ prog_1_method_26_code 2 (some .int),
  .methodLink "KnitRiverLaw" 121 ⟨"KnitRiver","sheet","(III)I"⟩,
  .instanceMethod ⟨"KnitRiver","sheet","(III)I"⟩,
  .selects "KnitRiver" ⟨"KnitRiver","sheet","(III)I"⟩ ⟨"KnitRiver","sheet","(III)I"⟩,
  .code ⟨"KnitRiver","sheet","(III)I"⟩ prog_1_method_27_code 4 (some .int),
  .methodLink "KnitRiver" 265 ⟨"KnitRiver$Sheet","make","(II)V"⟩,
  .instanceMethod ⟨"KnitRiver$Sheet","make","(II)V"⟩,
  .selects "KnitRiver$Sheet" ⟨"KnitRiver$Sheet","make","(II)V"⟩ ⟨"KnitRiver$Sheet","make","(II)V"⟩,
  .code ⟨"KnitRiver$Sheet","make","(II)V"⟩ prog_7_method_2_code 4 none,
  .methodLinkNest "KnitRiver$Sheet" 22 ⟨"KnitRiver","held","(III)I"⟩ "KnitRiver",
  .methodLink "KnitRiverLaw" 125 ⟨"KnitRiver","put","(III)I"⟩,
  .instanceMethod ⟨"KnitRiver","put","(III)I"⟩,
  .selects "KnitRiver" ⟨"KnitRiver","put","(III)I"⟩ ⟨"KnitRiver","put","(III)I"⟩,
  .code ⟨"KnitRiver","put","(III)I"⟩ prog_1_method_28_code 5 (some .int),
  .methodLink "KnitRiver" 269 ⟨"KnitRiver","whyNoSheet","(I)I"⟩,
  .privateMethod ⟨"KnitRiver","whyNoSheet","(I)I"⟩]
def Zc26 : List Cond := [.instanceMethod ⟨"KnitRiver","whyNoSheet","(I)I"⟩,
  .code ⟨"KnitRiver","whyNoSheet","(I)I"⟩ prog_1_method_45_code 2 (some .int),
  .methodLink "KnitRiver" 272 ⟨"KnitRiver$Sheet","write","(II)V"⟩,
  .instanceMethod ⟨"KnitRiver$Sheet","write","(II)V"⟩,
  .selects "KnitRiver$Sheet" ⟨"KnitRiver$Sheet","write","(II)V"⟩ ⟨"KnitRiver$Sheet","write","(II)V"⟩,
  .code ⟨"KnitRiver$Sheet","write","(II)V"⟩ prog_7_method_3_code 3 none,
  .methodLink "KnitRiverLaw" 129 ⟨"KnitRiver","move","(IIIII)I"⟩,
  .instanceMethod ⟨"KnitRiver","move","(IIIII)I"⟩,
  .selects "KnitRiver" ⟨"KnitRiver","move","(IIIII)I"⟩ ⟨"KnitRiver","move","(IIIII)I"⟩,
  .code ⟨"KnitRiver","move","(IIIII)I"⟩ prog_1_method_29_code 8 (some .int),
  .methodLink "KnitRiver" 275 ⟨"KnitRiver$Sheet","has","(II)Z"⟩,
  .instanceMethod ⟨"KnitRiver$Sheet","has","(II)Z"⟩,
  .selects "KnitRiver$Sheet" ⟨"KnitRiver$Sheet","has","(II)Z"⟩ ⟨"KnitRiver$Sheet","has","(II)Z"⟩,
  .code ⟨"KnitRiver$Sheet","has","(II)Z"⟩ prog_7_method_4_code 3 (some .boolean),
  .methodLink "KnitRiver" 278 ⟨"java/lang/System","arraycopy","(Ljava/lang/Object;ILjava/lang/Object;II)V"⟩,
  .methodLink "KnitRiverLaw" 134 ⟨"KnitRiver","tensions","(I)I"⟩,
  .instanceMethod ⟨"KnitRiver","tensions","(I)I"⟩,
  .selects "KnitRiver" ⟨"KnitRiver","tensions","(I)I"⟩ ⟨"KnitRiver","tensions","(I)I"⟩,
  .code ⟨"KnitRiver","tensions","(I)I"⟩ prog_1_method_30_code 5 (some .int),
  .methodLink "KnitRiverLaw" 138 ⟨"KnitRiver","judge","(I)I"⟩,
  .instanceMethod ⟨"KnitRiver","judge","(I)I"⟩,
  .selects "KnitRiver" ⟨"KnitRiver","judge","(I)I"⟩ ⟨"KnitRiver","judge","(I)I"⟩,
  .code ⟨"KnitRiver","judge","(I)I"⟩ prog_1_method_31_code 5 (some .int),
  .methodLink "KnitRiverLaw" 142 ⟨"KnitRiver","image","()I"⟩,
  .instanceMethod ⟨"KnitRiver","image","()I"⟩,
  .selects "KnitRiver" ⟨"KnitRiver","image","()I"⟩ ⟨"KnitRiver","image","()I"⟩,
  .code ⟨"KnitRiver","image","()I"⟩ prog_1_method_32_code 1 (some .int),
  .methodLink "KnitRiver" 284 ⟨"KnitRiver$River","copy","(LKnitRiver$River;)V"⟩,
  .instanceMethod ⟨"KnitRiver$River","copy","(LKnitRiver$River;)V"⟩,
  .selects "KnitRiver$River" ⟨"KnitRiver$River","copy","(LKnitRiver$River;)V"⟩ ⟨"KnitRiver$River","copy","(LKnitRiver$River;)V"⟩,
  .code ⟨"KnitRiver$River","copy","(LKnitRiver$River;)V"⟩ prog_6_method_2_code 2 none,
  .methodLink "KnitRiver$River" 69 ⟨"java/lang/System","arraycopy","(Ljava/lang/Object;ILjava/lang/Object;II)V"⟩]
def Zc27 : List Cond := [.methodLink "KnitRiver$River" 75 ⟨"KnitRiver$Text","copy","(LKnitRiver$Text;)V"⟩,
  .instanceMethod ⟨"KnitRiver$Text","copy","(LKnitRiver$Text;)V"⟩,
  .selects "KnitRiver$Text" ⟨"KnitRiver$Text","copy","(LKnitRiver$Text;)V"⟩ ⟨"KnitRiver$Text","copy","(LKnitRiver$Text;)V"⟩,
  .code ⟨"KnitRiver$Text","copy","(LKnitRiver$Text;)V"⟩ prog_8_method_3_code 2 none,
  .methodLink "KnitRiver$Text" 45 ⟨"KnitRiver$Text","take","([II)V"⟩,
  .methodLink "KnitRiverLaw" 146 ⟨"KnitRiver","restore","()I"⟩,
  .instanceMethod ⟨"KnitRiver","restore","()I"⟩,
  .selects "KnitRiver" ⟨"KnitRiver","restore","()I"⟩ ⟨"KnitRiver","restore","()I"⟩,
  .code ⟨"KnitRiver","restore","()I"⟩ prog_1_method_33_code 1 (some .int),
  .methodLink "KnitRiverLaw" 150 ⟨"KnitRiver","tell","(I)I"⟩,
  .instanceMethod ⟨"KnitRiver","tell","(I)I"⟩,
  .selects "KnitRiver" ⟨"KnitRiver","tell","(I)I"⟩ ⟨"KnitRiver","tell","(I)I"⟩,
  .code ⟨"KnitRiver","tell","(I)I"⟩ prog_1_method_34_code 2 (some .int),
  .methodLink "KnitRiverLaw" 154 ⟨"KnitRiver","check","()I"⟩,
  .instanceMethod ⟨"KnitRiver","check","()I"⟩,
  .selects "KnitRiver" ⟨"KnitRiver","check","()I"⟩ ⟨"KnitRiver","check","()I"⟩]
set_option maxRecDepth 100000 in
theorem Zcg6 : tables_1_3 = Zc20 ++ (Zc21 ++ (Zc22 ++ (Zc23 ++ (Zc24 ++ (Zc25 ++ (Zc26 ++ (Zc27))))))) := rfl
def Zc28 : List Cond := [.code ⟨"KnitRiver","check","()I"⟩ prog_1_method_35_code 3 (some .int),
  .methodLink "KnitRiverLaw" 158 ⟨"KnitRiver","count","(I)I"⟩,
  .instanceMethod ⟨"KnitRiver","count","(I)I"⟩,
  .selects "KnitRiver" ⟨"KnitRiver","count","(I)I"⟩ ⟨"KnitRiver","count","(I)I"⟩,
  .code ⟨"KnitRiver","count","(I)I"⟩ prog_1_method_36_code 2 (some .int),
  .methodLink "KnitRiverLaw" 162 ⟨"KnitRiver","told","(I)I"⟩,
  .instanceMethod ⟨"KnitRiver","told","(I)I"⟩,
  .selects "KnitRiver" ⟨"KnitRiver","told","(I)I"⟩ ⟨"KnitRiver","told","(I)I"⟩,
  .code ⟨"KnitRiver","told","(I)I"⟩ prog_1_method_37_code 2 (some .int),
  .classLink "KnitRiverLaw" 10 "KnitRiverModel",
  .instantiable "KnitRiverModel" 27,
  .methodLink "KnitRiverLaw" 12 ⟨"KnitRiverModel","<init>","()V"⟩,
  .instanceMethod ⟨"KnitRiverModel","<init>","()V"⟩,
  .code ⟨"KnitRiverModel","<init>","()V"⟩ prog_11_method_1_code 1 none,
  .methodLink "KnitRiverModel" 1 ⟨"java/lang/Object","<init>","()V"⟩,
  .fieldLink "KnitRiverModel" 7 "KnitRiverModel" "s" "[I",
  .fieldLink "KnitRiverModel" 13 "KnitRiverModel" "kept" "[I",
  .fieldLink "KnitRiverModel" 256 "KnitRiverModel" "images" "I",
  .fieldLink "KnitRiverModel" 16 "KnitRiverModel" "errors" "[I",
  .fieldLink "KnitRiverModel" 69 "KnitRiverModel" "at" "I",
  .fieldLink "KnitRiverModel" 103 "KnitRiverModel" "open" "I",
  .fieldLink "KnitRiverModel" 76 "KnitRiverModel" "steps" "I",
  .fieldLink "KnitRiverModel" 73 "KnitRiverModel" "use" "I",
  .fieldLink "KnitRiverModel" 19 "KnitRiverModel" "step" "[I",
  .fieldLink "KnitRiverModel" 22 "KnitRiverModel" "named" "[I",
  .fieldLink "KnitRiverModel" 25 "KnitRiverModel" "pile" "[I",
  .fieldLink "KnitRiverModel" 28 "KnitRiverModel" "comes" "[I",
  .fieldLink "KnitRiverModel" 146 "KnitRiverModel" "floods" "I",
  .fieldLink "KnitRiverModel" 31 "KnitRiverModel" "across" "[I",
  .fieldLink "KnitRiverModel" 34 "KnitRiverModel" "down" "[I",
  .fieldLink "KnitRiverModel" 160 "KnitRiverModel" "goesNow" "I",
  .fieldLink "KnitRiverModel" 37 "KnitRiverModel" "stitch" "[I"]
def Zc29 : List Cond := [.fieldLink "KnitRiverModel" 40 "KnitRiverModel" "bestStitch" "[I",
  .fieldLink "KnitRiverModel" 198 "KnitRiverModel" "bestYarn" "I",
  .fieldLink "KnitRiverModel" 217 "KnitRiverModel" "traced" "I",
  .fieldLink "KnitRiverModel" 43 "KnitRiverModel" "trace" "[I",
  .fieldLink "KnitRiverModel" 220 "KnitRiverModel" "speaks" "I",
  .fieldLink "KnitRiverModel" 242 "KnitRiverModel" "isParted" "Z",
  .fieldLink "KnitRiverModel" 46 "KnitRiverModel" "bits" "[I",
  .fieldLink "KnitRiverModel" 49 "KnitRiverModel" "sizes" "[I",
  .fieldLink "KnitRiverModel" 52 "KnitRiverModel" "number" "[I",
  .fieldLink "KnitRiverModel" 55 "KnitRiverModel" "aside" "[I",
  .laysFinal "KnitRiverModel" "KnitRiverModel" "s" "[I",
  .soleField "KnitRiverModel" "s",
  .laysFinal "KnitRiverModel" "KnitRiverModel" "kept" "[I",
  .soleField "KnitRiverModel" "kept",
  .lays "KnitRiverModel" "KnitRiverModel" "images" "I",
  .soleField "KnitRiverModel" "images",
  .laysFinal "KnitRiverModel" "KnitRiverModel" "errors" "[I",
  .soleField "KnitRiverModel" "errors",
  .lays "KnitRiverModel" "KnitRiverModel" "at" "I",
  .soleField "KnitRiverModel" "at",
  .lays "KnitRiverModel" "KnitRiverModel" "open" "I",
  .soleField "KnitRiverModel" "open",
  .lays "KnitRiverModel" "KnitRiverModel" "steps" "I",
  .soleField "KnitRiverModel" "steps",
  .lays "KnitRiverModel" "KnitRiverModel" "use" "I",
  .soleField "KnitRiverModel" "use",
  .laysFinal "KnitRiverModel" "KnitRiverModel" "step" "[I",
  .soleField "KnitRiverModel" "step",
  .laysFinal "KnitRiverModel" "KnitRiverModel" "named" "[I",
  .soleField "KnitRiverModel" "named",
  .laysFinal "KnitRiverModel" "KnitRiverModel" "pile" "[I",
  .soleField "KnitRiverModel" "pile"]
def Zc30 : List Cond := [.laysFinal "KnitRiverModel" "KnitRiverModel" "comes" "[I",
  .soleField "KnitRiverModel" "comes",
  .lays "KnitRiverModel" "KnitRiverModel" "floods" "I",
  .soleField "KnitRiverModel" "floods",
  .laysFinal "KnitRiverModel" "KnitRiverModel" "across" "[I",
  .soleField "KnitRiverModel" "across",
  .laysFinal "KnitRiverModel" "KnitRiverModel" "down" "[I",
  .soleField "KnitRiverModel" "down",
  .lays "KnitRiverModel" "KnitRiverModel" "goesNow" "I",
  .soleField "KnitRiverModel" "goesNow",
  .laysFinal "KnitRiverModel" "KnitRiverModel" "stitch" "[I",
  .soleField "KnitRiverModel" "stitch",
  .laysFinal "KnitRiverModel" "KnitRiverModel" "bestStitch" "[I",
  .soleField "KnitRiverModel" "bestStitch",
  .lays "KnitRiverModel" "KnitRiverModel" "bestYarn" "I",
  .soleField "KnitRiverModel" "bestYarn",
  .lays "KnitRiverModel" "KnitRiverModel" "traced" "I",
  .soleField "KnitRiverModel" "traced",
  .laysFinal "KnitRiverModel" "KnitRiverModel" "trace" "[I",
  .soleField "KnitRiverModel" "trace",
  .lays "KnitRiverModel" "KnitRiverModel" "speaks" "I",
  .soleField "KnitRiverModel" "speaks",
  .lays "KnitRiverModel" "KnitRiverModel" "isParted" "Z",
  .soleField "KnitRiverModel" "isParted",
  .laysFinal "KnitRiverModel" "KnitRiverModel" "bits" "[I",
  .soleField "KnitRiverModel" "bits",
  .laysFinal "KnitRiverModel" "KnitRiverModel" "sizes" "[I",
  .soleField "KnitRiverModel" "sizes",
  .laysFinal "KnitRiverModel" "KnitRiverModel" "number" "[I",
  .soleField "KnitRiverModel" "number",
  .laysFinal "KnitRiverModel" "KnitRiverModel" "aside" "[I",
  .soleField "KnitRiverModel" "aside"]
def Zc31 : List Cond := [.superclass "KnitRiverModel" "java/lang/Object",
  .methodLink "KnitRiverLaw" 58 ⟨"KnitRiverModel","feed","(JI)I"⟩,
  .instanceMethod ⟨"KnitRiverModel","feed","(JI)I"⟩,
  .selects "KnitRiverModel" ⟨"KnitRiverModel","feed","(JI)I"⟩ ⟨"KnitRiverModel","feed","(JI)I"⟩,
  .code ⟨"KnitRiverModel","feed","(JI)I"⟩ prog_11_method_11_code 5 (some .int),
  .methodLink "KnitRiverModel" 59 ⟨"KnitRiverModel","in","(III)Z"⟩,
  .static ⟨"KnitRiverModel","in","(III)Z"⟩,
  .code ⟨"KnitRiverModel","in","(III)Z"⟩ prog_11_method_3_code 3 (some .boolean),
  .methodLink "KnitRiverModel" 63 ⟨"KnitRiverModel","error","(I)I"⟩,
  .privateMethod ⟨"KnitRiverModel","error","(I)I"⟩,
  .instanceMethod ⟨"KnitRiverModel","error","(I)I"⟩,
  .code ⟨"KnitRiverModel","error","(I)I"⟩ prog_11_method_2_code 2 (some .int),
  .constant "KnitRiverModel" 58 (-1000000000),
  .constantLong "KnitRiverModel" 67 255,
  .methodLink "KnitRiverLaw" 62 ⟨"KnitRiverModel","text","(I)I"⟩,
  .instanceMethod ⟨"KnitRiverModel","text","(I)I"⟩,
  .selects "KnitRiverModel" ⟨"KnitRiverModel","text","(I)I"⟩ ⟨"KnitRiverModel","text","(I)I"⟩,
  .code ⟨"KnitRiverModel","text","(I)I"⟩ prog_11_method_23_code 5 (some .int),
  .methodLink "KnitRiverModel" 113 ⟨"KnitRiverModel","whole","()Z"⟩,
  .privateMethod ⟨"KnitRiverModel","whole","()Z"⟩,
  .instanceMethod ⟨"KnitRiverModel","whole","()Z"⟩,
  .code ⟨"KnitRiverModel","whole","()Z"⟩ prog_11_method_15_code 1 (some .boolean),
  .methodLink "KnitRiverModel" 79 ⟨"KnitRiverModel","both","()Z"⟩,
  .privateMethod ⟨"KnitRiverModel","both","()Z"⟩,
  .instanceMethod ⟨"KnitRiverModel","both","()Z"⟩,
  .code ⟨"KnitRiverModel","both","()Z"⟩ prog_11_method_16_code 1 (some .boolean),
  .methodLink "KnitRiverModel" 91 ⟨"KnitRiverModel","compared","()Z"⟩,
  .privateMethod ⟨"KnitRiverModel","compared","()Z"⟩,
  .instanceMethod ⟨"KnitRiverModel","compared","()Z"⟩,
  .code ⟨"KnitRiverModel","compared","()Z"⟩ prog_11_method_17_code 2 (some .boolean),
  .methodLink "KnitRiverModel" 94 ⟨"KnitRiverModel","sum","()Z"⟩,
  .privateMethod ⟨"KnitRiverModel","sum","()Z"⟩]
def Zc32 : List Cond := [.instanceMethod ⟨"KnitRiverModel","sum","()Z"⟩,
  .code ⟨"KnitRiverModel","sum","()Z"⟩ prog_11_method_18_code 2 (some .boolean),
  .methodLink "KnitRiverModel" 97 ⟨"KnitRiverModel","product","()Z"⟩,
  .privateMethod ⟨"KnitRiverModel","product","()Z"⟩,
  .instanceMethod ⟨"KnitRiverModel","product","()Z"⟩,
  .code ⟨"KnitRiverModel","product","()Z"⟩ prog_11_method_19_code 2 (some .boolean),
  .methodLink "KnitRiverModel" 100 ⟨"KnitRiverModel","one","()Z"⟩,
  .privateMethod ⟨"KnitRiverModel","one","()Z"⟩,
  .instanceMethod ⟨"KnitRiverModel","one","()Z"⟩,
  .code ⟨"KnitRiverModel","one","()Z"⟩ prog_11_method_21_code 4 (some .boolean),
  .methodLink "KnitRiverModel" 83 ⟨"KnitRiverModel","look","()I"⟩,
  .privateMethod ⟨"KnitRiverModel","look","()I"⟩,
  .instanceMethod ⟨"KnitRiverModel","look","()I"⟩,
  .code ⟨"KnitRiverModel","look","()I"⟩ prog_11_method_12_code 1 (some .int),
  .methodLink "KnitRiverModel" 106 ⟨"KnitRiverModel","isName","(I)Z"⟩,
  .privateMethod ⟨"KnitRiverModel","isName","(I)Z"⟩,
  .instanceMethod ⟨"KnitRiverModel","isName","(I)Z"⟩,
  .code ⟨"KnitRiverModel","isName","(I)Z"⟩ prog_11_method_13_code 2 (some .boolean),
  .methodLink "KnitRiverModel" 87 ⟨"KnitRiverModel","step1","(II)V"⟩,
  .privateMethod ⟨"KnitRiverModel","step1","(II)V"⟩,
  .instanceMethod ⟨"KnitRiverModel","step1","(II)V"⟩,
  .code ⟨"KnitRiverModel","step1","(II)V"⟩ prog_11_method_14_code 3 none,
  .methodLink "KnitRiverModel" 110 ⟨"KnitRiverModel","opens","()Z"⟩,
  .privateMethod ⟨"KnitRiverModel","opens","()Z"⟩,
  .instanceMethod ⟨"KnitRiverModel","opens","()Z"⟩,
  .code ⟨"KnitRiverModel","opens","()Z"⟩ prog_11_method_20_code 1 (some .boolean),
  .methodLink "KnitRiverLaw" 66 ⟨"KnitRiverModel","untell","(I)I"⟩,
  .instanceMethod ⟨"KnitRiverModel","untell","(I)I"⟩,
  .selects "KnitRiverModel" ⟨"KnitRiverModel","untell","(I)I"⟩ ⟨"KnitRiverModel","untell","(I)I"⟩,
  .code ⟨"KnitRiverModel","untell","(I)I"⟩ prog_11_method_24_code 3 (some .int),
  .methodLink "KnitRiverModel" 116 ⟨"KnitRiverModel","hasText","(I)Z"⟩,
  .privateMethod ⟨"KnitRiverModel","hasText","(I)Z"⟩]
def Zc33 : List Cond := [.instanceMethod ⟨"KnitRiverModel","hasText","(I)Z"⟩,
  .code ⟨"KnitRiverModel","hasText","(I)Z"⟩ prog_11_method_22_code 2 (some .boolean),
  .methodLink "KnitRiverLaw" 17 ⟨"KnitRiverModel","knit","(III)I"⟩,
  .instanceMethod ⟨"KnitRiverModel","knit","(III)I"⟩,
  .selects "KnitRiverModel" ⟨"KnitRiverModel","knit","(III)I"⟩ ⟨"KnitRiverModel","knit","(III)I"⟩,
  .code ⟨"KnitRiverModel","knit","(III)I"⟩ prog_11_method_41_code 6 (some .int),
  .methodLink "KnitRiverModel" 168 ⟨"KnitRiverModel","isKind","(I)Z"⟩,
  .static ⟨"KnitRiverModel","isKind","(I)Z"⟩,
  .code ⟨"KnitRiverModel","isKind","(I)Z"⟩ prog_11_method_40_code 1 (some .boolean),
  .methodLink "KnitRiverModel" 171 ⟨"KnitRiverModel","isTension","(I)Z"⟩,
  .static ⟨"KnitRiverModel","isTension","(I)Z"⟩,
  .code ⟨"KnitRiverModel","isTension","(I)Z"⟩ prog_11_method_7_code 1 (some .boolean),
  .methodLink "KnitRiverModel" 140 ⟨"KnitRiverModel","yarnAs","(III)I"⟩,
  .privateMethod ⟨"KnitRiverModel","yarnAs","(III)I"⟩,
  .instanceMethod ⟨"KnitRiverModel","yarnAs","(III)I"⟩,
  .code ⟨"KnitRiverModel","yarnAs","(III)I"⟩ prog_11_method_30_code 4 (some .int),
  .methodLink "KnitRiverModel" 129 ⟨"KnitRiverModel","saidOf","(IIII)I"⟩,
  .privateMethod ⟨"KnitRiverModel","saidOf","(IIII)I"⟩,
  .instanceMethod ⟨"KnitRiverModel","saidOf","(IIII)I"⟩,
  .code ⟨"KnitRiverModel","saidOf","(IIII)I"⟩ prog_11_method_27_code 6 (some .int),
  .methodLink "KnitRiverModel" 133 ⟨"KnitRiverModel","yarnTold","(III)I"⟩,
  .privateMethod ⟨"KnitRiverModel","yarnTold","(III)I"⟩,
  .instanceMethod ⟨"KnitRiverModel","yarnTold","(III)I"⟩,
  .code ⟨"KnitRiverModel","yarnTold","(III)I"⟩ prog_11_method_28_code 4 (some .int),
  .methodLink "KnitRiverModel" 123 ⟨"KnitRiverModel","worked","(I)I"⟩,
  .privateMethod ⟨"KnitRiverModel","worked","(I)I"⟩,
  .instanceMethod ⟨"KnitRiverModel","worked","(I)I"⟩,
  .code ⟨"KnitRiverModel","worked","(I)I"⟩ prog_11_method_26_code 7 (some .int),
  .methodLink "KnitRiverModel" 119 ⟨"KnitRiverModel","joined","(III)I"⟩,
  .static ⟨"KnitRiverModel","joined","(III)I"⟩,
  .code ⟨"KnitRiverModel","joined","(III)I"⟩ prog_11_method_25_code 3 (some .int),
  .methodLink "KnitRiverModel" 126 ⟨"KnitRiverModel","held","(III)I"⟩]
def Zc34 : List Cond := [.static ⟨"KnitRiverModel","held","(III)I"⟩,
  .code ⟨"KnitRiverModel","held","(III)I"⟩ prog_11_method_4_code 3 (some .int),
  .methodLink "KnitRiverModel" 155 ⟨"KnitRiverModel","lays1","(III)V"⟩,
  .privateMethod ⟨"KnitRiverModel","lays1","(III)V"⟩,
  .instanceMethod ⟨"KnitRiverModel","lays1","(III)V"⟩,
  .code ⟨"KnitRiverModel","lays1","(III)V"⟩ prog_11_method_9_code 4 none,
  .methodLink "KnitRiverLaw" 22 ⟨"KnitRiverModel","rowIs","(II)I"⟩,
  .instanceMethod ⟨"KnitRiverModel","rowIs","(II)I"⟩,
  .selects "KnitRiverModel" ⟨"KnitRiverModel","rowIs","(II)I"⟩ ⟨"KnitRiverModel","rowIs","(II)I"⟩,
  .code ⟨"KnitRiverModel","rowIs","(II)I"⟩ prog_11_method_42_code 3 (some .int),
  .methodLink "KnitRiverModel" 174 ⟨"KnitRiverModel","isRow","(I)Z"⟩,
  .privateMethod ⟨"KnitRiverModel","isRow","(I)Z"⟩,
  .instanceMethod ⟨"KnitRiverModel","isRow","(I)Z"⟩,
  .code ⟨"KnitRiverModel","isRow","(I)Z"⟩ prog_11_method_6_code 2 (some .boolean),
  .methodLink "KnitRiverModel" 136 ⟨"KnitRiverModel","its","(II)I"⟩,
  .privateMethod ⟨"KnitRiverModel","its","(II)I"⟩,
  .instanceMethod ⟨"KnitRiverModel","its","(II)I"⟩,
  .code ⟨"KnitRiverModel","its","(II)I"⟩ prog_11_method_8_code 3 (some .int),
  .methodLink "KnitRiverModel" 177 ⟨"KnitRiverModel","yarnOf","(I)I"⟩,
  .privateMethod ⟨"KnitRiverModel","yarnOf","(I)I"⟩,
  .instanceMethod ⟨"KnitRiverModel","yarnOf","(I)I"⟩,
  .code ⟨"KnitRiverModel","yarnOf","(I)I"⟩ prog_11_method_31_code 2 (some .int),
  .methodLink "KnitRiverModel" 149 ⟨"KnitRiverModel","holdsBy","(II)I"⟩,
  .privateMethod ⟨"KnitRiverModel","holdsBy","(II)I"⟩,
  .instanceMethod ⟨"KnitRiverModel","holdsBy","(II)I"⟩,
  .code ⟨"KnitRiverModel","holdsBy","(II)I"⟩ prog_11_method_32_code 3 (some .int),
  .methodLink "KnitRiverModel" 143 ⟨"KnitRiverModel","holdsTold","(III)I"⟩,
  .privateMethod ⟨"KnitRiverModel","holdsTold","(III)I"⟩,
  .instanceMethod ⟨"KnitRiverModel","holdsTold","(III)I"⟩,
  .code ⟨"KnitRiverModel","holdsTold","(III)I"⟩ prog_11_method_29_code 4 (some .int),
  .methodLink "KnitRiverModel" 163 ⟨"KnitRiverModel","bendsAs","(II)I"⟩,
  .static ⟨"KnitRiverModel","bendsAs","(II)I"⟩]
def Zc35 : List Cond := [.code ⟨"KnitRiverModel","bendsAs","(II)I"⟩ prog_11_method_33_code 2 (some .int),
  .methodLink "KnitRiverLaw" 26 ⟨"KnitRiverModel","become","(II)I"⟩,
  .instanceMethod ⟨"KnitRiverModel","become","(II)I"⟩,
  .selects "KnitRiverModel" ⟨"KnitRiverModel","become","(II)I"⟩ ⟨"KnitRiverModel","become","(II)I"⟩,
  .code ⟨"KnitRiverModel","become","(II)I"⟩ prog_11_method_43_code 3 (some .int),
  .methodLink "KnitRiverModel" 180 ⟨"KnitRiverModel","change1","(II)I"⟩,
  .privateMethod ⟨"KnitRiverModel","change1","(II)I"⟩,
  .instanceMethod ⟨"KnitRiverModel","change1","(II)I"⟩,
  .code ⟨"KnitRiverModel","change1","(II)I"⟩ prog_11_method_10_code 4 (some .int),
  .methodLink "KnitRiverLaw" 30 ⟨"KnitRiverModel","as","(II)I"⟩,
  .instanceMethod ⟨"KnitRiverModel","as","(II)I"⟩,
  .selects "KnitRiverModel" ⟨"KnitRiverModel","as","(II)I"⟩ ⟨"KnitRiverModel","as","(II)I"⟩,
  .code ⟨"KnitRiverModel","as","(II)I"⟩ prog_11_method_44_code 4 (some .int),
  .methodLink "KnitRiverModel" 183 ⟨"KnitRiverModel","above","(I)I"⟩,
  .static ⟨"KnitRiverModel","above","(I)I"⟩,
  .code ⟨"KnitRiverModel","above","(I)I"⟩ prog_11_method_66_code 1 (some .int)]
set_option maxRecDepth 100000 in
theorem Zcg7 : tables_1_4 = Zc28 ++ (Zc29 ++ (Zc30 ++ (Zc31 ++ (Zc32 ++ (Zc33 ++ (Zc34 ++ (Zc35))))))) := rfl
def Zc36 : List Cond := [.methodLink "KnitRiverLaw" 34 ⟨"KnitRiverModel","tie","(II)I"⟩,
  .instanceMethod ⟨"KnitRiverModel","tie","(II)I"⟩,
  .selects "KnitRiverModel" ⟨"KnitRiverModel","tie","(II)I"⟩ ⟨"KnitRiverModel","tie","(II)I"⟩,
  .code ⟨"KnitRiverModel","tie","(II)I"⟩ prog_11_method_45_code 3 (some .int),
  .methodLink "KnitRiverLaw" 39 ⟨"KnitRiverModel","drop","(I)I"⟩,
  .instanceMethod ⟨"KnitRiverModel","drop","(I)I"⟩,
  .selects "KnitRiverModel" ⟨"KnitRiverModel","drop","(I)I"⟩ ⟨"KnitRiverModel","drop","(I)I"⟩,
  .code ⟨"KnitRiverModel","drop","(I)I"⟩ prog_11_method_46_code 2 (some .int),
  .methodLink "KnitRiverLaw" 43 ⟨"KnitRiverModel","tense","(II)I"⟩,
  .instanceMethod ⟨"KnitRiverModel","tense","(II)I"⟩,
  .selects "KnitRiverModel" ⟨"KnitRiverModel","tense","(II)I"⟩ ⟨"KnitRiverModel","tense","(II)I"⟩,
  .code ⟨"KnitRiverModel","tense","(II)I"⟩ prog_11_method_47_code 3 (some .int),
  .methodLink "KnitRiverLaw" 47 ⟨"KnitRiverModel","pull","(I)I"⟩,
  .instanceMethod ⟨"KnitRiverModel","pull","(I)I"⟩,
  .selects "KnitRiverModel" ⟨"KnitRiverModel","pull","(I)I"⟩ ⟨"KnitRiverModel","pull","(I)I"⟩,
  .code ⟨"KnitRiverModel","pull","(I)I"⟩ prog_11_method_48_code 3 (some .int),
  .methodLink "KnitRiverLaw" 51 ⟨"KnitRiverModel","wind","(II)I"⟩,
  .instanceMethod ⟨"KnitRiverModel","wind","(II)I"⟩,
  .selects "KnitRiverModel" ⟨"KnitRiverModel","wind","(II)I"⟩ ⟨"KnitRiverModel","wind","(II)I"⟩,
  .code ⟨"KnitRiverModel","wind","(II)I"⟩ prog_11_method_49_code 3 (some .int),
  .methodLink "KnitRiverLaw" 71 ⟨"KnitRiverModel","law","(IIII)I"⟩,
  .instanceMethod ⟨"KnitRiverModel","law","(IIII)I"⟩,
  .selects "KnitRiverModel" ⟨"KnitRiverModel","law","(IIII)I"⟩ ⟨"KnitRiverModel","law","(IIII)I"⟩,
  .code ⟨"KnitRiverModel","law","(IIII)I"⟩ prog_11_method_50_code 5 (some .int),
  .methodLink "KnitRiverLaw" 75 ⟨"KnitRiverModel","season","(I)I"⟩,
  .instanceMethod ⟨"KnitRiverModel","season","(I)I"⟩,
  .selects "KnitRiverModel" ⟨"KnitRiverModel","season","(I)I"⟩ ⟨"KnitRiverModel","season","(I)I"⟩,
  .code ⟨"KnitRiverModel","season","(I)I"⟩ prog_11_method_52_code 2 (some .int),
  .methodLink "KnitRiverModel" 186 ⟨"KnitRiverModel","isWater","(I)Z"⟩,
  .static ⟨"KnitRiverModel","isWater","(I)Z"⟩,
  .code ⟨"KnitRiverModel","isWater","(I)Z"⟩ prog_11_method_51_code 1 (some .boolean),
  .methodLink "KnitRiverModel" 189 ⟨"KnitRiverModel","aSeason","(I)I"⟩]
def Zc37 : List Cond := [.privateMethod ⟨"KnitRiverModel","aSeason","(I)I"⟩,
  .instanceMethod ⟨"KnitRiverModel","aSeason","(I)I"⟩,
  .code ⟨"KnitRiverModel","aSeason","(I)I"⟩ prog_11_method_35_code 4 (some .int),
  .methodLink "KnitRiverModel" 152 ⟨"KnitRiverModel","letDown","(II)V"⟩,
  .privateMethod ⟨"KnitRiverModel","letDown","(II)V"⟩,
  .instanceMethod ⟨"KnitRiverModel","letDown","(II)V"⟩,
  .code ⟨"KnitRiverModel","letDown","(II)V"⟩ prog_11_method_34_code 5 none,
  .methodLink "KnitRiverLaw" 79 ⟨"KnitRiverModel","loose","(I)I"⟩,
  .instanceMethod ⟨"KnitRiverModel","loose","(I)I"⟩,
  .selects "KnitRiverModel" ⟨"KnitRiverModel","loose","(I)I"⟩ ⟨"KnitRiverModel","loose","(I)I"⟩,
  .code ⟨"KnitRiverModel","loose","(I)I"⟩ prog_11_method_53_code 5 (some .int),
  .methodLink "KnitRiverModel" 192 ⟨"KnitRiverModel","draw","()I"⟩,
  .privateMethod ⟨"KnitRiverModel","draw","()I"⟩,
  .instanceMethod ⟨"KnitRiverModel","draw","()I"⟩,
  .code ⟨"KnitRiverModel","draw","()I"⟩ prog_11_method_36_code 1 (some .int),
  .constant "KnitRiverModel" 159 1103515245,
  .methodLink "KnitRiverLaw" 83 ⟨"KnitRiverModel","seed","(I)I"⟩,
  .instanceMethod ⟨"KnitRiverModel","seed","(I)I"⟩,
  .selects "KnitRiverModel" ⟨"KnitRiverModel","seed","(I)I"⟩ ⟨"KnitRiverModel","seed","(I)I"⟩,
  .code ⟨"KnitRiverModel","seed","(I)I"⟩ prog_11_method_54_code 2 (some .int),
  .methodLink "KnitRiverLaw" 87 ⟨"KnitRiverModel","flow","(III)I"⟩,
  .instanceMethod ⟨"KnitRiverModel","flow","(III)I"⟩,
  .selects "KnitRiverModel" ⟨"KnitRiverModel","flow","(III)I"⟩ ⟨"KnitRiverModel","flow","(III)I"⟩,
  .code ⟨"KnitRiverModel","flow","(III)I"⟩ prog_11_method_55_code 4 (some .int),
  .methodLink "KnitRiverLaw" 91 ⟨"KnitRiverModel","course","(II)I"⟩,
  .instanceMethod ⟨"KnitRiverModel","course","(II)I"⟩,
  .selects "KnitRiverModel" ⟨"KnitRiverModel","course","(II)I"⟩ ⟨"KnitRiverModel","course","(II)I"⟩,
  .code ⟨"KnitRiverModel","course","(II)I"⟩ prog_11_method_56_code 3 (some .int),
  .methodLink "KnitRiverModel" 195 ⟨"KnitRiverModel","findCourse","()V"⟩,
  .privateMethod ⟨"KnitRiverModel","findCourse","()V"⟩,
  .instanceMethod ⟨"KnitRiverModel","findCourse","()V"⟩,
  .code ⟨"KnitRiverModel","findCourse","()V"⟩ prog_11_method_39_code 2 none]
def Zc38 : List Cond := [.methodLink "KnitRiverModel" 166 ⟨"KnitRiverModel","step","(II)V"⟩,
  .privateMethod ⟨"KnitRiverModel","step","(II)V"⟩,
  .instanceMethod ⟨"KnitRiverModel","step","(II)V"⟩,
  .code ⟨"KnitRiverModel","step","(II)V"⟩ prog_11_method_38_code 3 none,
  .methodLink "KnitRiverLaw" 96 ⟨"KnitRiverModel","crosses","()I"⟩,
  .instanceMethod ⟨"KnitRiverModel","crosses","()I"⟩,
  .selects "KnitRiverModel" ⟨"KnitRiverModel","crosses","()I"⟩ ⟨"KnitRiverModel","crosses","()I"⟩,
  .code ⟨"KnitRiverModel","crosses","()I"⟩ prog_11_method_57_code 5 (some .int),
  .methodLink "KnitRiverLaw" 100 ⟨"KnitRiverModel","reach","(III)I"⟩,
  .instanceMethod ⟨"KnitRiverModel","reach","(III)I"⟩,
  .selects "KnitRiverModel" ⟨"KnitRiverModel","reach","(III)I"⟩ ⟨"KnitRiverModel","reach","(III)I"⟩,
  .code ⟨"KnitRiverModel","reach","(III)I"⟩ prog_11_method_60_code 5 (some .int),
  .methodLink "KnitRiverModel" 204 ⟨"KnitRiverModel","leads","(IIIII)Z"⟩,
  .privateMethod ⟨"KnitRiverModel","leads","(IIIII)Z"⟩,
  .instanceMethod ⟨"KnitRiverModel","leads","(IIIII)Z"⟩,
  .code ⟨"KnitRiverModel","leads","(IIIII)Z"⟩ prog_11_method_59_code 11 (some .boolean),
  .methodLink "KnitRiverModel" 201 ⟨"KnitRiverModel","stitchOf","(I)I"⟩,
  .static ⟨"KnitRiverModel","stitchOf","(I)I"⟩,
  .code ⟨"KnitRiverModel","stitchOf","(I)I"⟩ prog_11_method_58_code 1 (some .int),
  .methodLink "KnitRiverLaw" 104 ⟨"KnitRiverModel","ease","(II)I"⟩,
  .instanceMethod ⟨"KnitRiverModel","ease","(II)I"⟩,
  .selects "KnitRiverModel" ⟨"KnitRiverModel","ease","(II)I"⟩ ⟨"KnitRiverModel","ease","(II)I"⟩,
  .code ⟨"KnitRiverModel","ease","(II)I"⟩ prog_11_method_61_code 7 (some .int),
  .methodLink "KnitRiverModel" 208 ⟨"KnitRiverModel","bitsOf","(I)I"⟩,
  .static ⟨"KnitRiverModel","bitsOf","(I)I"⟩,
  .code ⟨"KnitRiverModel","bitsOf","(I)I"⟩ prog_11_method_37_code 3 (some .int),
  .methodLink "KnitRiverLaw" 108 ⟨"KnitRiverModel","odds","(I)I"⟩,
  .instanceMethod ⟨"KnitRiverModel","odds","(I)I"⟩,
  .selects "KnitRiverModel" ⟨"KnitRiverModel","odds","(I)I"⟩ ⟨"KnitRiverModel","odds","(I)I"⟩,
  .code ⟨"KnitRiverModel","odds","(I)I"⟩ prog_11_method_63_code 4 (some .int),
  .methodLink "KnitRiverModel" 211 ⟨"KnitRiverModel","divisor","(II)I"⟩,
  .static ⟨"KnitRiverModel","divisor","(II)I"⟩]
def Zc39 : List Cond := [.code ⟨"KnitRiverModel","divisor","(II)I"⟩ prog_11_method_62_code 5 (some .int),
  .methodLink "KnitRiverLaw" 112 ⟨"KnitRiverModel","fits","(II)I"⟩,
  .instanceMethod ⟨"KnitRiverModel","fits","(II)I"⟩,
  .selects "KnitRiverModel" ⟨"KnitRiverModel","fits","(II)I"⟩ ⟨"KnitRiverModel","fits","(II)I"⟩,
  .code ⟨"KnitRiverModel","fits","(II)I"⟩ prog_11_method_64_code 10 (some .int),
  .methodLink "KnitRiverModel" 214 ⟨"KnitRiverModel","lacks","(I)I"⟩,
  .privateMethod ⟨"KnitRiverModel","lacks","(I)I"⟩,
  .instanceMethod ⟨"KnitRiverModel","lacks","(I)I"⟩,
  .code ⟨"KnitRiverModel","lacks","(I)I"⟩ prog_11_method_79_code 2 (some .int),
  .methodLink "KnitRiverModel" 249 ⟨"KnitRiverModel","isSheet","(I)Z"⟩,
  .static ⟨"KnitRiverModel","isSheet","(I)Z"⟩,
  .code ⟨"KnitRiverModel","isSheet","(I)Z"⟩ prog_11_method_75_code 1 (some .boolean),
  .methodLink "KnitRiverLaw" 116 ⟨"KnitRiverModel","voice","(III)I"⟩,
  .instanceMethod ⟨"KnitRiverModel","voice","(III)I"⟩,
  .selects "KnitRiverModel" ⟨"KnitRiverModel","voice","(III)I"⟩ ⟨"KnitRiverModel","voice","(III)I"⟩,
  .code ⟨"KnitRiverModel","voice","(III)I"⟩ prog_11_method_73_code 6 (some .int),
  .methodLink "KnitRiverModel" 230 ⟨"KnitRiverModel","kindNow","()I"⟩,
  .privateMethod ⟨"KnitRiverModel","kindNow","()I"⟩,
  .instanceMethod ⟨"KnitRiverModel","kindNow","()I"⟩,
  .code ⟨"KnitRiverModel","kindNow","()I"⟩ prog_11_method_67_code 1 (some .int),
  .methodLink "KnitRiverModel" 227 ⟨"KnitRiverModel","runsAs","(II)I"⟩,
  .privateMethod ⟨"KnitRiverModel","runsAs","(II)I"⟩,
  .instanceMethod ⟨"KnitRiverModel","runsAs","(II)I"⟩,
  .code ⟨"KnitRiverModel","runsAs","(II)I"⟩ prog_11_method_69_code 3 (some .int),
  .methodLink "KnitRiverModel" 223 ⟨"KnitRiverModel","starts","(I)V"⟩,
  .privateMethod ⟨"KnitRiverModel","starts","(I)V"⟩,
  .instanceMethod ⟨"KnitRiverModel","starts","(I)V"⟩,
  .code ⟨"KnitRiverModel","starts","(I)V"⟩ prog_11_method_65_code 2 none,
  .methodLink "KnitRiverModel" 233 ⟨"KnitRiverModel","turnsAs","(II)I"⟩,
  .privateMethod ⟨"KnitRiverModel","turnsAs","(II)I"⟩,
  .instanceMethod ⟨"KnitRiverModel","turnsAs","(II)I"⟩,
  .code ⟨"KnitRiverModel","turnsAs","(II)I"⟩ prog_11_method_70_code 3 (some .int)]
def Zc40 : List Cond := [.methodLink "KnitRiverModel" 236 ⟨"KnitRiverModel","mNow","()I"⟩,
  .privateMethod ⟨"KnitRiverModel","mNow","()I"⟩,
  .instanceMethod ⟨"KnitRiverModel","mNow","()I"⟩,
  .code ⟨"KnitRiverModel","mNow","()I"⟩ prog_11_method_68_code 1 (some .int),
  .methodLink "KnitRiverModel" 239 ⟨"KnitRiverModel","poolsAs","(II)I"⟩,
  .privateMethod ⟨"KnitRiverModel","poolsAs","(II)I"⟩,
  .instanceMethod ⟨"KnitRiverModel","poolsAs","(II)I"⟩,
  .code ⟨"KnitRiverModel","poolsAs","(II)I"⟩ prog_11_method_71_code 3 (some .int),
  .methodLink "KnitRiverModel" 246 ⟨"KnitRiverModel","partsAs","(II)I"⟩,
  .privateMethod ⟨"KnitRiverModel","partsAs","(II)I"⟩,
  .instanceMethod ⟨"KnitRiverModel","partsAs","(II)I"⟩,
  .code ⟨"KnitRiverModel","partsAs","(II)I"⟩ prog_11_method_72_code 5 (some .int),
  .methodLink "KnitRiverLaw" 120 ⟨"KnitRiverModel","body","(I)I"⟩,
  .instanceMethod ⟨"KnitRiverModel","body","(I)I"⟩,
  .selects "KnitRiverModel" ⟨"KnitRiverModel","body","(I)I"⟩ ⟨"KnitRiverModel","body","(I)I"⟩,
  .code ⟨"KnitRiverModel","body","(I)I"⟩ prog_11_method_74_code 2 (some .int),
  .methodLink "KnitRiverLaw" 124 ⟨"KnitRiverModel","sheet","(III)I"⟩,
  .instanceMethod ⟨"KnitRiverModel","sheet","(III)I"⟩,
  .selects "KnitRiverModel" ⟨"KnitRiverModel","sheet","(III)I"⟩ ⟨"KnitRiverModel","sheet","(III)I"⟩,
  .code ⟨"KnitRiverModel","sheet","(III)I"⟩ prog_11_method_76_code 5 (some .int),
  .methodLink "KnitRiverLaw" 128 ⟨"KnitRiverModel","put","(III)I"⟩,
  .instanceMethod ⟨"KnitRiverModel","put","(III)I"⟩,
  .selects "KnitRiverModel" ⟨"KnitRiverModel","put","(III)I"⟩ ⟨"KnitRiverModel","put","(III)I"⟩,
  .code ⟨"KnitRiverModel","put","(III)I"⟩ prog_11_method_77_code 5 (some .int),
  .methodLink "KnitRiverLaw" 133 ⟨"KnitRiverModel","move","(IIIII)I"⟩,
  .instanceMethod ⟨"KnitRiverModel","move","(IIIII)I"⟩,
  .selects "KnitRiverModel" ⟨"KnitRiverModel","move","(IIIII)I"⟩ ⟨"KnitRiverModel","move","(IIIII)I"⟩,
  .code ⟨"KnitRiverModel","move","(IIIII)I"⟩ prog_11_method_78_code 7 (some .int),
  .methodLink "KnitRiverLaw" 137 ⟨"KnitRiverModel","tensions","(I)I"⟩,
  .instanceMethod ⟨"KnitRiverModel","tensions","(I)I"⟩,
  .selects "KnitRiverModel" ⟨"KnitRiverModel","tensions","(I)I"⟩ ⟨"KnitRiverModel","tensions","(I)I"⟩,
  .code ⟨"KnitRiverModel","tensions","(I)I"⟩ prog_11_method_80_code 4 (some .int)]
def Zc41 : List Cond := [.methodLink "KnitRiverLaw" 141 ⟨"KnitRiverModel","judge","(I)I"⟩,
  .instanceMethod ⟨"KnitRiverModel","judge","(I)I"⟩,
  .selects "KnitRiverModel" ⟨"KnitRiverModel","judge","(I)I"⟩ ⟨"KnitRiverModel","judge","(I)I"⟩,
  .code ⟨"KnitRiverModel","judge","(I)I"⟩ prog_11_method_81_code 4 (some .int),
  .methodLink "KnitRiverLaw" 145 ⟨"KnitRiverModel","image","()I"⟩,
  .instanceMethod ⟨"KnitRiverModel","image","()I"⟩,
  .selects "KnitRiverModel" ⟨"KnitRiverModel","image","()I"⟩ ⟨"KnitRiverModel","image","()I"⟩,
  .code ⟨"KnitRiverModel","image","()I"⟩ prog_11_method_82_code 1 (some .int),
  .methodLink "KnitRiverModel" 252 ⟨"KnitRiverModel","copyAll","([I[I)V"⟩,
  .static ⟨"KnitRiverModel","copyAll","([I[I)V"⟩,
  .code ⟨"KnitRiverModel","copyAll","([I[I)V"⟩ prog_11_method_5_code 3 none,
  .methodLink "KnitRiverLaw" 149 ⟨"KnitRiverModel","restore","()I"⟩,
  .instanceMethod ⟨"KnitRiverModel","restore","()I"⟩,
  .selects "KnitRiverModel" ⟨"KnitRiverModel","restore","()I"⟩ ⟨"KnitRiverModel","restore","()I"⟩,
  .code ⟨"KnitRiverModel","restore","()I"⟩ prog_11_method_83_code 1 (some .int),
  .methodLink "KnitRiverLaw" 153 ⟨"KnitRiverModel","tell","(I)I"⟩,
  .instanceMethod ⟨"KnitRiverModel","tell","(I)I"⟩,
  .selects "KnitRiverModel" ⟨"KnitRiverModel","tell","(I)I"⟩ ⟨"KnitRiverModel","tell","(I)I"⟩,
  .code ⟨"KnitRiverModel","tell","(I)I"⟩ prog_11_method_84_code 2 (some .int),
  .methodLink "KnitRiverLaw" 157 ⟨"KnitRiverModel","check","()I"⟩,
  .instanceMethod ⟨"KnitRiverModel","check","()I"⟩,
  .selects "KnitRiverModel" ⟨"KnitRiverModel","check","()I"⟩ ⟨"KnitRiverModel","check","()I"⟩,
  .code ⟨"KnitRiverModel","check","()I"⟩ prog_11_method_85_code 3 (some .int),
  .methodLink "KnitRiverLaw" 161 ⟨"KnitRiverModel","count","(I)I"⟩,
  .instanceMethod ⟨"KnitRiverModel","count","(I)I"⟩,
  .selects "KnitRiverModel" ⟨"KnitRiverModel","count","(I)I"⟩ ⟨"KnitRiverModel","count","(I)I"⟩,
  .code ⟨"KnitRiverModel","count","(I)I"⟩ prog_11_method_86_code 2 (some .int),
  .methodLink "KnitRiverLaw" 165 ⟨"KnitRiverModel","told","(I)I"⟩,
  .instanceMethod ⟨"KnitRiverModel","told","(I)I"⟩,
  .selects "KnitRiverModel" ⟨"KnitRiverModel","told","(I)I"⟩ ⟨"KnitRiverModel","told","(I)I"⟩,
  .code ⟨"KnitRiverModel","told","(I)I"⟩ prog_11_method_87_code 2 (some .int),
  .constantLong "KnitRiverLaw" 52 4294967295]
def Zc42 : List Cond := [.arrayClass .char]
set_option maxRecDepth 100000 in
theorem Zcg8 : tables_1_5 = Zc36 ++ (Zc37 ++ (Zc38 ++ (Zc39 ++ (Zc40 ++ (Zc41 ++ (Zc42)))))) := rfl
theorem Zc_all : lw_tbl = (k2_sels lw_privs_1 ++ (k2_sels lw_privs_2 ++ (k2_sels lw_privs_3 ++ (k2_sels lw_privs_4)))) ++ (tables_1_1 ++ (tables_1_2 ++ (tables_1_3 ++ (tables_1_4 ++ (tables_1_5))))) := by
  show k2_sels lw_privs ++ tables_1 = _
  unfold lw_privs tables_1 k2_sels
  simp only [List.map_append]
def ZcL : List (List Cond) := [Zc0, Zc1, Zc2, Zc3, Zc4, Zc5, Zc6, Zc7, Zc8, Zc9, Zc10, Zc11, Zc12, Zc13, Zc14, Zc15, Zc16, Zc17, Zc18, Zc19, Zc20, Zc21, Zc22, Zc23, Zc24, Zc25, Zc26, Zc27, Zc28, Zc29, Zc30, Zc31, Zc32, Zc33, Zc34, Zc35, Zc36, Zc37, Zc38, Zc39, Zc40, Zc41, Zc42]
theorem Zc_in : ∀ c ∈ ZcL, ∀ w ∈ c, w ∈ lw_tbl := by
  intro c hc w hw
  rw [Zc_all, Zcg0, Zcg1, Zcg2, Zcg3, Zcg4, Zcg5, Zcg6, Zcg7, Zcg8]
  simp only [ZcL, List.mem_cons, List.not_mem_nil, or_false] at hc
  simp only [List.mem_append]
  rcases hc with rfl | rfl | rfl | rfl | rfl | rfl | rfl | rfl | rfl | rfl | rfl | rfl | rfl | rfl | rfl | rfl | rfl | rfl | rfl | rfl | rfl | rfl | rfl | rfl | rfl | rfl | rfl | rfl | rfl | rfl | rfl | rfl | rfl | rfl | rfl | rfl | rfl | rfl | rfl | rfl | rfl | rfl | rfl <;> simp only [hw, true_or, or_true]
def Zcd : Cond := .initialized "KnitRiverLaw"
def Zcn : Cond := .methodLinkNest "KnitRiver$River" 68 ⟨"KnitRiver$Text","<init>","()V"⟩ "KnitRiver"
def Zan (h : Nat) : Cond := match ((ZcL.getD (h / 32) [])[h % 32]?) with
  | some w => (match Zisn w with
    | true => w
    | false => Zcn)
  | none => Zcn
def Zat (h : Nat) : Cond := match ((ZcL.getD (h / 32) [])[h % 32]?) with
  | some w => (match goodWord w with
    | true => w
    | false => Zcd)
  | none => Zcd
theorem Zc_get {h : Nat} {w : Cond} (hw : (ZcL.getD (h / 32) [])[h % 32]? = some w) : w ∈ lw_tbl := by
  have hm := List.mem_of_getElem? hw
  rw [List.getD_eq_getElem?_getD] at hm
  cases hc : ZcL[h / 32]? with
  | none => rw [hc] at hm; simp at hm
  | some c => rw [hc] at hm; exact Zc_in c (List.mem_of_getElem? hc) w hm
theorem Zcd_in : Zcd ∈ lw_tbl := Zc_in Zc4 (List.mem_of_getElem? (i := 4) rfl) _ (List.mem_of_getElem? (i := 0) rfl)
theorem Zcn_in : Zcn ∈ lw_tbl := Zc_get (h := 159) rfl
theorem Zat_tg (h : Nat) : Zat h ∈ Ztg := by
  have hd : Zcd ∈ Ztg := List.mem_filter.mpr ⟨Zcd_in, rfl⟩
  unfold Zat
  split
  · rename_i w hw
    split
    · rename_i hg
      exact List.mem_filter.mpr ⟨Zc_get hw, hg⟩
    · exact hd
  · exact hd
theorem Zan_tg (h : Nat) : Zan h ∈ Znest := by
  have hd : Zcn ∈ Znest := List.mem_filter.mpr ⟨Zcn_in, rfl⟩
  unfold Zan
  split
  · rename_i w hw
    split
    · rename_i hg
      exact List.mem_filter.mpr ⟨Zc_get hw, hg⟩
    · exact hd
  · exact hd
theorem Zat_in {ws : List Cond} {hs : List Nat} (h : ws = hs.map Zat) : ∀ w ∈ ws, w ∈ Ztg := by
  intro w hw
  rw [h] at hw
  obtain ⟨i, -, rfl⟩ := List.mem_map.mp hw
  exact Zat_tg i
theorem Zan_in {ws : List Cond} {hs : List Nat} (h : ws = hs.map Zan) : ∀ w ∈ ws, w ∈ Znest := by
  intro w hw
  rw [h] at hw
  obtain ⟨i, -, rfl⟩ := List.mem_map.mp hw
  exact Zan_tg i
def ZT0 : u_T := fun k => match k with
  | 0 => ("KnitRiver", "now", "LKnitRiver$River;", true)
  | 1 => ("KnitRiver", "kept", "LKnitRiver$River;", true)
  | 2 => ("KnitRiver", "reader", "LKnitRiver$Reader;", true)
  | 3 => ("KnitRiver", "path", "LKnitRiver$Course;", true)
  | 4 => ("KnitRiver", "way", "LKnitRiver$Reach;", true)
  | 5 => ("KnitRiver", "voices", "LKnitRiver$Voices;", true)
  | 6 => ("KnitRiver", "sheets", "[LKnitRiver$Sheet;", true)
  | 7 => ("KnitRiver", "errors", "[I", true)
  | _ => ("KnitRiver", "images", "I", false)
def ZT1 : u_T := fun k => match k with
  | 0 => ("KnitRiver$River", "kind", "[I", true)
  | 1 => ("KnitRiver$River", "m", "[I", true)
  | 2 => ("KnitRiver$River", "wide", "[I", true)
  | 3 => ("KnitRiver$River", "tension", "[I", true)
  | 4 => ("KnitRiver$River", "tied", "[I", true)
  | 5 => ("KnitRiver$River", "rows", "I", false)
  | 6 => ("KnitRiver$River", "thread", "I", false)
  | 7 => ("KnitRiver$River", "way", "I", false)
  | 8 => ("KnitRiver$River", "season", "I", false)
  | 9 => ("KnitRiver$River", "sea", "I", false)
  | 10 => ("KnitRiver$River", "z", "I", false)
  | 11 => ("KnitRiver$River", "tape", "[B", true)
  | 12 => ("KnitRiver$River", "bytes", "I", false)
  | 13 => ("KnitRiver$River", "waits", "[I", true)
  | 14 => ("KnitRiver$River", "waiting", "I", false)
  | 15 => ("KnitRiver$River", "texts", "[LKnitRiver$Text;", true)
  | _ => ("KnitRiver$River", "comes", "[I", true)
def ZT2 : u_T := fun k => match k with
  | 0 => ("KnitRiver$Text", "known", "Z", false)
  | 1 => ("KnitRiver$Text", "code", "[I", true)
  | 2 => ("KnitRiver$Text", "size", "I", false)
  | 3 => ("KnitRiver$Text", "stack", "[I", true)
  | _ => ("KnitRiver$Text", "top", "I", false)
def ZT3 : u_T := fun k => match k with
  | 0 => ("KnitRiver$Reader", "code", "[I", true)
  | 1 => ("KnitRiver$Reader", "size", "I", false)
  | 2 => ("KnitRiver$Reader", "at", "I", false)
  | 3 => ("KnitRiver$Reader", "tape", "[B", false)
  | 4 => ("KnitRiver$Reader", "bytes", "I", false)
  | _ => ("KnitRiver$Reader", "use", "I", false)
def ZT4 : u_T := fun k => match k with
  | 0 => ("KnitRiver$Course", "across", "[I", true)
  | 1 => ("KnitRiver$Course", "down", "[I", true)
  | 2 => ("KnitRiver$Course", "rows", "I", false)
  | _ => ("KnitRiver$Course", "goes", "I", false)
def ZT5 : u_T := fun k => match k with
  | 0 => ("KnitRiver$Reach", "yarns", "[I", true)
  | 1 => ("KnitRiver$Reach", "many", "I", false)
  | 2 => ("KnitRiver$Reach", "yarn", "I", false)
  | _ => ("KnitRiver$Reach", "found", "I", false)
def ZT6 : u_T := fun k => match k with
  | 0 => ("KnitRiver$Voices", "trace", "[I", true)
  | 1 => ("KnitRiver$Voices", "traced", "I", false)
  | 2 => ("KnitRiver$Voices", "answer", "I", false)
  | 3 => ("KnitRiver$Voices", "begun", "[I", true)
  | 4 => ("KnitRiver$Voices", "began", "I", false)
  | 5 => ("KnitRiver$Voices", "parted", "Z", false)
  | 6 => ("KnitRiver$Voices", "kind", "I", false)
  | 7 => ("KnitRiver$Voices", "k", "I", false)
  | _ => ("KnitRiver$Voices", "m", "I", false)
def ZT7 : u_T := fun k => match k with
  | 0 => ("KnitRiver$Sheet", "numbers", "[I", true)
  | 1 => ("KnitRiver$Sheet", "bits", "I", false)
  | _ => ("KnitRiver$Sheet", "size", "I", false)
def ZT8 : u_T := fun k => match k with
  | 0 => ("KnitRiverModel", "s", "[I", true)
  | 1 => ("KnitRiverModel", "kept", "[I", true)
  | 2 => ("KnitRiverModel", "images", "I", false)
  | 3 => ("KnitRiverModel", "errors", "[I", true)
  | 4 => ("KnitRiverModel", "at", "I", false)
  | 5 => ("KnitRiverModel", "open", "I", false)
  | 6 => ("KnitRiverModel", "steps", "I", false)
  | 7 => ("KnitRiverModel", "use", "I", false)
  | 8 => ("KnitRiverModel", "step", "[I", true)
  | 9 => ("KnitRiverModel", "named", "[I", true)
  | 10 => ("KnitRiverModel", "pile", "[I", true)
  | 11 => ("KnitRiverModel", "comes", "[I", true)
  | 12 => ("KnitRiverModel", "floods", "I", false)
  | 13 => ("KnitRiverModel", "across", "[I", true)
  | 14 => ("KnitRiverModel", "down", "[I", true)
  | 15 => ("KnitRiverModel", "goesNow", "I", false)
  | 16 => ("KnitRiverModel", "stitch", "[I", true)
  | 17 => ("KnitRiverModel", "bestStitch", "[I", true)
  | 18 => ("KnitRiverModel", "bestYarn", "I", false)
  | 19 => ("KnitRiverModel", "traced", "I", false)
  | 20 => ("KnitRiverModel", "trace", "[I", true)
  | 21 => ("KnitRiverModel", "speaks", "I", false)
  | 22 => ("KnitRiverModel", "isParted", "Z", false)
  | 23 => ("KnitRiverModel", "bits", "[I", true)
  | 24 => ("KnitRiverModel", "sizes", "[I", true)
  | 25 => ("KnitRiverModel", "number", "[I", true)
  | _ => ("KnitRiverModel", "aside", "[I", true)
def Zcl : List vw_C := [("KnitRiver", ZT0, 9), ("KnitRiver$River", ZT1, 17), ("KnitRiver$Text", ZT2, 5), ("KnitRiver$Reader", ZT3, 6), ("KnitRiver$Course", ZT4, 4), ("KnitRiver$Reach", ZT5, 4), ("KnitRiver$Voices", ZT6, 9), ("KnitRiver$Sheet", ZT7, 3), ("KnitRiverModel", ZT8, 27)]
def Zft : Nat → Nat → FieldType := fun c => match c with
  | 0 => fun k => match k with
    | 0 => (.object "KnitRiver$River")
    | 1 => (.object "KnitRiver$River")
    | 2 => (.object "KnitRiver$Reader")
    | 3 => (.object "KnitRiver$Course")
    | 4 => (.object "KnitRiver$Reach")
    | 5 => (.object "KnitRiver$Voices")
    | 6 => (.array (.object "KnitRiver$Sheet"))
    | 7 => (.array .int)
    | _ => .int
  | 1 => fun k => match k with
    | 0 => (.array .int)
    | 1 => (.array .int)
    | 2 => (.array .int)
    | 3 => (.array .int)
    | 4 => (.array .int)
    | 5 => .int
    | 6 => .int
    | 7 => .int
    | 8 => .int
    | 9 => .int
    | 10 => .int
    | 11 => (.array .byte)
    | 12 => .int
    | 13 => (.array .int)
    | 14 => .int
    | 15 => (.array (.object "KnitRiver$Text"))
    | _ => (.array .int)
  | 2 => fun k => match k with
    | 0 => .boolean
    | 1 => (.array .int)
    | 2 => .int
    | 3 => (.array .int)
    | _ => .int
  | 3 => fun k => match k with
    | 0 => (.array .int)
    | 1 => .int
    | 2 => .int
    | 3 => (.array .byte)
    | 4 => .int
    | _ => .int
  | 4 => fun k => match k with
    | 0 => (.array .int)
    | 1 => (.array .int)
    | 2 => .int
    | _ => .int
  | 5 => fun k => match k with
    | 0 => (.array .int)
    | 1 => .int
    | 2 => .int
    | _ => .int
  | 6 => fun k => match k with
    | 0 => (.array .int)
    | 1 => .int
    | 2 => .int
    | 3 => (.array .int)
    | 4 => .int
    | 5 => .boolean
    | 6 => .int
    | 7 => .int
    | _ => .int
  | 7 => fun k => match k with
    | 0 => (.array .int)
    | 1 => .int
    | _ => .int
  | _ => fun k => match k with
    | 0 => (.array .int)
    | 1 => (.array .int)
    | 2 => .int
    | 3 => (.array .int)
    | 4 => .int
    | 5 => .int
    | 6 => .int
    | 7 => .int
    | 8 => (.array .int)
    | 9 => (.array .int)
    | 10 => (.array .int)
    | 11 => (.array .int)
    | 12 => .int
    | 13 => (.array .int)
    | 14 => (.array .int)
    | 15 => .int
    | 16 => (.array .int)
    | 17 => (.array .int)
    | 18 => .int
    | 19 => .int
    | 20 => (.array .int)
    | 21 => .int
    | 22 => .boolean
    | 23 => (.array .int)
    | 24 => (.array .int)
    | 25 => (.array .int)
    | _ => (.array .int)
theorem Zcw0 : u_ws "KnitRiver" ZT0 9 = [416, 418, 420, 422, 424, 426, 428, 430, 432].map Zat := rfl
theorem Zcw1 : u_ws "KnitRiver$River" ZT1 17 = [223, 225, 227, 229, 231, 233, 235, 237, 239, 241, 243, 245, 247, 249, 251, 253, 255].map Zat := rfl
theorem Zcw2 : u_ws "KnitRiver$Text" ZT2 5 = [170, 172, 174, 176, 178].map Zat := rfl
theorem Zcw3 : u_ws "KnitRiver$Reader" ZT3 6 = [273, 275, 277, 279, 281, 283].map Zat := rfl
theorem Zcw4 : u_ws "KnitRiver$Course" ZT4 4 = [302, 304, 306, 308].map Zat := rfl
theorem Zcw5 : u_ws "KnitRiver$Reach" ZT5 4 = [325, 327, 329, 331].map Zat := rfl
theorem Zcw6 : u_ws "KnitRiver$Voices" ZT6 9 = [352, 354, 356, 358, 360, 362, 364, 366, 384].map Zat := rfl
theorem Zcw7 : u_ws "KnitRiver$Sheet" ZT7 3 = [400, 402, 404].map Zat := rfl
theorem Zcw8 : u_ws "KnitRiverModel" ZT8 27 = [938, 940, 942, 944, 946, 948, 950, 952, 954, 956, 958, 960, 962, 964, 966, 968, 970, 972, 974, 976, 978, 980, 982, 984, 986, 988, 990].map Zat := rfl
theorem Zcl_ws {j : Nat} {q : vw_C} (h : Zcl[j]? = some q) : ∀ w ∈ u_ws q.1 q.2.1 q.2.2, w ∈ Ztg := by
  match j, h with
  | 0, h => cases h; exact Zat_in Zcw0
  | 1, h => cases h; exact Zat_in Zcw1
  | 2, h => cases h; exact Zat_in Zcw2
  | 3, h => cases h; exact Zat_in Zcw3
  | 4, h => cases h; exact Zat_in Zcw4
  | 5, h => cases h; exact Zat_in Zcw5
  | 6, h => cases h; exact Zat_in Zcw6
  | 7, h => cases h; exact Zat_in Zcw7
  | 8, h => cases h; exact Zat_in Zcw8
  | j + 9, h => simp [Zcl] at h
theorem Zcl_okq {j : Nat} {q : vw_C} (h : Zcl[j]? = some q) : j < 9 := (List.getElem?_eq_some_iff.mp h).1
def ZclB (j : Nat) : Bool := match Zcl[j]? with
  | some q => (List.range q.2.2).all (fun k => decide ((q.2.1 k).1 = q.1) && decide (parseFieldDescriptor (q.2.1 k).2.2.1 = some (Zft j k)) && (List.range q.2.2).all (fun i => decide (k = i) || decide ((q.2.1 k).2.1 ≠ (q.2.1 i).2.1)))
  | none => true
theorem ZclB_ok : ∀ j, j < 9 → ZclB j = true := by decide +kernel
theorem ZclB_at {j : Nat} {q : vw_C} (h : Zcl[j]? = some q) {k : Nat} (hk : k < q.2.2) : (q.2.1 k).1 = q.1 ∧ parseFieldDescriptor (q.2.1 k).2.2.1 = some (Zft j k) ∧ ∀ i, i < q.2.2 → k = i ∨ (q.2.1 k).2.1 ≠ (q.2.1 i).2.1 := by
  have h1 := ZclB_ok j (Zcl_okq h)
  unfold ZclB at h1
  rw [h] at h1
  have h2 := List.all_eq_true.mp h1 k (List.mem_range.mpr hk)
  simp only [Bool.and_eq_true, decide_eq_true_eq] at h2
  refine ⟨h2.1.1, h2.1.2, fun i hi => ?_⟩
  have h3 := List.all_eq_true.mp h2.2 i (List.mem_range.mpr hi)
  simpa using h3
theorem Zcl_own {j : Nat} {q : vw_C} (h : Zcl[j]? = some q) {k : Nat} (hk : k < q.2.2) : (q.2.1 k).1 = q.1 := (ZclB_at h hk).1
theorem Zcl_ty {j : Nat} {q : vw_C} (h : Zcl[j]? = some q) : ∀ k, k < q.2.2 → parseFieldDescriptor (q.2.1 k).2.2.1 = some (Zft j k) := fun k hk => (ZclB_at h hk).2.1
theorem Zcl_nm {j : Nat} {q : vw_C} (h : Zcl[j]? = some q) : ∀ a, a < q.2.2 → ∀ b, b < q.2.2 → a ≠ b → (q.2.1 a).2.1 ≠ (q.2.1 b).2.1 := fun a ha b hb hab => ((ZclB_at h ha).2.2 b hb).elim (fun e => absurd e hab) (fun e => e)
def ZshL : List (Nat × Nat × List (Nat × Nat)) := [(4, 0, [(2, 1), (2, 17), (2, 33), (2, 35), (2, 38), (2, 40), (2, 43), (2, 44), (0, 0)]),
  (4, 1, [(2, 2), (2, 3), (2, 4), (2, 5), (2, 6), (0, 0), (0, 0), (0, 0), (0, 0), (0, 0), (0, 0), (2, 7), (0, 0), (2, 8), (0, 0), (2, 9), (2, 10)]),
  (0, 15, []),
  (0, 15, []),
  (0, 15, []),
  (0, 15, []),
  (0, 15, []),
  (1, 60, []),
  (0, 24, []),
  (2, 2, [(2, 11), (2, 14)]),
  (0, 16, []),
  (4, 2, [(1, 0), (2, 12), (0, 0), (2, 13), (0, 0)]),
  (0, 60, []),
  (0, 60, []),
  (4, 2, [(1, 0), (2, 15), (0, 0), (2, 16), (0, 0)]),
  (0, 60, []),
  (0, 60, []),
  (4, 1, [(2, 18), (2, 19), (2, 20), (2, 21), (2, 22), (0, 0), (0, 0), (0, 0), (0, 0), (0, 0), (0, 0), (2, 23), (0, 0), (2, 24), (0, 0), (2, 25), (2, 26)]),
  (0, 15, []),
  (0, 15, []),
  (0, 15, []),
  (0, 15, []),
  (0, 15, []),
  (1, 60, []),
  (0, 24, []),
  (2, 2, [(2, 27), (2, 30)]),
  (0, 16, []),
  (4, 2, [(1, 0), (2, 28), (0, 0), (2, 29), (0, 0)]),
  (0, 60, []),
  (0, 60, []),
  (4, 2, [(1, 0), (2, 31), (0, 0), (2, 32), (0, 0)]),
  (0, 60, []),
  (0, 60, []),
  (4, 3, [(2, 34), (0, 0), (0, 0), (3, 7), (0, 0), (0, 0)]),
  (0, 60, []),
  (4, 4, [(2, 36), (2, 37), (0, 0), (0, 0)]),
  (0, 16, []),
  (0, 16, []),
  (4, 5, [(2, 39), (0, 0), (0, 0), (0, 0)]),
  (0, 4, []),
  (4, 6, [(2, 41), (0, 0), (0, 0), (2, 42), (0, 0), (1, 0), (0, 0), (0, 0), (0, 0)]),
  (0, 30, []),
  (0, 30, []),
  (3, 4, [(2, 45), (2, 47), (2, 49), (2, 51)]),
  (0, 7, []),
  (4, 7, [(2, 46), (0, 0), (0, 0)]),
  (0, 24, []),
  (4, 7, [(2, 48), (0, 0), (0, 0)]),
  (0, 24, []),
  (4, 7, [(2, 50), (0, 0), (0, 0)]),
  (0, 24, []),
  (4, 7, [(2, 52), (0, 0), (0, 0)]),
  (0, 24, []),
  (4, 8, [(2, 54), (2, 55), (0, 0), (2, 56), (0, 0), (0, 0), (0, 0), (0, 0), (2, 57), (2, 58), (2, 59), (2, 60), (0, 0), (2, 61), (2, 62), (0, 0), (2, 63), (2, 64), (0, 0), (0, 0), (2, 65), (0, 0), (1, 0), (2, 66), (2, 67), (2, 68), (2, 69)]),
  (0, 418, []),
  (0, 418, []),
  (0, 7, []),
  (0, 124, []),
  (0, 128, []),
  (0, 64, []),
  (0, 16, []),
  (0, 22, []),
  (0, 22, []),
  (0, 5, []),
  (0, 5, []),
  (0, 30, []),
  (0, 4, []),
  (0, 4, []),
  (0, 96, []),
  (0, 24, [])]
abbrev Zno : Nat := 70
def ZmtL : List Zmi := [(⟨"KnitRiver", "<init>", "()V"⟩, prog_1_method_1_code, 2, none),
  (⟨"KnitRiver", "knit", "(III)I"⟩, prog_1_method_2_code, 5, some .int),
  (⟨"KnitRiver", "rowIs", "(II)I"⟩, prog_1_method_3_code, 3, some .int),
  (⟨"KnitRiver", "become", "(II)I"⟩, prog_1_method_4_code, 4, some .int),
  (⟨"KnitRiver", "as", "(II)I"⟩, prog_1_method_5_code, 3, some .int),
  (⟨"KnitRiver", "tie", "(II)I"⟩, prog_1_method_6_code, 4, some .int),
  (⟨"KnitRiver", "drop", "(I)I"⟩, prog_1_method_7_code, 2, some .int),
  (⟨"KnitRiver", "tense", "(II)I"⟩, prog_1_method_8_code, 4, some .int),
  (⟨"KnitRiver", "pull", "(I)I"⟩, prog_1_method_9_code, 2, some .int),
  (⟨"KnitRiver", "wind", "(II)I"⟩, prog_1_method_10_code, 4, some .int),
  (⟨"KnitRiver", "feed", "(JI)I"⟩, prog_1_method_11_code, 5, some .int),
  (⟨"KnitRiver", "text", "(I)I"⟩, prog_1_method_12_code, 3, some .int),
  (⟨"KnitRiver", "untell", "(I)I"⟩, prog_1_method_13_code, 3, some .int),
  (⟨"KnitRiver", "law", "(IIII)I"⟩, prog_1_method_14_code, 5, some .int),
  (⟨"KnitRiver", "season", "(I)I"⟩, prog_1_method_15_code, 2, some .int),
  (⟨"KnitRiver", "loose", "(I)I"⟩, prog_1_method_16_code, 4, some .int),
  (⟨"KnitRiver", "seed", "(I)I"⟩, prog_1_method_17_code, 3, some .int),
  (⟨"KnitRiver", "flow", "(III)I"⟩, prog_1_method_18_code, 5, some .int),
  (⟨"KnitRiver", "course", "(II)I"⟩, prog_1_method_19_code, 3, some .int),
  (⟨"KnitRiver", "crosses", "()I"⟩, prog_1_method_20_code, 1, some .int),
  (⟨"KnitRiver", "reach", "(III)I"⟩, prog_1_method_21_code, 4, some .int),
  (⟨"KnitRiver", "ease", "(II)I"⟩, prog_1_method_22_code, 7, some .int),
  (⟨"KnitRiver", "odds", "(I)I"⟩, prog_1_method_23_code, 5, some .int),
  (⟨"KnitRiver", "fits", "(II)I"⟩, prog_1_method_24_code, 6, some .int),
  (⟨"KnitRiver", "voice", "(III)I"⟩, prog_1_method_25_code, 4, some .int),
  (⟨"KnitRiver", "body", "(I)I"⟩, prog_1_method_26_code, 2, some .int),
  (⟨"KnitRiver", "sheet", "(III)I"⟩, prog_1_method_27_code, 4, some .int),
  (⟨"KnitRiver", "put", "(III)I"⟩, prog_1_method_28_code, 5, some .int),
  (⟨"KnitRiver", "move", "(IIIII)I"⟩, prog_1_method_29_code, 8, some .int),
  (⟨"KnitRiver", "tensions", "(I)I"⟩, prog_1_method_30_code, 5, some .int),
  (⟨"KnitRiver", "judge", "(I)I"⟩, prog_1_method_31_code, 5, some .int),
  (⟨"KnitRiver", "image", "()I"⟩, prog_1_method_32_code, 1, some .int),
  (⟨"KnitRiver", "restore", "()I"⟩, prog_1_method_33_code, 1, some .int),
  (⟨"KnitRiver", "tell", "(I)I"⟩, prog_1_method_34_code, 2, some .int),
  (⟨"KnitRiver", "check", "()I"⟩, prog_1_method_35_code, 3, some .int),
  (⟨"KnitRiver", "count", "(I)I"⟩, prog_1_method_36_code, 2, some .int),
  (⟨"KnitRiver", "told", "(I)I"⟩, prog_1_method_37_code, 2, some .int),
  (⟨"KnitRiver", "refuse", "(I)I"⟩, prog_1_method_38_code, 2, some .int),
  (⟨"KnitRiver", "isRow", "(I)Z"⟩, prog_1_method_39_code, 2, some .boolean),
  (⟨"KnitRiver", "isStitch", "(I)Z"⟩, prog_1_method_40_code, 1, some .boolean),
  (⟨"KnitRiver", "isTension", "(I)Z"⟩, prog_1_method_41_code, 1, some .boolean),
  (⟨"KnitRiver", "isWater", "(I)Z"⟩, prog_1_method_42_code, 1, some .boolean),
  (⟨"KnitRiver", "isUse", "(I)Z"⟩, prog_1_method_43_code, 1, some .boolean),
  (⟨"KnitRiver", "isSheet", "(I)Z"⟩, prog_1_method_44_code, 1, some .boolean),
  (⟨"KnitRiver", "whyNoSheet", "(I)I"⟩, prog_1_method_45_code, 2, some .int),
  (⟨"KnitRiver", "comesAsTold", "(ILKnitRiver$Sheet;)Z"⟩, prog_1_method_46_code, 4, some .boolean),
  (⟨"KnitRiver", "within", "(III)Z"⟩, prog_1_method_47_code, 3, some .boolean),
  (⟨"KnitRiver", "held", "(III)I"⟩, prog_1_method_48_code, 3, some .int),
  (⟨"KnitRiver", "commonDivisor", "(II)I"⟩, prog_1_method_49_code, 6, some .int),
  (⟨"KnitRiverModel", "<init>", "()V"⟩, prog_11_method_1_code, 1, none),
  (⟨"KnitRiverModel", "error", "(I)I"⟩, prog_11_method_2_code, 2, some .int),
  (⟨"KnitRiverModel", "in", "(III)Z"⟩, prog_11_method_3_code, 3, some .boolean),
  (⟨"KnitRiverModel", "held", "(III)I"⟩, prog_11_method_4_code, 3, some .int),
  (⟨"KnitRiverModel", "copyAll", "([I[I)V"⟩, prog_11_method_5_code, 3, none),
  (⟨"KnitRiverModel", "isRow", "(I)Z"⟩, prog_11_method_6_code, 2, some .boolean),
  (⟨"KnitRiverModel", "isTension", "(I)Z"⟩, prog_11_method_7_code, 1, some .boolean),
  (⟨"KnitRiverModel", "its", "(II)I"⟩, prog_11_method_8_code, 3, some .int),
  (⟨"KnitRiverModel", "lays1", "(III)V"⟩, prog_11_method_9_code, 4, none),
  (⟨"KnitRiverModel", "change1", "(II)I"⟩, prog_11_method_10_code, 4, some .int),
  (⟨"KnitRiverModel", "feed", "(JI)I"⟩, prog_11_method_11_code, 5, some .int),
  (⟨"KnitRiverModel", "look", "()I"⟩, prog_11_method_12_code, 1, some .int),
  (⟨"KnitRiverModel", "isName", "(I)Z"⟩, prog_11_method_13_code, 2, some .boolean),
  (⟨"KnitRiverModel", "step1", "(II)V"⟩, prog_11_method_14_code, 3, none),
  (⟨"KnitRiverModel", "whole", "()Z"⟩, prog_11_method_15_code, 1, some .boolean),
  (⟨"KnitRiverModel", "both", "()Z"⟩, prog_11_method_16_code, 1, some .boolean),
  (⟨"KnitRiverModel", "compared", "()Z"⟩, prog_11_method_17_code, 2, some .boolean),
  (⟨"KnitRiverModel", "sum", "()Z"⟩, prog_11_method_18_code, 2, some .boolean),
  (⟨"KnitRiverModel", "product", "()Z"⟩, prog_11_method_19_code, 2, some .boolean),
  (⟨"KnitRiverModel", "opens", "()Z"⟩, prog_11_method_20_code, 1, some .boolean),
  (⟨"KnitRiverModel", "one", "()Z"⟩, prog_11_method_21_code, 4, some .boolean),
  (⟨"KnitRiverModel", "hasText", "(I)Z"⟩, prog_11_method_22_code, 2, some .boolean),
  (⟨"KnitRiverModel", "text", "(I)I"⟩, prog_11_method_23_code, 5, some .int),
  (⟨"KnitRiverModel", "untell", "(I)I"⟩, prog_11_method_24_code, 3, some .int),
  (⟨"KnitRiverModel", "joined", "(III)I"⟩, prog_11_method_25_code, 3, some .int),
  (⟨"KnitRiverModel", "worked", "(I)I"⟩, prog_11_method_26_code, 7, some .int),
  (⟨"KnitRiverModel", "saidOf", "(IIII)I"⟩, prog_11_method_27_code, 6, some .int),
  (⟨"KnitRiverModel", "yarnTold", "(III)I"⟩, prog_11_method_28_code, 4, some .int),
  (⟨"KnitRiverModel", "holdsTold", "(III)I"⟩, prog_11_method_29_code, 4, some .int),
  (⟨"KnitRiverModel", "yarnAs", "(III)I"⟩, prog_11_method_30_code, 4, some .int),
  (⟨"KnitRiverModel", "yarnOf", "(I)I"⟩, prog_11_method_31_code, 2, some .int),
  (⟨"KnitRiverModel", "holdsBy", "(II)I"⟩, prog_11_method_32_code, 3, some .int),
  (⟨"KnitRiverModel", "bendsAs", "(II)I"⟩, prog_11_method_33_code, 2, some .int),
  (⟨"KnitRiverModel", "letDown", "(II)V"⟩, prog_11_method_34_code, 5, none),
  (⟨"KnitRiverModel", "aSeason", "(I)I"⟩, prog_11_method_35_code, 4, some .int),
  (⟨"KnitRiverModel", "draw", "()I"⟩, prog_11_method_36_code, 1, some .int),
  (⟨"KnitRiverModel", "bitsOf", "(I)I"⟩, prog_11_method_37_code, 3, some .int),
  (⟨"KnitRiverModel", "step", "(II)V"⟩, prog_11_method_38_code, 3, none),
  (⟨"KnitRiverModel", "findCourse", "()V"⟩, prog_11_method_39_code, 2, none),
  (⟨"KnitRiverModel", "isKind", "(I)Z"⟩, prog_11_method_40_code, 1, some .boolean),
  (⟨"KnitRiverModel", "knit", "(III)I"⟩, prog_11_method_41_code, 6, some .int),
  (⟨"KnitRiverModel", "rowIs", "(II)I"⟩, prog_11_method_42_code, 3, some .int),
  (⟨"KnitRiverModel", "become", "(II)I"⟩, prog_11_method_43_code, 3, some .int),
  (⟨"KnitRiverModel", "as", "(II)I"⟩, prog_11_method_44_code, 4, some .int),
  (⟨"KnitRiverModel", "tie", "(II)I"⟩, prog_11_method_45_code, 3, some .int),
  (⟨"KnitRiverModel", "drop", "(I)I"⟩, prog_11_method_46_code, 2, some .int),
  (⟨"KnitRiverModel", "tense", "(II)I"⟩, prog_11_method_47_code, 3, some .int),
  (⟨"KnitRiverModel", "pull", "(I)I"⟩, prog_11_method_48_code, 3, some .int),
  (⟨"KnitRiverModel", "wind", "(II)I"⟩, prog_11_method_49_code, 3, some .int),
  (⟨"KnitRiverModel", "law", "(IIII)I"⟩, prog_11_method_50_code, 5, some .int),
  (⟨"KnitRiverModel", "isWater", "(I)Z"⟩, prog_11_method_51_code, 1, some .boolean),
  (⟨"KnitRiverModel", "season", "(I)I"⟩, prog_11_method_52_code, 2, some .int),
  (⟨"KnitRiverModel", "loose", "(I)I"⟩, prog_11_method_53_code, 5, some .int),
  (⟨"KnitRiverModel", "seed", "(I)I"⟩, prog_11_method_54_code, 2, some .int),
  (⟨"KnitRiverModel", "flow", "(III)I"⟩, prog_11_method_55_code, 4, some .int),
  (⟨"KnitRiverModel", "course", "(II)I"⟩, prog_11_method_56_code, 3, some .int),
  (⟨"KnitRiverModel", "crosses", "()I"⟩, prog_11_method_57_code, 5, some .int),
  (⟨"KnitRiverModel", "stitchOf", "(I)I"⟩, prog_11_method_58_code, 1, some .int),
  (⟨"KnitRiverModel", "leads", "(IIIII)Z"⟩, prog_11_method_59_code, 11, some .boolean),
  (⟨"KnitRiverModel", "reach", "(III)I"⟩, prog_11_method_60_code, 5, some .int),
  (⟨"KnitRiverModel", "ease", "(II)I"⟩, prog_11_method_61_code, 7, some .int),
  (⟨"KnitRiverModel", "divisor", "(II)I"⟩, prog_11_method_62_code, 5, some .int),
  (⟨"KnitRiverModel", "odds", "(I)I"⟩, prog_11_method_63_code, 4, some .int),
  (⟨"KnitRiverModel", "fits", "(II)I"⟩, prog_11_method_64_code, 10, some .int),
  (⟨"KnitRiverModel", "starts", "(I)V"⟩, prog_11_method_65_code, 2, none),
  (⟨"KnitRiverModel", "above", "(I)I"⟩, prog_11_method_66_code, 1, some .int),
  (⟨"KnitRiverModel", "kindNow", "()I"⟩, prog_11_method_67_code, 1, some .int),
  (⟨"KnitRiverModel", "mNow", "()I"⟩, prog_11_method_68_code, 1, some .int),
  (⟨"KnitRiverModel", "runsAs", "(II)I"⟩, prog_11_method_69_code, 3, some .int),
  (⟨"KnitRiverModel", "turnsAs", "(II)I"⟩, prog_11_method_70_code, 3, some .int),
  (⟨"KnitRiverModel", "poolsAs", "(II)I"⟩, prog_11_method_71_code, 3, some .int),
  (⟨"KnitRiverModel", "partsAs", "(II)I"⟩, prog_11_method_72_code, 5, some .int),
  (⟨"KnitRiverModel", "voice", "(III)I"⟩, prog_11_method_73_code, 6, some .int),
  (⟨"KnitRiverModel", "body", "(I)I"⟩, prog_11_method_74_code, 2, some .int),
  (⟨"KnitRiverModel", "isSheet", "(I)Z"⟩, prog_11_method_75_code, 1, some .boolean),
  (⟨"KnitRiverModel", "sheet", "(III)I"⟩, prog_11_method_76_code, 5, some .int),
  (⟨"KnitRiverModel", "put", "(III)I"⟩, prog_11_method_77_code, 5, some .int),
  (⟨"KnitRiverModel", "move", "(IIIII)I"⟩, prog_11_method_78_code, 7, some .int),
  (⟨"KnitRiverModel", "lacks", "(I)I"⟩, prog_11_method_79_code, 2, some .int),
  (⟨"KnitRiverModel", "tensions", "(I)I"⟩, prog_11_method_80_code, 4, some .int),
  (⟨"KnitRiverModel", "judge", "(I)I"⟩, prog_11_method_81_code, 4, some .int),
  (⟨"KnitRiverModel", "image", "()I"⟩, prog_11_method_82_code, 1, some .int),
  (⟨"KnitRiverModel", "restore", "()I"⟩, prog_11_method_83_code, 1, some .int),
  (⟨"KnitRiverModel", "tell", "(I)I"⟩, prog_11_method_84_code, 2, some .int),
  (⟨"KnitRiverModel", "check", "()I"⟩, prog_11_method_85_code, 3, some .int),
  (⟨"KnitRiverModel", "count", "(I)I"⟩, prog_11_method_86_code, 2, some .int),
  (⟨"KnitRiverModel", "told", "(I)I"⟩, prog_11_method_87_code, 2, some .int),
  (⟨"KnitRiver$Course", "<init>", "()V"⟩, prog_2_method_1_code, 1, none),
  (⟨"KnitRiver$Course", "turned", "(II)I"⟩, prog_2_method_2_code, 2, some .int),
  (⟨"KnitRiver$Course", "acrossMore", "(I)I"⟩, prog_2_method_3_code, 1, some .int),
  (⟨"KnitRiver$Course", "downMore", "(I)I"⟩, prog_2_method_4_code, 1, some .int),
  (⟨"KnitRiver$Course", "follow", "(LKnitRiver$River;)V"⟩, prog_2_method_5_code, 3, none),
  (⟨"KnitRiver$Course", "crossings", "()I"⟩, prog_2_method_6_code, 3, some .int),
  (⟨"KnitRiver$Course", "wasAhead", "(I)Z"⟩, prog_2_method_7_code, 3, some .boolean),
  (⟨"KnitRiver$Kinds", "above", "(I)I"⟩, prog_3_method_2_code, 1, some .int),
  (⟨"KnitRiver$Kinds", "isOrIsUnder", "(II)Z"⟩, prog_3_method_3_code, 4, some .boolean),
  (⟨"KnitRiver$Kinds", "yarn", "(IIII)I"⟩, prog_3_method_4_code, 6, some .int),
  (⟨"KnitRiver$Kinds", "bends", "(II)I"⟩, prog_3_method_5_code, 3, some .int),
  (⟨"KnitRiver$Reach", "<init>", "()V"⟩, prog_4_method_1_code, 1, none),
  (⟨"KnitRiver$Reach", "stitch", "(I)I"⟩, prog_4_method_2_code, 2, some .int),
  (⟨"KnitRiver$Reach", "finds", "(LKnitRiver$River;LKnitRiver$Course;II)Z"⟩, prog_4_method_3_code, 7, some .boolean),
  (⟨"KnitRiver$Reach", "keepIfLess", "(I)V"⟩, prog_4_method_4_code, 3, none),
  (⟨"KnitRiver$Reach", "leads", "(ILKnitRiver$Course;II)Z"⟩, prog_4_method_5_code, 10, some .boolean),
  (⟨"KnitRiver$Reach", "yarnOf", "(I)I"⟩, prog_4_method_6_code, 4, some .int),
  (⟨"KnitRiver$Reach", "digit", "(III)I"⟩, prog_4_method_7_code, 3, some .int),
  (⟨"KnitRiver$Reader", "<init>", "()V"⟩, prog_5_method_1_code, 1, none),
  (⟨"KnitRiver$Reader", "reads", "([BII)Z"⟩, prog_5_method_2_code, 4, some .boolean),
  (⟨"KnitRiver$Reader", "next", "()I"⟩, prog_5_method_3_code, 1, some .int),
  (⟨"KnitRiver$Reader", "keep", "(I)V"⟩, prog_5_method_4_code, 2, none),
  (⟨"KnitRiver$Reader", "part", "(II)Z"⟩, prog_5_method_5_code, 6, some .boolean),
  (⟨"KnitRiver$Reader", "between", "(II)Z"⟩, prog_5_method_6_code, 3, some .boolean),
  (⟨"KnitRiver$Reader", "levelOf", "(I)I"⟩, prog_5_method_7_code, 1, some .int),
  (⟨"KnitRiver$Reader", "piece", "(I)Z"⟩, prog_5_method_8_code, 4, some .boolean),
  (⟨"KnitRiver$Reader", "opened", "(II)Z"⟩, prog_5_method_9_code, 4, some .boolean),
  (⟨"KnitRiver$Reader", "number", "()V"⟩, prog_5_method_10_code, 3, none),
  (⟨"KnitRiver$Reader", "isDigit", "(I)Z"⟩, prog_5_method_11_code, 1, some .boolean),
  (⟨"KnitRiver$Reader", "nameOf", "(I)I"⟩, prog_5_method_12_code, 4, some .int),
  (⟨"KnitRiver$River", "<init>", "()V"⟩, prog_6_method_1_code, 1, none),
  (⟨"KnitRiver$River", "copy", "(LKnitRiver$River;)V"⟩, prog_6_method_2_code, 2, none),
  (⟨"KnitRiver$River", "addRow", "(III)V"⟩, prog_6_method_3_code, 4, none),
  (⟨"KnitRiver$River", "yarnFor", "(III)I"⟩, prog_6_method_4_code, 4, some .int),
  (⟨"KnitRiver$River", "yarnOf", "(I)I"⟩, prog_6_method_5_code, 2, some .int),
  (⟨"KnitRiver$River", "holdsOf", "(II)I"⟩, prog_6_method_6_code, 4, some .int),
  (⟨"KnitRiver$River", "given", "(IIII)I"⟩, prog_6_method_7_code, 6, some .int),
  (⟨"KnitRiver$River", "leastHolds", "()I"⟩, prog_6_method_8_code, 3, some .int),
  (⟨"KnitRiver$River", "undo", "(I)I"⟩, prog_6_method_9_code, 4, some .int),
  (⟨"KnitRiver$River", "waters", "(II)I"⟩, prog_6_method_10_code, 6, some .int),
  (⟨"KnitRiver$River", "pass", "(I)I"⟩, prog_6_method_11_code, 4, some .int),
  (⟨"KnitRiver$River", "wear", "()V"⟩, prog_6_method_12_code, 3, none),
  (⟨"KnitRiver$River", "draw", "()I"⟩, prog_6_method_13_code, 1, some .int),
  (⟨"KnitRiver$Sheet", "<init>", "()V"⟩, prog_7_method_1_code, 1, none),
  (⟨"KnitRiver$Sheet", "make", "(II)V"⟩, prog_7_method_2_code, 4, none),
  (⟨"KnitRiver$Sheet", "write", "(II)V"⟩, prog_7_method_3_code, 3, none),
  (⟨"KnitRiver$Sheet", "has", "(II)Z"⟩, prog_7_method_4_code, 3, some .boolean),
  (⟨"KnitRiver$Text", "<init>", "()V"⟩, prog_8_method_1_code, 1, none),
  (⟨"KnitRiver$Text", "take", "([II)V"⟩, prog_8_method_2_code, 3, none),
  (⟨"KnitRiver$Text", "copy", "(LKnitRiver$Text;)V"⟩, prog_8_method_3_code, 2, none),
  (⟨"KnitRiver$Text", "workedOut", "(III)I"⟩, prog_8_method_4_code, 8, some .int),
  (⟨"KnitRiver$Text", "push", "(I)V"⟩, prog_8_method_5_code, 2, none),
  (⟨"KnitRiver$Text", "pop", "()I"⟩, prog_8_method_6_code, 1, some .int),
  (⟨"KnitRiver$Text", "joined", "(III)I"⟩, prog_8_method_7_code, 3, some .int),
  (⟨"KnitRiver$Voices", "<init>", "()V"⟩, prog_9_method_1_code, 1, none),
  (⟨"KnitRiver$Voices", "utters", "(LKnitRiver$River;III)Z"⟩, prog_9_method_2_code, 6, some .boolean),
  (⟨"KnitRiver$Voices", "spoken", "(IIII)I"⟩, prog_9_method_3_code, 6, some .int),
  (⟨"KnitRiver$Voices", "bodyOf", "(II)I"⟩, prog_9_method_4_code, 5, some .int),
  (⟨"KnitRiver$Voices", "workedOut", "(III)I"⟩, prog_9_method_5_code, 5, some .int),
  (⟨"KnitRiver$Voices", "partedBy", "(II)I"⟩, prog_9_method_6_code, 3, some .int),
  (x, code, maxLocals, ret),
  (⟨"java/lang/Integer", "bitCount", "(I)I"⟩, prog_12_method_49_code, 1, some .int),
  (⟨"java/lang/Math", "abs", "(I)I"⟩, prog_13_method_59_code, 1, some .int),
  (⟨"java/lang/Math", "floorMod", "(II)I"⟩, prog_13_method_50_code, 3, some .int),
  (⟨"java/lang/Math", "max", "(II)I"⟩, prog_13_method_65_code, 2, some .int),
  (⟨"java/lang/Math", "min", "(II)I"⟩, prog_13_method_69_code, 2, some .int)]
def ZnaL : List Nat := [0, 3, 2, 2, 2, 2, 1, 2, 1, 2, 2, 1, 1, 4, 1, 1, 1, 3, 2, 0, 3, 2, 1, 2, 3, 1, 3, 3, 5, 1, 1, 0, 0, 1, 0, 1, 1, 1, 1, 1, 1, 1, 1, 1, 1, 2, 3, 3, 2, 0, 1, 3, 3, 2, 1, 1, 2, 3, 2, 2, 0, 1, 2, 0, 0, 0, 0, 0, 0, 0, 1, 1, 1, 3, 1, 4, 3, 3, 3, 1, 2, 2, 2, 1, 0, 1, 2, 0, 1, 3, 2, 2, 2, 2, 1, 2, 1, 2, 4, 1, 1, 1, 1, 3, 2, 0, 1, 5, 3, 2, 2, 1, 2, 1, 1, 0, 0, 2, 2, 2, 2, 3, 1, 1, 3, 3, 5, 1, 1, 1, 0, 0, 1, 0, 1, 1, 0, 2, 1, 1, 1, 0, 1, 1, 2, 4, 2, 0, 1, 4, 1, 4, 1, 3, 0, 3, 0, 1, 2, 2, 1, 1, 2, 0, 1, 1, 0, 1, 3, 3, 1, 2, 4, 0, 1, 2, 1, 0, 0, 0, 2, 2, 2, 0, 2, 1, 3, 1, 0, 3, 0, 4, 4, 2, 3, 2, 1, 1, 1, 2, 2, 2]
def ZciL : List Nat := [0, 0, 0, 0, 0, 0, 0, 0, 0, 0, 0, 0, 0, 0, 0, 0, 0, 0, 0, 0, 0, 0, 0, 0, 0, 0, 0, 0, 0, 0, 0, 0, 0, 0, 0, 0, 0, 0, 0, 0, 0, 0, 0, 0, 0, 0, 0, 0, 0, 8, 8, 8, 8, 8, 8, 8, 8, 8, 8, 8, 8, 8, 8, 8, 8, 8, 8, 8, 8, 8, 8, 8, 8, 8, 8, 8, 8, 8, 8, 8, 8, 8, 8, 8, 8, 8, 8, 8, 8, 8, 8, 8, 8, 8, 8, 8, 8, 8, 8, 8, 8, 8, 8, 8, 8, 8, 8, 8, 8, 8, 8, 8, 8, 8, 8, 8, 8, 8, 8, 8, 8, 8, 8, 8, 8, 8, 8, 8, 8, 8, 8, 8, 8, 8, 8, 8, 4, 4, 4, 4, 4, 4, 4, 99, 99, 99, 99, 5, 5, 5, 5, 5, 5, 5, 3, 3, 3, 3, 3, 3, 3, 3, 3, 3, 3, 3, 1, 1, 1, 1, 1, 1, 1, 1, 1, 1, 1, 1, 1, 7, 7, 7, 7, 2, 2, 2, 2, 2, 2, 2, 6, 6, 6, 6, 6, 6, 99, 99, 99, 99, 99, 99]
def Zmt (k : Nat) : Zmi := ZmtL.getD k (⟨"", "", ""⟩, ⟨#[]⟩, 0, none)
def Zna (k : Nat) : Nat := ZnaL.getD k 99
def Zci (k : Nat) : Nat := ZciL.getD k 99
def Zsh (o : Nat) : Nat × Nat × List (Nat × Nat) := ZshL.getD o (9, 0, [])
def ZshB (o : Nat) : Bool := match Zsh o with
  | (4, ci, fs) => (match Zcl[ci]? with
    | some q => (List.range q.2.2).all (fun j => match fs[j]? with
      | some c => (match c.1 with
        | 0 => decide ((q.2.1 j).2.2.1 = "I")
        | 1 => decide ((q.2.1 j).2.2.1 = "Z")
        | 3 => decide ((q.2.1 j).2.2.1 = "[B")
        | _ => true)
      | none => false) && decide (fs.length = q.2.2)
    | none => false)
  | _ => true
theorem ZshB_ok : ∀ o, o < Zno → ZshB o = true := by decide +kernel
theorem ZshB_at {o ci r : Nat} {fs : List (Nat × Nat)} {c : Nat × Nat} {q : vw_C} (ho : o < Zno) (hsh : Zsh o = (4, ci, fs)) (hf : fs[r]? = some c) (hq : Zcl[ci]? = some q) : (match c.1 with
        | 0 => decide ((q.2.1 r).2.2.1 = "I")
        | 1 => decide ((q.2.1 r).2.2.1 = "Z")
        | 3 => decide ((q.2.1 r).2.2.1 = "[B")
        | _ => true) = true := by
  have h := ZshB_ok o ho
  unfold ZshB at h
  rw [hsh] at h
  simp only [hq, Bool.and_eq_true, decide_eq_true_eq] at h
  have hr : r < q.2.2 := by rw [← h.2]; exact (List.getElem?_eq_some_iff.mp hf).1
  have h2 := List.all_eq_true.mp h.1 r (List.mem_range.mpr hr)
  rw [hf] at h2
  exact h2
theorem Zsh_ty {o ci r : Nat} {fs : List (Nat × Nat)} {c : Nat × Nat} {q : vw_C} (ho : o < Zno) (hsh : Zsh o = (4, ci, fs)) (hf : fs[r]? = some c) (hq : Zcl[ci]? = some q) (hc : c.1 = 0) : (q.2.1 r).2.2.1 = "I" := by
  have h := ZshB_at ho hsh hf hq
  rw [hc] at h
  simpa using h
theorem Zsh_tz {o ci r : Nat} {fs : List (Nat × Nat)} {c : Nat × Nat} {q : vw_C} (ho : o < Zno) (hsh : Zsh o = (4, ci, fs)) (hf : fs[r]? = some c) (hq : Zcl[ci]? = some q) (hc : c.1 = 1) : (q.2.1 r).2.2.1 = "Z" := by
  have h := ZshB_at ho hsh hf hq
  rw [hc] at h
  simpa using h
theorem ZmtB_ok : ∀ k, k < ZmtL.length → ((Zmt k).1.cls ≠ "java/lang/invoke/MethodHandle" ∧ (Zmt k).1.cls ≠ "java/lang/invoke/VarHandle" ∧ (parseMethodDescriptor (Zmt k).1.desc).map (fun d => d.parameters.length) = some (Zna k)) ∧ (Zmt k).2.2.1 ≤ 21 := by decide +kernel
theorem Zmt_at {k : Nat} (h : k < ZmtL.length) : (Zmt k).1.cls ≠ "java/lang/invoke/MethodHandle" ∧ (Zmt k).1.cls ≠ "java/lang/invoke/VarHandle" ∧ (parseMethodDescriptor (Zmt k).1.desc).map (fun d => d.parameters.length) = some (Zna k) ∧ (Zmt k).2.2.1 ≤ 21 := ⟨(ZmtB_ok k h).1.1, (ZmtB_ok k h).1.2.1, (ZmtB_ok k h).1.2.2, (ZmtB_ok k h).2⟩
theorem ZciB_ok : ∀ k, k < ZmtL.length → (match Zcl[Zci k]? with | some q => decide (q.1 = (Zmt k).1.cls) | none => true) = true := by decide +kernel
theorem Zci_at {o r1 r2 : Nat} {fs : List (Nat × Nat)} (ho : o < Zno) (hsh : Zsh o = (4, r2, fs)) (hk : r1 < ZmtL.length) (hc : r2 = Zci r1) : ∃ q, Zcl[r2]? = some q ∧ q.1 = (Zmt r1).1.cls := by
  have h := ZshB_ok o ho
  unfold ZshB at h
  rw [hsh] at h
  cases hq : Zcl[r2]? with
  | none => simp [hq] at h
  | some q =>
    have h2 := ZciB_ok r1 hk
    rw [← hc, hq] at h2
    exact ⟨q, rfl, by simpa using h2⟩
/-- abstract values to the machine's: a cell's number to its address -/
def Ztr (ad : Nat → Nat) : Value → Value
  | .ref o => .ref (ad o)
  | v => v
def Zl (ad : Nat → Nat) (q : Nat × Value) : Nat × Value := (q.1, Ztr ad q.2)
/-- a field's value by its code: (0, _), (1, _) a number, (2, j) the cell j, (3, j) the cell j or null -/
def Zfv (ad : Nat → Nat) (c : Nat × Nat) (x : Int32) : Value := match c.1 with
  | 0 => .int x
  | 1 => .int x
  | 2 => .ref (ad c.2)
  | _ => if x = 0 then .null else .ref (ad c.2)
def Zfs (ad : Nat → Nat) (f : Nat → Int32) : Nat → List (Nat × Nat) → List Value
  | _, [] => []
  | k, c :: cs => Zfv ad c (f k) :: Zfs ad f (k + 1) cs
def Zce (ad : Nat → Nat) (cA : Nat → ClassId) (f : Nat → Int32) (q : Nat × Nat × List (Nat × Nat)) : va_E := match q.1 with
  | 0 => .inl (cA 0, q.2.1, .inl f)
  | 1 => .inl (cA 1, q.2.1, .inl f)
  | 2 => .inl (cA 2, q.2.1, .inr (.inr (.inr (.inr (fun k => (q.2.2[k]?).map (fun j => ad j.2))))))
  | 3 => .inl (cA 3, q.2.1, .inr (.inr (.inr (.inr (fun k => (q.2.2[k]?).map (fun j => ad j.2))))))
  | _ => .inr (q.2.1, Zfs ad f 0 q.2.2)
def Zws (ad : Nat → Nat) (cA : Nat → ClassId) (M : Zmem) : va_W := (List.range Zno).map (fun o => (ad o, Zce ad cA (M o) (Zsh o)))
def Zty (cA : Nat → ClassId) : List (ClassId × FieldType) := [(cA 0, .int), (cA 1, .byte), (cA 2, .object "KnitRiver$Text"), (cA 3, .object "KnitRiver$Sheet")]
theorem Zws_at {ad : Nat → Nat} {cA : Nat → ClassId} {M : Zmem} {o : Nat} (h : o < Zno) : (Zws ad cA M)[o]? = some (ad o, Zce ad cA (M o) (Zsh o)) := by
  simp [Zws, h]
theorem Zu_at (M : Zmem) (o k : Nat) (v : Int32) : Zu M o k v o = upd (M o) k v := by simp [Zu]
theorem Zu_ne (M : Zmem) {o a : Nat} (k : Nat) (v : Int32) (h : a ≠ o) : Zu M o k v a = M a := by simp [Zu, h]
theorem Zws_set {ad : Nat → Nat} {cA : Nat → ClassId} {M : Zmem} {o k : Nat} {v : Int32} {e : va_E} (he : e = Zce ad cA (upd (M o) k v) (Zsh o)) : (Zws ad cA M).set o (ad o, e) = Zws ad cA (Zu M o k v) := by
  apply List.ext_getElem?
  intro i
  rw [List.getElem?_set]
  by_cases hi : o = i
  · subst hi
    by_cases hl : o < Zno
    · rw [Zws_at hl]
      simp [Zws, hl, he, Zu_at]
    · simp [Zws, hl]
  · rw [if_neg hi]
    by_cases hl : i < Zno
    · rw [Zws_at hl, Zws_at hl, Zu_ne _ _ _ (fun q => hi q.symm)]
    · simp [Zws, hl]
theorem Zfs_at (ad : Nat → Nat) (f : Nat → Int32) : ∀ (cs : List (Nat × Nat)) (k j : Nat) (c : Nat × Nat), cs[j]? = some c → (Zfs ad f k cs)[j]? = some (Zfv ad c (f (k + j))) := by
  intro cs
  induction cs with
  | nil => intro k j c h; simp at h
  | cons a cs ih =>
    intro k j c h
    cases j with
    | zero => simp at h; subst h; simp [Zfs]
    | succ j =>
      simp at h
      have := ih (k + 1) j c h
      simp [Zfs, this, Nat.add_comm, Nat.add_left_comm, Nat.add_assoc]
theorem Zfs_len (ad : Nat → Nat) (f : Nat → Int32) : ∀ (cs : List (Nat × Nat)) (k : Nat), (Zfs ad f k cs).length = cs.length := by
  intro cs
  induction cs with
  | nil => intro k; rfl
  | cons a cs ih => intro k; simp [Zfs, ih]
theorem Zfs_set (ad : Nat → Nat) (f : Nat → Int32) (v : Int32) : ∀ (cs : List (Nat × Nat)) (k j : Nat) (c : Nat × Nat) (y : Value), cs[j]? = some c → y = Zfv ad c v → (Zfs ad f k cs).set j y = Zfs ad (upd f (k + j) v) k cs := by
  intro cs
  induction cs with
  | nil => intro k j c y h; simp at h
  | cons a cs ih =>
    intro k j c y h hy
    cases j with
    | zero =>
      simp at h
      subst h
      subst hy
      have hr : ∀ (cs : List (Nat × Nat)) (n : Nat), k < n → Zfs ad (upd f k v) n cs = Zfs ad f n cs := by
        intro cs
        induction cs with
        | nil => intro n _; rfl
        | cons b cs ih => intro n hn; simp [Zfs, ih (n + 1) (by omega), upd, show ¬ n = k by omega]
      simp [Zfs, hr cs (k + 1) (by omega), upd]
    | succ j =>
      simp at h
      have := ih (k + 1) j c y h hy
      simp [Zfs, this, upd, show ¬ k = k + (j + 1) by omega, show k + 1 + j = k + (j + 1) by omega]
abbrev Zx : Type := Program × Launch × Env × Room × State × MethodId × Array Value × List Frame × Method × Code × va_G × (Nat → Nat) × (Nat → ClassId) × (Nat → Prop) × (Nat × (Nat → Int32)) × Nat × Nat × (State → Prop)
def zp (X : Zx) : Program := X.1
def zl (X : Zx) : Launch := X.2.1
def ze (X : Zx) : Env := X.2.2.1
def zR (X : Zx) : Room := X.2.2.2.1
def zs (X : Zx) : State := X.2.2.2.2.1
def zm (X : Zx) : MethodId := X.2.2.2.2.2.1
def za (X : Zx) : Array Value := X.2.2.2.2.2.2.1
def zb (X : Zx) : List Frame := X.2.2.2.2.2.2.2.1
def zme (X : Zx) : Method := X.2.2.2.2.2.2.2.2.1
def zc (X : Zx) : Code := X.2.2.2.2.2.2.2.2.2.1
def zD (X : Zx) : va_G := X.2.2.2.2.2.2.2.2.2.2.1
def zad (X : Zx) : Nat → Nat := X.2.2.2.2.2.2.2.2.2.2.2.1
def zcA (X : Zx) : Nat → ClassId := X.2.2.2.2.2.2.2.2.2.2.2.2.1
def zA (X : Zx) : Nat → Prop := X.2.2.2.2.2.2.2.2.2.2.2.2.2.1
def zsc (X : Zx) : Nat × (Nat → Int32) := X.2.2.2.2.2.2.2.2.2.2.2.2.2.2.1
def zk (X : Zx) : Nat := X.2.2.2.2.2.2.2.2.2.2.2.2.2.2.2.1
def zn (X : Zx) : Nat := X.2.2.2.2.2.2.2.2.2.2.2.2.2.2.2.2.1
def zQ (X : Zx) : State → Prop := X.2.2.2.2.2.2.2.2.2.2.2.2.2.2.2.2.2
abbrev ZW (X : Zx) (H : Heap) (locs : List Loc) (g : JFrame) : Prop := W (zp X) (zl X) (ze X) (zR X) (zs X) (zm X) (za X) (zb X) (zme X) (zc X) H locs (zk X) (zn X) (zQ X) g
abbrev Zpic (X : Zx) (M : Zmem) (H : Heap) : Prop := va_P (zD X) Zcl (Zws (zad X) (zcA X) M) H
/-- an array of numbers that nobody writes -/
def Zoa (a : Nat) (ty : FieldType) (n : Nat) (f : Nat → Int32) (U : State) (H : Heap) : Prop := ∃ scr : Cell, H[a]? = some scr ∧ U.isArrayOf scr ty ∧ scr.vm ≠ .unknown ∧ (n ≤ scr.slots.size ∧ scr.slots.size.toInt32 = nI n) ∧ ∀ j : Nat, j < n → scr.slots[j]? = some (.int (f j))
theorem Zoa.kept {a : Nat} {ty : FieldType} {n : Nat} {f : Nat → Int32} {U : State} {H H1 : Heap} (h : Zoa a ty n f U H) (hq : H1[a]? = H[a]?) : Zoa a ty n f U H1 := by
  obtain ⟨scr, h1, h2⟩ := h
  exact ⟨scr, by rw [hq]; exact h1, h2⟩
theorem Zoa.moved {a : Nat} {ty : FieldType} {n : Nat} {f : Nat → Int32} {u U : State} {H : Heap} (hvm : u.vm.Alike U.vm) (h : Zoa a ty n f u H) : Zoa a ty n f U H := by
  obtain ⟨scr, h1, h2, h3⟩ := h
  exact ⟨scr, h1, State.isArrayOf_alike hvm h2, h3⟩
theorem Zoa.lt {a : Nat} {ty : FieldType} {n : Nat} {f : Nat → Int32} {U : State} {H : Heap} (h : Zoa a ty n f U H) : a < H.size := by
  obtain ⟨scr, h1, -⟩ := h
  exact (Array.getElem?_eq_some_iff.mp h1).1
/-- the old arrays: the script (cell 99), the statics (cells 100 .. 103) -/
def ZoL (sc : Nat × (Nat → Int32)) (o : Nat) : Option (FieldType × Nat × (Nat → Int32)) := match o with
  | 99 => some (.int, sc.1, sc.2)
  | 100 => some (.int, 4, fun j => ([0, 10, 12, 60] : List Int32).getD j 0)
  | 101 => some (.int, 7, fun j => ([-1, 0, 0, 0, 1, 2, 0] : List Int32).getD j 0)
  | 102 => some (.char, 6, fun j => ([98, 119, 116, 119, 116, 107] : List Int32).getD j 0)
  | 103 => some (.int, 28, fun j => ([10, 11, 12, 13, 20, 0, 0, 21, 0, 30, 0, 0, 0, 0, 40, 0, 50, 0, 51, 0, 0, 60, 0, 0, 70, 71, 0, 0] : List Int32).getD j 0)
  | _ => none
def ZstL (o : Nat) : Option (String × String × String) := match o with
  | 100 => some ("KnitRiver$Reach", "STITCHES", "[I")
  | 101 => some ("KnitRiver$Kinds", "ABOVE", "[I")
  | 102 => some ("KnitRiver$Reader", "NAMES", "[C")
  | 103 => some ("KnitRiver$Voices", "BODIES", "[I")
  | _ => none
/-- a row of numbers, by its cell: its type, its length, what it holds -/
def Zar (sc : Nat × (Nat → Int32)) (M : Zmem) (o : Nat) : Option (FieldType × Nat × (Nat → Int32)) := match Nat.blt o Zno with
  | true => (match Zsh o with
    | (0, n, _) => some (.int, n, M o)
    | (1, n, _) => some (.byte, n, M o)
    | _ => none)
  | false => ZoL sc o
def ZA (ad : Nat → Nat) (q : Nat) : Prop := ∃ i, i < Zno ∧ q = ad i
/-- what is old at a state, and apart from the world -/
def Zold (ad : Nat → Nat) (sc : Nat × (Nat → Int32)) (U : State) : Prop :=
  (∀ o q, ZoL sc o = some q → Zoa (ad o) q.1 q.2.1 q.2.2 U U.heap ∧ ¬ ZA ad (ad o)) ∧ ∀ o q, ZstL o = some q → va_Z q.1 q.2.1 q.2.2 (.ref (ad o)) (ZA ad) U U.heap
def Zinj (ad : Nat → Nat) : Prop := ∀ i j, i < Zno → j < Zno → ad i = ad j → i = j
/-- the world at a state -/
def Zwd (D : va_G) (ad : Nat → Nat) (cA : Nat → ClassId) (sc : Nat × (Nat → Int32)) (M : Zmem) (U : State) : Prop :=
  va_P D Zcl (Zws ad cA M) U.heap ∧ va_K D Zcl (Zty cA) U ∧ Zinj ad ∧ Zold ad sc U ∧ ∀ w ∈ Znest, va_Nw w U
def Zrm (fr : Nat) : Room := { frames := fr, cells := 0, slots := 0, locals := 40 * fr }
def ZAA (ad : Nat → Nat) (sz : Nat) : Nat → Prop := fun q => ZA ad q ∨ sz ≤ q
def Zri (r : Option Value) : Prop := r = none ∨ ∃ v : Int32, r = some (.int v)
def ZQF (D : va_G) (ad : Nat → Nat) (cA : Nat → ClassId) (Post : Option Value → Zmem → Prop) (A : Nat → Prop) : Array Value → State → Outcome → State → Prop :=
  fun _ st oc t => (∃ (r : Option Value) (M' : Zmem), oc = .returned r ∧ Zri r ∧ Post r M' ∧ va_P D Zcl (Zws ad cA M') t.heap) ∧ va_F A st t
/-- A CONTRACT: method k, at most fr frames more, from these arguments and this memory: it returns, and Post holds of its answer and the memory then -/
def ZC (k fr : Nat) (as : List Value) (M : Zmem) (Post : Option Value → Zmem → Prop) : Prop :=
  ∀ (l : Launch) (D : va_G) (ad : Nat → Nat) (cA : Nat → ClassId) (sc : Nat × (Nat → Int32)) (sz : Nat),
    Met l (Zmt k).1 (.code (Zmt k).1 (Zmt k).2.1 (Zmt k).2.2.1 (Zmt k).2.2.2 :: Ztg) (Zrm fr) (va_Pc (as.map (Ztr ad)) (fun U => U.heap.size = sz ∧ Zwd D ad cA sc M U)) (ZQF D ad cA Post (ZAA ad sz)) 0 0 (ZAA ad sz)
def Zpc (cs : List Zent) : Nat := match cs with
  | [] => 0
  | e :: _ => e.1
def ZP (X : Zx) (tab cs : List Zent) (l : List (Nat × Value)) (st : List Value) (M : Zmem) : Prop :=
  (∃ pre, tab = pre ++ cs) → ∀ (H : Heap) (locs : List Loc) (ls : Array Slot), Zpic X M H → va_S (zA X) (zs X).heap H locs → lv_has ls (zc X).maxLocals (l.map (Zl (zad X))) → ZW X H locs (F0 (zm X) (Zpc cs) ls (st.map (Ztr (zad X))))
def Zsf (tab : List Zent) (t : Nat) : List Zent := tab.dropWhile (fun e => !(e.1 == t))
def Zhp (tab : List Zent) (t : Nat) : Bool := tab.any (fun e => e.1 == t)
def Zadj : List Zent → Bool
  | [] => true
  | [_] => true
  | e :: f :: cs => (e.1 + e.2.1 == f.1) && Zadj (f :: cs)
def Zno2 (b : Int32) (n : Nat) : Int32 := match n with
  | 0 => b
  | _ => -b
def Zlen : Instr → Option Nat
  | .bipush _ => some 2
  | .iload _ => some 2
  | .istore _ => some 2
  | .aload _ => some 2
  | .astore _ => some 2
  | .ldc _ => some 2
  | .newarray _ => some 2
  | .sipush _ => some 3
  | .ldc_w _ => some 3
  | .ldc2_w _ => some 3
  | .iinc _ _ => some 3
  | .goto _ => some 3
  | .ifCond _ _ => some 3
  | .if_icmp _ _ => some 3
  | .ifnull _ => some 3
  | .getfield _ => some 3
  | .putfield _ => some 3
  | .getstatic _ => some 3
  | .invokestatic _ => some 3
  | .invokevirtual _ => some 3
  | .invokespecial _ => some 3
  | .new _ => some 3
  | .anewarray _ => some 3
  | .tableswitch .. => none
  | .lookupswitch .. => none
  | _ => some 1
def Zls (e : Zent) : Bool := match Zlen e.2.2.1 with
  | some n => e.2.1 == n
  | none => true
def Zsl (v : Int32) (d : Nat) : List (Int32 × Nat) → Nat
  | [] => d
  | q :: r => if v = q.1 then q.2 else Zsl v d r
/-- the words that an instruction asks of the tables -/
def Zwo (k : Nat) (e : Zent) : List Cond := match e with
  | (_, _, ins, r1, r2, _) => (match ins with
    | .ldc i => [.constant (Zmt k).1.cls i (Zno2 (nI r1) r2)]
    | .ldc_w i => [.constant (Zmt k).1.cls i (Zno2 (nI r1) r2)]
    | .ldc2_w i => [.constantLong (Zmt k).1.cls i (lN r1)]
    | .getfield i => (match Zcl[r1]? with
      | some q => [.fieldLink (Zmt k).1.cls i q.1 (q.2.1 r2).2.1 (q.2.1 r2).2.2.1]
      | none => [])
    | .putfield i => (match Zcl[r1]? with
      | some q => [.fieldLink (Zmt k).1.cls i q.1 (q.2.1 r2).2.1 (q.2.1 r2).2.2.1]
      | none => [])
    | .getstatic i => (match ZstL r1 with
      | some q => [.fieldLink (Zmt k).1.cls i q.1 q.2.1 q.2.2]
      | none => [])
    | .invokestatic i => (match r2 with
      | 0 => [.methodLink (Zmt k).1.cls i (Zmt r1).1, .static (Zmt r1).1, .initialized (Zmt r1).1.cls, .code (Zmt r1).1 (Zmt r1).2.1 (Zmt r1).2.2.1 (Zmt r1).2.2.2]
      | 1 => [.static (Zmt r1).1, .initialized (Zmt r1).1.cls, .code (Zmt r1).1 (Zmt r1).2.1 (Zmt r1).2.2.1 (Zmt r1).2.2.2]
      | _ => [.methodLink (Zmt k).1.cls i arraycopyName, .native arraycopyName, .static arraycopyName, .initialized "java/lang/System"])
    | .invokevirtual i => [.methodLink (Zmt k).1.cls i (Zmt r1).1, .instanceMethod (Zmt r1).1, .initialized (Zmt r1).1.cls, .code (Zmt r1).1 (Zmt r1).2.1 (Zmt r1).2.2.1 (Zmt r1).2.2.2, .selects (Zmt r1).1.cls (Zmt r1).1 (Zmt r1).1]
    | _ => [])
def Zwn (k : Nat) (e : Zent) : List Cond := match e with
  | (_, _, ins, r1, r2, _) => (match ins with
    | .invokestatic i => (match r2 with
      | 1 => [.methodLinkNest (Zmt k).1.cls i (Zmt r1).1 "KnitRiver"]
      | _ => [])
    | _ => [])
/-- an instruction of the table, but for its words: it is decoded so, its targets are there -/
def Zck (k : Nat) (tab : List Zent) (e : Zent) : Bool :=
  decide (decode (Zmt k).2.1 e.1 = .ok (e.2.2.1, e.2.1)) && Zls e && (match e.2.2.1 with
  | .iconst n => decide (Int32.ofInt n = Zno2 (nI e.2.2.2.1) e.2.2.2.2.1)
  | .bipush n => decide ((Int8.ofInt n).toInt32 = Zno2 (nI e.2.2.2.1) e.2.2.2.2.1)
  | .sipush n => decide ((Int16.ofInt n).toInt32 = Zno2 (nI e.2.2.2.1) e.2.2.2.2.1)
  | .iinc i n => decide (Int32.ofInt n = Zno2 (nI e.2.2.2.1) e.2.2.2.2.1) && i == e.2.2.2.2.2.getD 0 99 && decide (i < (Zmt k).2.2.1)
  | .istore i => i == e.2.2.2.1 && decide (i < (Zmt k).2.2.1)
  | .astore i => i == e.2.2.2.1 && decide (i < (Zmt k).2.2.1)
  | .istore_n i => i.val == e.2.2.2.1 && decide (i.val < (Zmt k).2.2.1)
  | .astore_n i => i.val == e.2.2.2.1 && decide (i.val < (Zmt k).2.2.1)
  | .iload i => i == e.2.2.2.1
  | .aload i => i == e.2.2.2.1
  | .lload i => i == e.2.2.2.1
  | .iload_n i => i.val == e.2.2.2.1
  | .aload_n i => i.val == e.2.2.2.1
  | .lload_n i => i.val == e.2.2.2.1
  | .goto o => decide ((e.1 : Int) + o = (e.2.2.2.1 : Int)) && Zhp tab e.2.2.2.1
  | .ifCond _ o => decide ((e.1 : Int) + o = (e.2.2.2.1 : Int)) && Zhp tab e.2.2.2.1
  | .if_icmp _ o => decide ((e.1 : Int) + o = (e.2.2.2.1 : Int)) && Zhp tab e.2.2.2.1
  | .getfield _ => (match Zcl[e.2.2.2.1]? with
    | some q => decide (e.2.2.2.2.1 < q.2.2)
    | none => false)
  | .putfield _ => (match Zcl[e.2.2.2.1]? with
    | some q => decide (e.2.2.2.2.1 < q.2.2) && !(q.2.1 e.2.2.2.2.1).2.2.2
    | none => false)
  | .getstatic _ => (ZstL e.2.2.2.1).isSome
  | .invokestatic _ => decide (e.2.2.2.2.1 < 3)
  | .invokevirtual _ => e.2.2.2.2.1 == Zci e.2.2.2.1
  | _ => true)
def Zchk (k : Nat) (tab : List Zent) : Prop := tab.all (Zck k tab) = true ∧ Zadj tab = true ∧ (∀ w ∈ tab.flatMap (Zwo k), w ∈ Ztg) ∧ (∀ w ∈ tab.flatMap (Zwn k), w ∈ Znest)
/-- what the walk of a method stands on -/
def ZOK (X : Zx) (k fr : Nat) (tab : List Zent) : Prop :=
  (zp X).tables.exec = Jvm.exec ∧ (zc X).code = (Zmt k).2.1 ∧ (zs X).vm.findClass (Zmt k).1.cls = some (zm X).cls ∧ (∀ w ∈ Ztg, w.before (za X) (zs X) = true) ∧ va_K (zD X) Zcl (Zty (zcA X)) (zs X) ∧
  (Zinj (zad X) ∧ ∀ i, i < Zno → zA X (zad X i)) ∧ (∀ q, (zs X).heap.size ≤ q → zA X q) ∧
  ((∀ o q, ZoL (zsc X) o = some q → Zoa (zad X o) q.1 q.2.1 q.2.2 (zs X) (zs X).heap ∧ ¬ zA X (zad X o)) ∧ ∀ o q, ZstL o = some q → va_Z q.1 q.2.1 q.2.2 (.ref (zad X o)) (zA X) (zs X) (zs X).heap) ∧
  (∀ w ∈ Znest, va_Nw w (zs X)) ∧ Zchk k tab ∧ (fr ≤ (zR X).frames ∧ 40 * fr ≤ (zR X).locals) ∧ (zc X).maxLocals = (Zmt k).2.2.1 ∧ (zk X ≤ (zR X).cells ∧ zn X ≤ (zR X).slots)

theorem Zsuf_in {tab cs : List Zent} {e : Zent} (h : ∃ pre, tab = pre ++ e :: cs) : e ∈ tab := by
  obtain ⟨pre, rfl⟩ := h
  exact List.mem_append_right _ List.mem_cons_self
theorem Zsuf_tl {tab cs : List Zent} {e : Zent} (h : ∃ pre, tab = pre ++ e :: cs) : ∃ pre, tab = pre ++ cs := by
  obtain ⟨pre, rfl⟩ := h
  exact ⟨pre ++ [e], by simp⟩
theorem Zsuf_sf (tab : List Zent) (t : Nat) : ∃ pre, tab = pre ++ Zsf tab t := ⟨tab.takeWhile (fun e => !(e.1 == t)), List.takeWhile_append_dropWhile.symm⟩
theorem Zsf_pc {t : Nat} : ∀ {tab : List Zent}, Zhp tab t = true → Zpc (Zsf tab t) = t := by
  intro tab
  induction tab with
  | nil => intro h; simp [Zhp] at h
  | cons e r ih =>
    intro h
    by_cases he : e.1 = t
    · simp [Zsf, List.dropWhile, he, Zpc]
    · have h2 : Zhp r t = true := by simpa [Zhp, he] using h
      have := ih h2
      have hz : Zsf (e :: r) t = Zsf r t := by simp [Zsf, he]
      rw [hz]
      exact this
theorem Zadj_next : ∀ {pre : List Zent} {e : Zent} {cs : List Zent}, Zadj (pre ++ e :: cs) = true → cs ≠ [] → e.1 + e.2.1 = Zpc cs := by
  intro pre
  induction pre with
  | nil =>
    intro e cs h hne
    cases cs with
    | nil => exact absurd rfl hne
    | cons f r => simp [Zadj] at h; simpa [Zpc] using h.1
  | cons a pre ih =>
    intro e cs h hne
    refine ih (e := e) (cs := cs) ?_ hne
    cases pre with
    | nil => simp [Zadj] at h; simpa using h.2
    | cons b pre => simp only [List.cons_append, Zadj, Bool.and_eq_true] at h; simpa using h.2
section ZR
variable {X : Zx} {k fr : Nat} {tab cs : List Zent} {l : List (Nat × Value)} {st : List Value} {M : Zmem}
theorem ZOK.chk (hX : ZOK X k fr tab) : Zchk k tab := hX.2.2.2.2.2.2.2.2.2.1
theorem ZOK.ck {e : Zent} (hX : ZOK X k fr tab) (hs : ∃ pre, tab = pre ++ e :: cs) : Zck k tab e = true := List.all_eq_true.mp hX.chk.1 e (Zsuf_in hs)
theorem ZOK.nx {e : Zent} (hX : ZOK X k fr tab) (hs : ∃ pre, tab = pre ++ e :: cs) (hne : cs ≠ []) : e.1 + e.2.1 = Zpc cs := by
  obtain ⟨pre, rfl⟩ := hs
  exact Zadj_next hX.chk.2.1 hne
theorem ZOK.dec {e : Zent} (hX : ZOK X k fr tab) (hs : ∃ pre, tab = pre ++ e :: cs) : decode (zc X).code e.1 = .ok (e.2.2.1, e.2.1) := by
  have h := hX.ck hs
  simp only [Zck, Bool.and_eq_true, decide_eq_true_eq] at h
  rw [hX.2.1]
  exact h.1.1
theorem ZOK.wo {e : Zent} {w : Cond} (hX : ZOK X k fr tab) (hs : ∃ pre, tab = pre ++ e :: cs) (hw : w ∈ Zwo k e) : w.before (za X) (zs X) = true := hX.2.2.2.1 _ (hX.chk.2.2.1 w (List.mem_flatMap.mpr ⟨e, Zsuf_in hs, hw⟩))
theorem ZOK.wg {e : Zent} {w : Cond} (hX : ZOK X k fr tab) (hs : ∃ pre, tab = pre ++ e :: cs) (hw : w ∈ Zwo k e) : w ∈ Ztg := hX.chk.2.2.1 w (List.mem_flatMap.mpr ⟨e, Zsuf_in hs, hw⟩)
theorem ZOK.wn {e : Zent} {w : Cond} (hX : ZOK X k fr tab) (hs : ∃ pre, tab = pre ++ e :: cs) (hw : w ∈ Zwn k e) : va_Nw w (zs X) := hX.2.2.2.2.2.2.2.2.1 _ (hX.chk.2.2.2 w (List.mem_flatMap.mpr ⟨e, Zsuf_in hs, hw⟩))
theorem ZOK.ls {e : Zent} (hX : ZOK X k fr tab) (hs : ∃ pre, tab = pre ++ e :: cs) : Zls e = true := by
  have h := hX.ck hs
  simp only [Zck, Bool.and_eq_true, decide_eq_true_eq] at h
  exact h.1.2
theorem ZOK.D (hX : ZOK X k fr tab) (M : Zmem) : va_D (zA X) (Zws (zad X) (zcA X) M) := by
  obtain ⟨hi, ha⟩ := hX.2.2.2.2.2.1
  have hat : ∀ (i : Nat) (q : Nat × va_E), (Zws (zad X) (zcA X) M)[i]? = some q → i < Zno ∧ q.1 = zad X i := by
    intro i q h
    have hl : i < Zno := by
      have := (List.getElem?_eq_some_iff.mp h).1
      simpa [Zws] using this
    rw [Zws_at hl] at h
    cases h
    exact ⟨hl, rfl⟩
  refine ⟨fun i j p q hp hq hpq => ?_, fun i q hq => ?_⟩
  · obtain ⟨h1, h2⟩ := hat i p hp
    obtain ⟨h3, h4⟩ := hat j q hq
    exact hi i j h1 h3 (by rw [← h2, ← h4]; exact hpq)
  · obtain ⟨h1, h2⟩ := hat i q hq
    rw [h2]
    exact ha i h1
/-- one straight instruction that keeps locals and memory -/
theorem Zs1 {pc len r1 r2 n : Nat} {hs : List Nat} {ins : Instr} {st' : List Value} (hX : ZOK X k fr tab) (hne : cs ≠ []) (hn : Zlen ins = some n)
    (kk : ZP X tab cs l st' M)
    (row : (∃ pre, tab = pre ++ (pc, len, ins, r1, r2, hs) :: cs) → ∀ (H : Heap) (locs : List Loc) (ls : Array Slot), Zpic X M H → va_S (zA X) (zs X).heap H locs → lv_has ls (zc X).maxLocals (l.map (Zl (zad X))) → decode (zc X).code pc = .ok (ins, n) → ZW X H locs (F0 (zm X) (pc + n) ls (st'.map (Ztr (zad X)))) → ZW X H locs (F0 (zm X) pc ls (st.map (Ztr (zad X))))) : ZP X tab ((pc, len, ins, r1, r2, hs) :: cs) l st M := by
  intro hsf H locs ls hP hS hl
  have hd := hX.dec hsf
  have hle : len = n := by have h := hX.ls hsf; simpa [Zls, hn] using h
  have hx := hX.nx hsf hne
  subst hle
  refine row hsf H locs ls hP hS hl hd ?_
  have := kk (Zsuf_tl hsf) H locs ls hP hS hl
  rw [← hx] at this
  exact this
def Zget : List (Nat × Value) → Nat → Option Value
  | [], _ => none
  | q :: r, i => match Nat.beq q.1 i with
    | true => some q.2
    | false => Zget r i
theorem Zget_in : ∀ {l : List (Nat × Value)} {i : Nat} {v : Value}, Zget l i = some v → (i, v) ∈ l := by
  intro l
  induction l with
  | nil => intro i v h; simp [Zget] at h
  | cons q r ih =>
    intro i v h
    unfold Zget at h
    cases hb : Nat.beq q.1 i with
    | true =>
      rw [hb] at h
      have := Nat.eq_of_beq_eq_true hb
      cases h
      subst this
      exact List.mem_cons_self
    | false =>
      rw [hb] at h
      exact List.mem_cons_of_mem _ (ih h)
theorem Zget_at {ad : Nat → Nat} {ls : Array Slot} {n : Nat} {l : List (Nat × Value)} {i : Nat} {v : Value} (hl : lv_has ls n (l.map (Zl ad))) (h : Zget l i = some v) : ls[i]? = some (.val (Ztr ad v)) :=
  hl.2.2 (i, Ztr ad v) (List.mem_map.mpr ⟨(i, v), Zget_in h, rfl⟩)
def Zset (l : List (Nat × Value)) (i : Nat) (v : Value) : List (Nat × Value) := (i, v) :: l.filter (fun q => !(q.1 == i) && !(q.1 + 1 == i && q.2.category == 2))
theorem Ztr_cat (ad : Nat → Nat) (v : Value) : (Ztr ad v).category = v.category := by cases v <;> rfl
theorem Zset_map (ad : Nat → Nat) (l : List (Nat × Value)) (i : Nat) (v : Value) : (i, Ztr ad v) :: (l.map (Zl ad)).filter (fun q => !(q.1 == i) && !(q.1 + 1 == i && q.2.category == 2)) = (Zset l i v).map (Zl ad) := by
  unfold Zset
  rw [List.filter_map]
  simp only [List.map_cons, Zl]
  congr 1
  congr 1
  apply List.filter_congr
  intro q _
  simp [Function.comp, Ztr_cat, Zl]
def ZallP : List Prop → Prop
  | [] => True
  | [P] => P
  | P :: Q :: r => ZallP (Q :: r) ∧ P
/-- one straight instruction with a new list of locals -/
theorem Zs2 {pc len r1 r2 n i : Nat} {v : Value} {hs : List Nat} {ins : Instr} {st' : List Value} (hX : ZOK X k fr tab) (hne : cs ≠ []) (hn : Zlen ins = some n)
    (row : (∃ pre, tab = pre ++ (pc, len, ins, r1, r2, hs) :: cs) → ∀ (H : Heap) (locs : List Loc) (ls : Array Slot), lv_has ls (zc X).maxLocals (l.map (Zl (zad X))) → decode (zc X).code pc = .ok (ins, n) → (∀ ls' : Array Slot, lv_has ls' (zc X).maxLocals ((Zset l i v).map (Zl (zad X))) → ZW X H locs (F0 (zm X) (pc + n) ls' (st'.map (Ztr (zad X))))) → ZW X H locs (F0 (zm X) pc ls (st.map (Ztr (zad X)))))
    (kk : ZP X tab cs (Zset l i v) st' M) : ZP X tab ((pc, len, ins, r1, r2, hs) :: cs) l st M := by
  intro hsf H locs ls hP hS hl
  have hd := hX.dec hsf
  have hle : len = n := by have h := hX.ls hsf; simpa [Zls, hn] using h
  have hx := hX.nx hsf hne
  subst hle
  refine row hsf H locs ls hl hd (fun ls' hl' => ?_)
  have := kk (Zsuf_tl hsf) H locs ls' hP hS hl'
  rw [← hx] at this
  exact this
theorem Zs_const {pc len r1 r2 : Nat} {hs : List Nat} {ins : Instr} {b : Int32} (hX : ZOK X k fr tab) (hne : cs ≠ []) (hb : b = Zno2 (nI r1) r2)
    (hi : (∃ n, ins = .iconst n) ∨ (∃ n, ins = .bipush n) ∨ (∃ n, ins = .sipush n) ∨ (∃ n, ins = .ldc n) ∨ ∃ n, ins = .ldc_w n) (kk : ZP X tab cs l (.int b :: st) M) : ZP X tab ((pc, len, ins, r1, r2, hs) :: cs) l st M := by
  subst hb
  rcases hi with ⟨n, rfl⟩ | ⟨n, rfl⟩ | ⟨n, rfl⟩ | ⟨n, rfl⟩ | ⟨n, rfl⟩
  · refine Zs1 hX hne rfl kk (fun hc H locs ls hP hS hl hd k => ?_)
    have hc := hX.ck hc
    simp only [Zck, Bool.and_eq_true, decide_eq_true_eq] at hc
    exact lv_iconst hX.1 rfl hd hc.2 k
  · refine Zs1 hX hne rfl kk (fun hc H locs ls hP hS hl hd k => ?_)
    have hc := hX.ck hc
    simp only [Zck, Bool.and_eq_true, decide_eq_true_eq] at hc
    exact lv_bipush hX.1 rfl hd hc.2 k
  · refine Zs1 hX hne rfl kk (fun hc H locs ls hP hS hl hd k => ?_)
    have hc := hX.ck hc
    simp only [Zck, Bool.and_eq_true, decide_eq_true_eq] at hc
    exact lv_sipush hX.1 rfl hd hc.2 k
  · refine Zs1 hX hne rfl kk (fun hc H locs ls hP hS hl hd k => ?_)
    exact lv_ldc hX.1 rfl hX.2.2.1 (hX.wo hc List.mem_cons_self) hd k
  · refine Zs1 hX hne rfl kk (fun hc H locs ls hP hS hl hd k => ?_)
    exact lv_ldcw hX.1 rfl hX.2.2.1 (hX.wo hc List.mem_cons_self) hd k
theorem Zs_ldc2 {pc len r1 r2 i : Nat} {hs : List Nat} (hX : ZOK X k fr tab) (hne : cs ≠ []) (kk : ZP X tab cs l (.long (lN r1) :: st) M) : ZP X tab ((pc, len, .ldc2_w i, r1, r2, hs) :: cs) l st M := by
  refine Zs1 hX hne rfl kk (fun hc H locs ls hP hS hl hd k => ?_)
  exact lv_ldc2 hX.1 rfl hX.2.2.1 (hX.wo hc List.mem_cons_self) hd k
theorem Zs_iload {pc len r1 r2 : Nat} {hs : List Nat} {ins : Instr} {x : Int32} (hX : ZOK X k fr tab) (hne : cs ≠ []) (hi : (∃ n, ins = .iload n) ∨ ∃ n, ins = .iload_n n) (hg : Zget l r1 = some (.int x)) (kk : ZP X tab cs l (.int x :: st) M) : ZP X tab ((pc, len, ins, r1, r2, hs) :: cs) l st M := by
  rcases hi with ⟨n, rfl⟩ | ⟨n, rfl⟩
  · refine Zs1 hX hne rfl kk (fun hc H locs ls hP hS hl hd k => ?_)
    have hc := hX.ck hc
    simp only [Zck, Bool.and_eq_true, beq_iff_eq] at hc
    exact lv_iload hX.1 rfl hd (by rw [hc.2]; exact Zget_at hl hg) k
  · refine Zs1 hX hne rfl kk (fun hc H locs ls hP hS hl hd k => ?_)
    have hc := hX.ck hc
    simp only [Zck, Bool.and_eq_true, beq_iff_eq] at hc
    exact lv_iload_n hX.1 rfl hd hc.2 (Zget_at hl hg) k
theorem Zs_aload {pc len r1 r2 o : Nat} {hs : List Nat} {ins : Instr} (hX : ZOK X k fr tab) (hne : cs ≠ []) (hi : (∃ n, ins = .aload n) ∨ ∃ n, ins = .aload_n n) (hg : Zget l r1 = some (.ref o)) (kk : ZP X tab cs l (.ref o :: st) M) : ZP X tab ((pc, len, ins, r1, r2, hs) :: cs) l st M := by
  rcases hi with ⟨n, rfl⟩ | ⟨n, rfl⟩
  · refine Zs1 hX hne rfl kk (fun hc H locs ls hP hS hl hd k => ?_)
    have hc := hX.ck hc
    simp only [Zck, Bool.and_eq_true, beq_iff_eq] at hc
    exact lv_aload hX.1 rfl hd (by rw [hc.2]; exact Zget_at hl hg) k
  · refine Zs1 hX hne rfl kk (fun hc H locs ls hP hS hl hd k => ?_)
    have hc := hX.ck hc
    simp only [Zck, Bool.and_eq_true, beq_iff_eq] at hc
    exact lv_aload_n hX.1 rfl hd hc.2 (Zget_at hl hg) k
theorem Zs_lload {pc len r1 r2 : Nat} {hs : List Nat} {n : Fin 4} {x : Int64} (hX : ZOK X k fr tab) (hne : cs ≠ []) (hg : Zget l r1 = some (.long x)) (kk : ZP X tab cs l (.long x :: st) M) : ZP X tab ((pc, len, .lload_n n, r1, r2, hs) :: cs) l st M := by
  refine Zs1 hX hne rfl kk (fun hc H locs ls hP hS hl hd k => ?_)
  have hc := hX.ck hc
  simp only [Zck, Bool.and_eq_true, beq_iff_eq] at hc
  exact lv_lload_n hX.1 rfl hd hc.2 (Zget_at hl hg) k
theorem Zs_istore {pc len r1 r2 : Nat} {hs : List Nat} {ins : Instr} {x : Int32} (hX : ZOK X k fr tab) (hne : cs ≠ []) (hi : (∃ n, ins = .istore n) ∨ ∃ n, ins = .istore_n n) (kk : ZP X tab cs (Zset l r1 (.int x)) st M) : ZP X tab ((pc, len, ins, r1, r2, hs) :: cs) l (.int x :: st) M := by
  have hml : (zc X).maxLocals = (Zmt k).2.2.1 := hX.2.2.2.2.2.2.2.2.2.2.2.1
  rcases hi with ⟨n, rfl⟩ | ⟨n, rfl⟩
  · refine Zs2 hX hne rfl (fun hc H locs ls hl hd k => ?_) kk
    have hc := hX.ck hc
    simp only [Zck, Bool.and_eq_true, beq_iff_eq, decide_eq_true_eq] at hc
    obtain ⟨-, rfl, h2⟩ := hc
    exact lv_istore hX.1 rfl hd hl (by rw [hml]; exact h2) (Zset_map _ _ _ (.int x)) k
  · refine Zs2 hX hne rfl (fun hc H locs ls hl hd k => ?_) kk
    have hc := hX.ck hc
    simp only [Zck, Bool.and_eq_true, beq_iff_eq, decide_eq_true_eq] at hc
    obtain ⟨-, rfl, h2⟩ := hc
    exact lv_istore_n hX.1 rfl hd rfl hl (by rw [hml]; exact h2) (Zset_map _ _ _ (.int x)) k
theorem Zs_astore {pc len r1 r2 o : Nat} {hs : List Nat} {ins : Instr} (hX : ZOK X k fr tab) (hne : cs ≠ []) (hi : (∃ n, ins = .astore n) ∨ ∃ n, ins = .astore_n n) (kk : ZP X tab cs (Zset l r1 (.ref o)) st M) : ZP X tab ((pc, len, ins, r1, r2, hs) :: cs) l (.ref o :: st) M := by
  have hml : (zc X).maxLocals = (Zmt k).2.2.1 := hX.2.2.2.2.2.2.2.2.2.2.2.1
  rcases hi with ⟨n, rfl⟩ | ⟨n, rfl⟩
  · refine Zs2 hX hne rfl (fun hc H locs ls hl hd k => ?_) kk
    have hc := hX.ck hc
    simp only [Zck, Bool.and_eq_true, beq_iff_eq, decide_eq_true_eq] at hc
    obtain ⟨-, rfl, h2⟩ := hc
    exact lv_astore hX.1 rfl hd hl (by rw [hml]; exact h2) (Zset_map _ _ _ (.ref o)) k
  · refine Zs2 hX hne rfl (fun hc H locs ls hl hd k => ?_) kk
    have hc := hX.ck hc
    simp only [Zck, Bool.and_eq_true, beq_iff_eq, decide_eq_true_eq] at hc
    obtain ⟨-, rfl, h2⟩ := hc
    exact lv_astore_n hX.1 rfl hd rfl hl (by rw [hml]; exact h2) (Zset_map _ _ _ (.ref o)) k
theorem Zs_iinc {pc len r1 r2 i : Nat} {n : Int} {hs : List Nat} {x b : Int32} (hX : ZOK X k fr tab) (hne : cs ≠ []) (hi : i = hs.getD 0 99) (hb : b = Zno2 (nI r1) r2) (hg : Zget l (hs.getD 0 99) = some (.int x)) (kk : ZP X tab cs (Zset l (hs.getD 0 99) (.int (x + b))) st M) : ZP X tab ((pc, len, .iinc i n, r1, r2, hs) :: cs) l st M := by
  have hml : (zc X).maxLocals = (Zmt k).2.2.1 := hX.2.2.2.2.2.2.2.2.2.2.2.1
  subst hb
  refine Zs2 hX hne rfl (fun hc H locs ls hl hd k => ?_) kk
  have hc := hX.ck hc
  simp only [Zck, Bool.and_eq_true, beq_iff_eq, decide_eq_true_eq] at hc
  obtain ⟨-, ⟨h1, -⟩, h2⟩ := hc
  subst hi
  obtain ⟨j, hj⟩ := List.getElem?_of_mem (List.mem_map.mpr ⟨(hs.getD 0 99, .int x), Zget_in hg, rfl⟩ : (hs.getD 0 99, Value.int x) ∈ l.map (Zl (zad X)))
  exact lv_iinc hX.1 rfl hd hl hj (by rw [h1]) (by rw [hml]; exact h2) (Zset_map _ _ _ (.int (x + Zno2 (nI r1) r2))) k
def Zbin : Instr → Option (Int32 → Int32 → Int32)
  | .iadd => some (fun x y => x + y)
  | .isub => some (fun x y => x - y)
  | .imul => some (fun x y => x * y)
  | .iand => some (fun x y => x &&& y)
  | .ior => some (fun x y => x ||| y)
  | .ixor => some (fun x y => x ^^^ y)
  | .ishl => some (fun x y => x <<< (y &&& 31))
  | .ishr => some (fun x y => x >>> (y &&& 31))
  | .iushr => some (fun x y => (x.toUInt32 >>> (y.toUInt32 &&& Int32.toUInt32 31)).toInt32)
  | _ => none
theorem Zs_bin {pc len r1 r2 : Nat} {hs : List Nat} {ins : Instr} {f : Int32 → Int32 → Int32} {x y : Int32} (hX : ZOK X k fr tab) (hne : cs ≠ []) (hf : Zbin ins = some f) (kk : ZP X tab cs l (.int (f x y) :: st) M) : ZP X tab ((pc, len, ins, r1, r2, hs) :: cs) l (.int y :: .int x :: st) M := by
  cases ins <;> simp only [Zbin, Option.some.injEq, reduceCtorEq] at hf <;> subst hf
  · exact Zs1 hX hne rfl kk (fun hc H locs ls hP hS hl hd k => lv_iadd hX.1 rfl hd k)
  · exact Zs1 hX hne rfl kk (fun hc H locs ls hP hS hl hd k => lv_iand hX.1 rfl hd k)
  · exact Zs1 hX hne rfl kk (fun hc H locs ls hP hS hl hd k => lv_imul hX.1 rfl hd k)
  · exact Zs1 hX hne rfl kk (fun hc H locs ls hP hS hl hd k => lv_ior hX.1 rfl hd k)
  · exact Zs1 hX hne rfl kk (fun hc H locs ls hP hS hl hd k => lv_ishl hX.1 rfl hd k)
  · exact Zs1 hX hne rfl kk (fun hc H locs ls hP hS hl hd k => lv_ishr hX.1 rfl hd k)
  · exact Zs1 hX hne rfl kk (fun hc H locs ls hP hS hl hd k => lv_isub hX.1 rfl hd k)
  · exact Zs1 hX hne rfl kk (fun hc H locs ls hP hS hl hd k => lv_iushr hX.1 rfl hd rfl k)
  · exact Zs1 hX hne rfl kk (fun hc H locs ls hP hS hl hd k => lv_ixor hX.1 rfl hd k)
theorem Zs_div {pc len r1 r2 : Nat} {hs : List Nat} {x y : Int32} (hX : ZOK X k fr tab) (hne : cs ≠ []) (h0 : ¬ y = nI 0) (kk : ZP X tab cs l (.int (x / y) :: st) M) : ZP X tab ((pc, len, .idiv, r1, r2, hs) :: cs) l (.int y :: .int x :: st) M :=
  Zs1 hX hne rfl kk (fun hc H locs ls hP hS hl hd k => lv_idiv hX.1 rfl hd h0 k)
theorem Zs_rem {pc len r1 r2 : Nat} {hs : List Nat} {x y : Int32} (hX : ZOK X k fr tab) (hne : cs ≠ []) (h0 : ¬ y = nI 0) (kk : ZP X tab cs l (.int (x - x / y * y) :: st) M) : ZP X tab ((pc, len, .irem, r1, r2, hs) :: cs) l (.int y :: .int x :: st) M :=
  Zs1 hX hne rfl kk (fun hc H locs ls hP hS hl hd k => lv_irem hX.1 rfl hd h0 k)
theorem Zs_neg {pc len r1 r2 : Nat} {hs : List Nat} {x : Int32} (hX : ZOK X k fr tab) (hne : cs ≠ []) (kk : ZP X tab cs l (.int (-x) :: st) M) : ZP X tab ((pc, len, .ineg, r1, r2, hs) :: cs) l (.int x :: st) M :=
  Zs1 hX hne rfl kk (fun hc H locs ls hP hS hl hd k => lv_ineg hX.1 rfl hd k)
theorem Zs_i2b {pc len r1 r2 : Nat} {hs : List Nat} {x : Int32} (hX : ZOK X k fr tab) (hne : cs ≠ []) (kk : ZP X tab cs l (.int x.toInt8.toInt32 :: st) M) : ZP X tab ((pc, len, .i2b, r1, r2, hs) :: cs) l (.int x :: st) M :=
  Zs1 hX hne rfl kk (fun hc H locs ls hP hS hl hd k => lv_i2b hX.1 rfl hd rfl k)
theorem Zs_i2s {pc len r1 r2 : Nat} {hs : List Nat} {x : Int32} (hX : ZOK X k fr tab) (hne : cs ≠ []) (kk : ZP X tab cs l (.int x.toInt16.toInt32 :: st) M) : ZP X tab ((pc, len, .i2s, r1, r2, hs) :: cs) l (.int x :: st) M :=
  Zs1 hX hne rfl kk (fun hc H locs ls hP hS hl hd k => lv_i2s hX.1 rfl hd rfl k)
theorem Zs_i2l {pc len r1 r2 : Nat} {hs : List Nat} {x : Int32} (hX : ZOK X k fr tab) (hne : cs ≠ []) (kk : ZP X tab cs l (.long x.toInt64 :: st) M) : ZP X tab ((pc, len, .i2l, r1, r2, hs) :: cs) l (.int x :: st) M :=
  Zs1 hX hne rfl kk (fun hc H locs ls hP hS hl hd k => lv_i2l hX.1 rfl hd rfl k)
theorem Zs_l2i {pc len r1 r2 : Nat} {hs : List Nat} {x : Int64} (hX : ZOK X k fr tab) (hne : cs ≠ []) (kk : ZP X tab cs l (.int x.toInt32 :: st) M) : ZP X tab ((pc, len, .l2i, r1, r2, hs) :: cs) l (.long x :: st) M :=
  Zs1 hX hne rfl kk (fun hc H locs ls hP hS hl hd k => lv_l2i hX.1 rfl hd rfl k)
theorem Zs_land {pc len r1 r2 : Nat} {hs : List Nat} {x y : Int64} (hX : ZOK X k fr tab) (hne : cs ≠ []) (kk : ZP X tab cs l (.long (x &&& y) :: st) M) : ZP X tab ((pc, len, .land, r1, r2, hs) :: cs) l (.long y :: .long x :: st) M :=
  Zs1 hX hne rfl kk (fun hc H locs ls hP hS hl hd k => lv_land hX.1 rfl hd k)
theorem Zs_lor {pc len r1 r2 : Nat} {hs : List Nat} {x y : Int64} (hX : ZOK X k fr tab) (hne : cs ≠ []) (kk : ZP X tab cs l (.long (x ||| y) :: st) M) : ZP X tab ((pc, len, .lor, r1, r2, hs) :: cs) l (.long y :: .long x :: st) M :=
  Zs1 hX hne rfl kk (fun hc H locs ls hP hS hl hd k => lv_lor hX.1 rfl hd k)
theorem Zs_lshl {pc len r1 r2 : Nat} {hs : List Nat} {x : Int64} {y : Int32} (hX : ZOK X k fr tab) (hne : cs ≠ []) (kk : ZP X tab cs l (.long (x <<< (y.toInt64 &&& 63)) :: st) M) : ZP X tab ((pc, len, .lshl, r1, r2, hs) :: cs) l (.int y :: .long x :: st) M :=
  Zs1 hX hne rfl kk (fun hc H locs ls hP hS hl hd k => lv_lshl hX.1 rfl hd rfl k)
theorem Zs_lshr {pc len r1 r2 : Nat} {hs : List Nat} {x : Int64} {y : Int32} (hX : ZOK X k fr tab) (hne : cs ≠ []) (kk : ZP X tab cs l (.long (x >>> (y.toInt64 &&& 63)) :: st) M) : ZP X tab ((pc, len, .lshr, r1, r2, hs) :: cs) l (.int y :: .long x :: st) M :=
  Zs1 hX hne rfl kk (fun hc H locs ls hP hS hl hd k => lv_lshr hX.1 rfl hd rfl k)
theorem Zs_lushr {pc len r1 r2 : Nat} {hs : List Nat} {x : Int64} {y : Int32} (hX : ZOK X k fr tab) (hne : cs ≠ []) (kk : ZP X tab cs l (.long (x.toUInt64 >>> (y.toInt64.toUInt64 &&& Int64.toUInt64 63)).toInt64 :: st) M) : ZP X tab ((pc, len, .lushr, r1, r2, hs) :: cs) l (.int y :: .long x :: st) M :=
  Zs1 hX hne rfl kk (fun hc H locs ls hP hS hl hd k => lv_lushr hX.1 rfl hd rfl k)
def Zone : Value → Bool
  | .int _ => true
  | .ref _ => true
  | _ => false
theorem Zone_cat {ad : Nat → Nat} {v : Value} (h : Zone v = true) : (Ztr ad v).category = 1 := by
  cases v <;> first | rfl | (simp [Zone] at h)
theorem Zs_dup {pc len r1 r2 : Nat} {hs : List Nat} {v : Value} (hX : ZOK X k fr tab) (hne : cs ≠ []) (hv : Zone v = true) (kk : ZP X tab cs l (v :: v :: st) M) : ZP X tab ((pc, len, .dup, r1, r2, hs) :: cs) l (v :: st) M :=
  Zs1 hX hne rfl kk (fun hc H locs ls hP hS hl hd k => lv_dup hX.1 rfl hd (Zone_cat hv) k)
theorem Zs_dup2 {pc len r1 r2 : Nat} {hs : List Nat} {v w : Value} (hX : ZOK X k fr tab) (hne : cs ≠ []) (hv : Zone v = true) (hw : Zone w = true) (kk : ZP X tab cs l (v :: w :: v :: w :: st) M) : ZP X tab ((pc, len, .dup2, r1, r2, hs) :: cs) l (v :: w :: st) M :=
  Zs1 hX hne rfl kk (fun hc H locs ls hP hS hl hd k => lv_dup2_11 hX.1 rfl hd (Zone_cat hv) (Zone_cat hw) k)
theorem Zs_pop {pc len r1 r2 : Nat} {hs : List Nat} {v : Value} (hX : ZOK X k fr tab) (hne : cs ≠ []) (hv : Zone v = true) (kk : ZP X tab cs l st M) : ZP X tab ((pc, len, .pop, r1, r2, hs) :: cs) l (v :: st) M :=
  Zs1 hX hne rfl kk (fun hc H locs ls hP hS hl hd k => lv_pop hX.1 rfl hd (Zone_cat hv) k)
-- fields
theorem Zs_getf {pc len i r1 r2 o : Nat} {hs : List Nat} {fs : List (Nat × Nat)} {c : Nat × Nat} {v : Value} (hX : ZOK X k fr tab) (hne : cs ≠ []) (ho : o < Zno) (hsh : Zsh o = (4, r1, fs)) (hf : fs[r2]? = some c) (hv : Zfv (zad X) c (M o r2) = Ztr (zad X) v) (kk : ZP X tab cs l (v :: st) M) : ZP X tab ((pc, len, .getfield i, r1, r2, hs) :: cs) l (.ref o :: st) M := by
  refine Zs1 hX hne rfl kk (fun hc H locs ls hP hS hl hd kk => ?_)
  cases hq : Zcl[r1]? with
  | none => have hc := hX.ck hc; simp [Zck, hq] at hc
  | some q =>
    have h2 := hX.wo hc (w := .fieldLink (Zmt k).1.cls i q.1 (q.2.1 r2).2.1 (q.2.1 r2).2.2.1) (by simp [Zwo, hq])
    have hc := hX.ck hc
    simp only [Zck, hq, Bool.and_eq_true, decide_eq_true_eq] at hc
    obtain ⟨-, h1⟩ := hc
    refine va_get (ci := r1) (C := q.1) (T := q.2.1) (N := q.2.2) (fs := Zfs (zad X) (M o) 0 fs) hX.1 rfl hX.2.2.2.1 (Zcl_ws hq) hX.2.2.1 hX.2.2.2.2.1 hP o (by rw [Zws_at ho, hsh]; rfl) hq r2 h1 h2 (fun x hx => by rw [Zcl_own hq h1] at hx; exact hx) (v := Ztr (zad X) v) ?_ hd kk
    rw [Zfs_at _ _ _ _ _ _ hf, ← hv, Nat.zero_add]
theorem Zs_putf {pc len i r1 r2 o : Nat} {hs : List Nat} {fs : List (Nat × Nat)} {c : Nat × Nat} {v : Value} {b : Int32} (hX : ZOK X k fr tab) (hne : cs ≠ []) (ho : o < Zno) (hsh : Zsh o = (4, r1, fs)) (hf : fs[r2]? = some c) (hv : Ztr (zad X) v = Zfv (zad X) c b)
    (hfit : ∀ q, Zcl[r1]? = some q → ∃ ty, parseFieldDescriptor (q.2.1 r2).2.2.1 = some ty ∧ narrow ty (Ztr (zad X) v) = Ztr (zad X) v ∧ fits ty (Ztr (zad X) v) = true) (kk : ZP X tab cs l st (Zu M o r2 b)) : ZP X tab ((pc, len, .putfield i, r1, r2, hs) :: cs) l (v :: .ref o :: st) M := by
  intro hsf H locs ls hP hS hl
  have hd := hX.dec hsf
  have hle : len = 3 := by have h := hX.ls hsf; simpa [Zls, Zlen] using h
  have hx := hX.nx hsf hne
  subst hle
  have hc := hX.ck hsf
  cases hq : Zcl[r1]? with
  | none => simp [Zck, hq] at hc
  | some q =>
    have h2 := hX.wo hsf (w := .fieldLink (Zmt k).1.cls i q.1 (q.2.1 r2).2.1 (q.2.1 r2).2.2.1) (by simp [Zwo, hq])
    simp only [Zck, hq, Bool.and_eq_true, decide_eq_true_eq, Bool.not_eq_true'] at hc
    obtain ⟨-, h1, h3⟩ := hc
    obtain ⟨ty, g1, g2, g3⟩ := hfit q hq
    have hlen : r2 < (Zfs (zad X) (M o) 0 fs).length := by rw [Zfs_len]; exact (List.getElem?_eq_some_iff.mp hf).1
    refine va_put (ci := r1) (C := q.1) (T := q.2.1) (N := q.2.2) (ty := ty) (fs := Zfs (zad X) (M o) 0 fs) hX.1 rfl hX.2.2.2.1 (Zcl_ws hq) (Zft r1) (Zcl_ty hq) (Zcl_nm hq) hX.2.2.1 hX.2.2.2.2.1 hP (hX.D M) hS o (by rw [Zws_at ho, hsh]; rfl) hq r2 h1 h2 (fun x hx => by rw [Zcl_own hq h1] at hx; exact hx) h3 g1 g2 g3 hlen hd (fun H1 locs1 hP1 _ hS1 => ?_)
    rw [Zfs_set _ _ b _ _ _ _ _ hf hv, Nat.zero_add] at hP1
    have := kk (Zsuf_tl hsf) H1 locs1 ls (by unfold Zpic; rw [← Zws_set (show _ = Zce (zad X) (zcA X) (upd (M o) r2 b) (Zsh o) by first | (rw [hsh]; done) | (rw [hsh]; rfl))]; exact hP1) hS1 hl
    rw [← hx] at this
    exact this
-- arrays
theorem ZOK.old (hX : ZOK X k fr tab) {o : Nat} {q : FieldType × Nat × (Nat → Int32)} (h : ZoL (zsc X) o = some q) {H : Heap} {locs : List Loc} (hS : va_S (zA X) (zs X).heap H locs) : Zoa (zad X o) q.1 q.2.1 q.2.2 (zs X) H := by
  obtain ⟨h1, h2⟩ := hX.2.2.2.2.2.2.2.1.1 o q h
  exact h1.kept (hS.2.1 _ h1.lt h2)
theorem Zar_new {sc : Nat × (Nat → Int32)} {o : Nat} {ty : FieldType} {n : Nat} {f : Nat → Int32} (h : Zar sc M o = some (ty, n, f)) (ho : o < Zno) : f = M o ∧ ((∃ z, Zsh o = (0, n, z) ∧ ty = .int) ∨ ∃ z, Zsh o = (1, n, z) ∧ ty = .byte) := by
  have hb : Nat.blt o Zno = true := by simp [Nat.blt_eq, ho]
  unfold Zar at h
  rw [hb] at h
  generalize Zsh o = w at h ⊢
  obtain ⟨a, b, z⟩ := w
  match a, h with
  | 0, h => cases h; exact ⟨rfl, Or.inl ⟨z, rfl, rfl⟩⟩
  | 1, h => cases h; exact ⟨rfl, Or.inr ⟨z, rfl, rfl⟩⟩
  | a + 2, h => cases h
theorem Zar_old {sc : Nat × (Nat → Int32)} {o : Nat} {q : FieldType × Nat × (Nat → Int32)} (h : Zar sc M o = some q) (ho : ¬ o < Zno) : ZoL sc o = some q := by
  have hb : Nat.blt o Zno = false := by
    cases hb : Nat.blt o Zno with
    | false => rfl
    | true => rw [Nat.blt_eq] at hb; exact absurd hb ho
  unfold Zar at h
  rw [hb] at h
  exact h
theorem Zs_iald {pc len r1 r2 o n : Nat} {hs : List Nat} {i : Int32} {f : Nat → Int32} (hX : ZOK X k fr tab) (hne : cs ≠ []) (ha : Zar (zsc X) M o = some (.int, n, f)) (hin : vp_in i n) (kk : ZP X tab cs l (.int (f i.toNatClampNeg) :: st) M) : ZP X tab ((pc, len, .iaload, r1, r2, hs) :: cs) l (.int i :: .ref o :: st) M := by
  refine Zs1 hX hne rfl kk (fun hc H locs ls hP hS hl hd kk => ?_)
  by_cases ho : o < Zno
  · obtain ⟨rfl, ⟨z, hz, -⟩ | ⟨z, hz, hy⟩⟩ := Zar_new ha ho
    · exact va_iald hX.1 rfl hX.2.2.2.2.1 hP o 0 (by rw [Zws_at ho, hz]; rfl) rfl hin hd kk
    · cases hy
  · obtain ⟨scr, h1, h2, h3, h4, h5⟩ := hX.old (Zar_old ha ho) hS
    have hlt : i.toNatClampNeg < n := Nat.not_le.mp fun q => hin (Or.inr q)
    exact W.iald (v := .int (f i.toNatClampNeg)) hX.1 rfl h1 h2 h3 (fun q => hin (q.imp id (Nat.le_trans h4.1))) (h5 _ hlt) rfl rfl hd kk
theorem Zs_bald {pc len r1 r2 o n : Nat} {hs : List Nat} {i : Int32} {f : Nat → Int32} (hX : ZOK X k fr tab) (hne : cs ≠ []) (ho : o < Zno) (ha : Zar (zsc X) M o = some (.byte, n, f)) (hin : vp_in i n) (kk : ZP X tab cs l (.int (f i.toNatClampNeg) :: st) M) : ZP X tab ((pc, len, .baload, r1, r2, hs) :: cs) l (.int i :: .ref o :: st) M := by
  refine Zs1 hX hne rfl kk (fun hc H locs ls hP hS hl hd kk => ?_)
  obtain ⟨rfl, ⟨z, hz, hy⟩ | ⟨z, hz, -⟩⟩ := Zar_new ha ho
  · cases hy
  · exact va_bald hX.1 rfl hX.2.2.2.2.1 hP o 1 (by rw [Zws_at ho, hz]; rfl) rfl hin hd kk
theorem Zs_cald {pc len r1 r2 o n : Nat} {hs : List Nat} {i : Int32} {f : Nat → Int32} (hX : ZOK X k fr tab) (hne : cs ≠ []) (ho : ¬ o < Zno) (ha : Zar (zsc X) M o = some (.char, n, f)) (hin : vp_in i n) (kk : ZP X tab cs l (.int (f i.toNatClampNeg) :: st) M) : ZP X tab ((pc, len, .caload, r1, r2, hs) :: cs) l (.int i :: .ref o :: st) M := by
  refine Zs1 hX hne rfl kk (fun hc H locs ls hP hS hl hd kk => ?_)
  obtain ⟨scr, h1, h2, h3, h4, h5⟩ := hX.old (Zar_old ha ho) hS
  have hlt : i.toNatClampNeg < n := Nat.not_le.mp fun q => hin (Or.inr q)
  exact W.cald (v := .int (f i.toNatClampNeg)) hX.1 rfl h1 h2 h3 (fun q => hin (q.imp id (Nat.le_trans h4.1))) (h5 _ hlt) rfl rfl hd kk
theorem Zs_aald {pc len r1 r2 o n a j o' : Nat} {hs : List Nat} {z : List (Nat × Nat)} {b : Nat} {i : Int32} (hX : ZOK X k fr tab) (hne : cs ≠ []) (ho : o < Zno) (hsh : Zsh o = (a, n, z)) (ha : a = 2 ∨ a = 3) (hi : i = nI j) (hj : j < n) (hn : n < 100) (hz : z[j]? = some (b, o')) (kk : ZP X tab cs l (.ref o' :: st) M) : ZP X tab ((pc, len, .aaload, r1, r2, hs) :: cs) l (.int i :: .ref o :: st) M := by
  refine Zs1 hX hne rfl kk (fun hc H locs ls hP hS hl hd kk => ?_)
  subst hi
  have hv : va_rf ((z[(nI j).toNatClampNeg]?).map (fun p => zad X p.2)) = Ztr (zad X) (.ref o') := by
    rw [nI_clamp (by omega), hz]; rfl
  have hin : vp_in (nI j) n := vp_in_nI hj (by omega)
  rcases ha with rfl | rfl
  · refine va_aldq (C := "KnitRiver$Text") (n := n) (f := fun k => (z[k]?).map (fun p => zad X p.2)) hX.1 rfl hX.2.2.2.2.1 hP o 2 (by rw [Zws_at ho, hsh]; rfl) rfl hin hd ?_
    rw [hv]
    exact kk
  · refine va_aldq (C := "KnitRiver$Sheet") (n := n) (f := fun k => (z[k]?).map (fun p => zad X p.2)) hX.1 rfl hX.2.2.2.2.1 hP o 3 (by rw [Zws_at ho, hsh]; rfl) rfl hin hd ?_
    rw [hv]
    exact kk
theorem Zs_alen {pc len r1 r2 o n : Nat} {hs : List Nat} {f : Nat → Int32} {ty : FieldType} (hX : ZOK X k fr tab) (hne : cs ≠ []) (ha : Zar (zsc X) M o = some (ty, n, f)) (kk : ZP X tab cs l (.int (nI n) :: st) M) : ZP X tab ((pc, len, .arraylength, r1, r2, hs) :: cs) l (.ref o :: st) M := by
  refine Zs1 hX hne rfl kk (fun hc H locs ls hP hS hl hd kk => ?_)
  by_cases ho : o < Zno
  · obtain ⟨rfl, ⟨z, hz, rfl⟩ | ⟨z, hz, rfl⟩⟩ := Zar_new ha ho
    · exact va_alen hX.1 rfl hX.2.2.2.2.1 hP o 0 (x := (n, .inl (M o))) (by rw [Zws_at ho, hz]; rfl) (ty := .int) rfl rfl hd kk
    · exact va_alen hX.1 rfl hX.2.2.2.2.1 hP o 1 (x := (n, .inl (M o))) (by rw [Zws_at ho, hz]; rfl) (ty := .byte) rfl rfl hd kk
  · obtain ⟨scr, h1, h2, h3, h4, h5⟩ := hX.old (Zar_old ha ho) hS
    exact W.alen (n := nI n) hX.1 rfl h1 h2 h4.2 rfl rfl hd kk
theorem Zs_iast {pc len r1 r2 o n : Nat} {hs : List Nat} {z : List (Nat × Nat)} {i x : Int32} (hX : ZOK X k fr tab) (hne : cs ≠ []) (ho : o < Zno) (hsh : Zsh o = (0, n, z)) (hin : vp_in i n) (kk : ZP X tab cs l st (Zu M o i.toNatClampNeg x)) : ZP X tab ((pc, len, .iastore, r1, r2, hs) :: cs) l (.int x :: .int i :: .ref o :: st) M := by
  intro hsf H locs ls hP hS hl
  have hd := hX.dec hsf
  have hle : len = 1 := by have h := hX.ls hsf; simpa [Zls, Zlen] using h
  have hx := hX.nx hsf hne
  subst hle
  refine va_iast hX.1 rfl hX.2.2.2.2.1 hP (hX.D M) hS o 0 (cA := zcA X 0) (n := n) (f := M o) (by rw [Zws_at ho, hsh]; rfl) rfl hin hd (fun H1 locs1 hP1 _ hS1 => ?_)
  have := kk (Zsuf_tl hsf) H1 locs1 ls (by unfold Zpic; rw [← Zws_set (show _ = Zce (zad X) (zcA X) (upd (M o) i.toNatClampNeg x) (Zsh o) by first | (rw [hsh]; done) | (rw [hsh]; rfl))]; exact hP1) hS1 hl
  rw [← hx] at this
  exact this
theorem Zs_bast {pc len r1 r2 o n : Nat} {hs : List Nat} {z : List (Nat × Nat)} {i x : Int32} (hX : ZOK X k fr tab) (hne : cs ≠ []) (ho : o < Zno) (hsh : Zsh o = (1, n, z)) (hin : vp_in i n) (kk : ZP X tab cs l st (Zu M o i.toNatClampNeg (vp_nar .byte x))) : ZP X tab ((pc, len, .bastore, r1, r2, hs) :: cs) l (.int x :: .int i :: .ref o :: st) M := by
  intro hsf H locs ls hP hS hl
  have hd := hX.dec hsf
  have hle : len = 1 := by have h := hX.ls hsf; simpa [Zls, Zlen] using h
  have hx := hX.nx hsf hne
  subst hle
  refine va_bast hX.1 rfl hX.2.2.2.2.1 hP (hX.D M) hS o 1 (cA := zcA X 1) (n := n) (f := M o) (by rw [Zws_at ho, hsh]; rfl) rfl hin hd (fun H1 locs1 hP1 _ hS1 => ?_)
  have := kk (Zsuf_tl hsf) H1 locs1 ls (by unfold Zpic; rw [← Zws_set (show _ = Zce (zad X) (zcA X) (upd (M o) i.toNatClampNeg (vp_nar .byte x)) (Zsh o) by first | (rw [hsh]; done) | (rw [hsh]; rfl))]; exact hP1) hS1 hl
  rw [← hx] at this
  exact this
theorem Zs_gets {pc len i r1 r2 : Nat} {hs : List Nat} {q : String × String × String} (hX : ZOK X k fr tab) (hne : cs ≠ []) (hq : ZstL r1 = some q) (kk : ZP X tab cs l (.ref r1 :: st) M) : ZP X tab ((pc, len, .getstatic i, r1, r2, hs) :: cs) l st M := by
  refine Zs1 hX hne rfl kk (fun hc H locs ls hP hS hl hd kk => ?_)
  exact va_gets hX.1 rfl (hX.2.2.2.2.2.2.2.1.2 _ _ hq) hS hX.2.2.1 (hX.wo hc (by simp [Zwo, hq])) (fun x h => h) hd kk
-- branches
theorem Zs_goto {pc len r1 r2 : Nat} {off : Int} {hs : List Nat} (hX : ZOK X k fr tab) (kk : ZP X tab (Zsf tab r1) l st M) : ZP X tab ((pc, len, .goto off, r1, r2, hs) :: cs) l st M := by
  intro hsf H locs ls hP hS hl
  have hd := hX.dec hsf
  have hle : len = 3 := by have h := hX.ls hsf; simpa [Zls, Zlen] using h
  subst hle
  have hc := hX.ck hsf
  simp only [Zck, Bool.and_eq_true, decide_eq_true_eq] at hc
  have := kk (Zsuf_sf _ _) H locs ls hP hS hl
  rw [Zsf_pc hc.2.2] at this
  exact lv_goto hX.1 rfl hd hc.2.1 this
/-- both ways of a branch -/
theorem Zs_br {pc len r1 r2 : Nat} {ins : Instr} {hs : List Nat} {st' : List Value} {C : Prop} {off : Int} (hX : ZOK X k fr tab) (hne : cs ≠ []) (hn : Zlen ins = some 3) (hck : Zck k tab (pc, len, ins, r1, r2, hs) = true → (pc : Int) + off = (r1 : Int) ∧ Zhp tab r1 = true)
    (row : ∀ (H : Heap) (locs : List Loc) (ls : Array Slot), (pc : Int) + off = (r1 : Int) → decode (zc X).code pc = .ok (ins, 3) → (C → ZW X H locs (F0 (zm X) r1 ls (st'.map (Ztr (zad X))))) → (¬ C → ZW X H locs (F0 (zm X) (pc + 3) ls (st'.map (Ztr (zad X))))) → ZW X H locs (F0 (zm X) pc ls (st.map (Ztr (zad X)))))
    (kt : C → ZP X tab (Zsf tab r1) l st' M) (kf : ¬ C → ZP X tab cs l st' M) : ZP X tab ((pc, len, ins, r1, r2, hs) :: cs) l st M := by
  intro hsf H locs ls hP hS hl
  have hd := hX.dec hsf
  have hle : len = 3 := by have h := hX.ls hsf; simpa [Zls, hn] using h
  have hx := hX.nx hsf hne
  subst hle
  obtain ⟨h1, h2⟩ := hck (hX.ck hsf)
  refine row H locs ls h1 hd (fun c => ?_) (fun c => ?_)
  · have := kt c (Zsuf_sf _ _) H locs ls hP hS hl
    rw [Zsf_pc h2] at this
    exact this
  · have := kf c (Zsuf_tl hsf) H locs ls hP hS hl
    rw [← hx] at this
    exact this
section ZB
variable {pc len r1 r2 : Nat} {off : Int} {hs : List Nat} {x y : Int32}
theorem Zck_if {co : Jvm.ClassFile.Cond} (h : Zck k tab (pc, len, .ifCond co off, r1, r2, hs) = true) : (pc : Int) + off = (r1 : Int) ∧ Zhp tab r1 = true := by
  simp only [Zck, Bool.and_eq_true, decide_eq_true_eq] at h
  exact h.2
theorem Zck_ic {co : Jvm.ClassFile.Cond} (h : Zck k tab (pc, len, .if_icmp co off, r1, r2, hs) = true) : (pc : Int) + off = (r1 : Int) ∧ Zhp tab r1 = true := by
  simp only [Zck, Bool.and_eq_true, decide_eq_true_eq] at h
  exact h.2
theorem Zs_ieq (hX : ZOK X k fr tab) (hne : cs ≠ []) (kt : x = y → ZP X tab (Zsf tab r1) l st M) (kf : ¬ x = y → ZP X tab cs l st M) : ZP X tab ((pc, len, .if_icmp .eq off, r1, r2, hs) :: cs) l (.int y :: .int x :: st) M :=
  Zs_br hX hne rfl Zck_ic (fun H locs ls ht hd a b => lv_icmp_eq hX.1 rfl hd ht a b) kt kf
theorem Zs_ine (hX : ZOK X k fr tab) (hne : cs ≠ []) (kt : ¬ x = y → ZP X tab (Zsf tab r1) l st M) (kf : x = y → ZP X tab cs l st M) : ZP X tab ((pc, len, .if_icmp .ne off, r1, r2, hs) :: cs) l (.int y :: .int x :: st) M :=
  Zs_br (C := ¬ x = y) hX hne rfl Zck_ic (fun H locs ls ht hd a b => lv_icmp_ne hX.1 rfl hd ht a (fun h => b (fun n => n h))) kt (fun h => kf (Classical.not_not.mp h))
theorem Zs_ilt (hX : ZOK X k fr tab) (hne : cs ≠ []) (kt : x < y → ZP X tab (Zsf tab r1) l st M) (kf : ¬ x < y → ZP X tab cs l st M) : ZP X tab ((pc, len, .if_icmp .lt off, r1, r2, hs) :: cs) l (.int y :: .int x :: st) M :=
  Zs_br hX hne rfl Zck_ic (fun H locs ls ht hd a b => lv_icmp_lt hX.1 rfl hd ht a b) kt kf
theorem Zs_ige (hX : ZOK X k fr tab) (hne : cs ≠ []) (kt : y ≤ x → ZP X tab (Zsf tab r1) l st M) (kf : ¬ y ≤ x → ZP X tab cs l st M) : ZP X tab ((pc, len, .if_icmp .ge off, r1, r2, hs) :: cs) l (.int y :: .int x :: st) M :=
  Zs_br hX hne rfl Zck_ic (fun H locs ls ht hd a b => lv_icmp_ge hX.1 rfl hd ht a b) kt kf
theorem Zs_igt (hX : ZOK X k fr tab) (hne : cs ≠ []) (kt : y < x → ZP X tab (Zsf tab r1) l st M) (kf : ¬ y < x → ZP X tab cs l st M) : ZP X tab ((pc, len, .if_icmp .gt off, r1, r2, hs) :: cs) l (.int y :: .int x :: st) M :=
  Zs_br hX hne rfl Zck_ic (fun H locs ls ht hd a b => lv_icmp_gt hX.1 rfl hd ht a b) kt kf
theorem Zs_ile (hX : ZOK X k fr tab) (hne : cs ≠ []) (kt : x ≤ y → ZP X tab (Zsf tab r1) l st M) (kf : ¬ x ≤ y → ZP X tab cs l st M) : ZP X tab ((pc, len, .if_icmp .le off, r1, r2, hs) :: cs) l (.int y :: .int x :: st) M :=
  Zs_br hX hne rfl Zck_ic (fun H locs ls ht hd a b => lv_icmp_le hX.1 rfl hd ht a b) kt kf
theorem Zs_eq (hX : ZOK X k fr tab) (hne : cs ≠ []) (kt : x = 0 → ZP X tab (Zsf tab r1) l st M) (kf : ¬ x = 0 → ZP X tab cs l st M) : ZP X tab ((pc, len, .ifCond .eq off, r1, r2, hs) :: cs) l (.int x :: st) M :=
  Zs_br hX hne rfl Zck_if (fun H locs ls ht hd a b => lv_if_eq hX.1 rfl hd ht a b) kt kf
theorem Zs_ne (hX : ZOK X k fr tab) (hne : cs ≠ []) (kt : ¬ x = 0 → ZP X tab (Zsf tab r1) l st M) (kf : x = 0 → ZP X tab cs l st M) : ZP X tab ((pc, len, .ifCond .ne off, r1, r2, hs) :: cs) l (.int x :: st) M :=
  Zs_br (C := ¬ x = 0) hX hne rfl Zck_if (fun H locs ls ht hd a b => lv_if_ne hX.1 rfl hd ht a (fun h => b (fun n => n h))) kt (fun h => kf (Classical.not_not.mp h))
theorem Zs_lt (hX : ZOK X k fr tab) (hne : cs ≠ []) (kt : x < 0 → ZP X tab (Zsf tab r1) l st M) (kf : ¬ x < 0 → ZP X tab cs l st M) : ZP X tab ((pc, len, .ifCond .lt off, r1, r2, hs) :: cs) l (.int x :: st) M :=
  Zs_br hX hne rfl Zck_if (fun H locs ls ht hd a b => lv_if_lt hX.1 rfl hd ht a b) kt kf
theorem Zs_ge (hX : ZOK X k fr tab) (hne : cs ≠ []) (kt : 0 ≤ x → ZP X tab (Zsf tab r1) l st M) (kf : ¬ 0 ≤ x → ZP X tab cs l st M) : ZP X tab ((pc, len, .ifCond .ge off, r1, r2, hs) :: cs) l (.int x :: st) M :=
  Zs_br hX hne rfl Zck_if (fun H locs ls ht hd a b => lv_if_ge hX.1 rfl hd ht a b) kt kf
theorem Zs_gt (hX : ZOK X k fr tab) (hne : cs ≠ []) (kt : 0 < x → ZP X tab (Zsf tab r1) l st M) (kf : ¬ 0 < x → ZP X tab cs l st M) : ZP X tab ((pc, len, .ifCond .gt off, r1, r2, hs) :: cs) l (.int x :: st) M :=
  Zs_br hX hne rfl Zck_if (fun H locs ls ht hd a b => lv_if_gt hX.1 rfl hd ht a b) kt kf
theorem Zs_le (hX : ZOK X k fr tab) (hne : cs ≠ []) (kt : x ≤ 0 → ZP X tab (Zsf tab r1) l st M) (kf : ¬ x ≤ 0 → ZP X tab cs l st M) : ZP X tab ((pc, len, .ifCond .le off, r1, r2, hs) :: cs) l (.int x :: st) M :=
  Zs_br hX hne rfl Zck_if (fun H locs ls ht hd a b => lv_if_le hX.1 rfl hd ht a b) kt kf
end ZB
theorem Zs_ifnull {pc len r1 r2 o : Nat} {off : Int} {hs : List Nat} (hX : ZOK X k fr tab) (hne : cs ≠ []) (kk : ZP X tab cs l st M) : ZP X tab ((pc, len, .ifnull off, r1, r2, hs) :: cs) l (.ref o :: st) M :=
  Zs1 hX hne rfl kk (fun hc H locs ls hP hS hl hd k => lv_ifnull hX.1 rfl hd k)
-- switches
def Zswk (pc : Nat) (ins : Instr) (ks : List (Int32 × Nat)) (dt : Nat) : Bool := match ins with
  | .tableswitch d lo hi offs => decide (ks.map (fun q => q.1.toInt) = (List.range offs.size).map (fun i : Nat => lo + (i : Int))) && decide (offs.toList.map (fun o => (pc : Int) + o) = ks.map (fun q => (q.2 : Int))) && decide ((pc : Int) + d = (dt : Int)) && decide (hi = lo + (offs.size : Int) - 1)
  | .lookupswitch d ps => decide (ps.toList.map (fun q => (q.1, (pc : Int) + q.2)) = ks.map (fun q => (q.1.toInt, (q.2 : Int)))) && decide ((pc : Int) + d = (dt : Int)) && (ps.toList.zip (ps.toList.drop 1)).all (fun (a, next) => a.1 < next.1)
  | _ => false
theorem Zsl_or (x : Int32) (d : Nat) : ∀ ks : List (Int32 × Nat), (∃ (i : Nat) (q : Int32 × Nat), ks[i]? = some q ∧ x = q.1 ∧ Zsl x d ks = q.2) ∨ ((∀ (i : Nat) (q : Int32 × Nat), ks[i]? = some q → ¬ x = q.1) ∧ Zsl x d ks = d) := by
  intro ks
  induction ks with
  | nil => exact Or.inr ⟨fun i q h => by simp at h, rfl⟩
  | cons q r ih =>
    by_cases h : x = q.1
    · exact Or.inl ⟨0, q, rfl, h, by simp [Zsl, h]⟩
    · rcases ih with ⟨i, q', h1, h2, h3⟩ | ⟨h1, h2⟩
      · exact Or.inl ⟨i + 1, q', by simpa using h1, h2, by rw [Zsl, if_neg h]; exact h3⟩
      · refine Or.inr ⟨fun i q' h' => ?_, by rw [Zsl, if_neg h]; exact h2⟩
        cases i with
        | zero => simp at h'; subst h'; exact h
        | succ i => exact h1 i q' (by simpa using h')
theorem Zlk_off (x : Int32) (pc dt : Nat) (d : Int) (hd : (pc : Int) + d = (dt : Int)) : ∀ (ps : List (Int × Int)) (ks : List (Int32 × Nat)), ps.map (fun q => (q.1, (pc : Int) + q.2)) = ks.map (fun q => (q.1.toInt, (q.2 : Int))) → (pc : Int) + Op.lookupswitch.offset ps d x.toInt = (Zsl x dt ks : Int) := by
  intro ps
  induction ps with
  | nil =>
    intro ks h
    cases ks with
    | nil => exact hd
    | cons a r => simp at h
  | cons p r ih =>
    intro ks h
    cases ks with
    | nil => simp at h
    | cons q s =>
      simp only [List.map_cons, List.cons.injEq, Prod.mk.injEq] at h
      obtain ⟨⟨h1, h2⟩, h3⟩ := h
      obtain ⟨pa, po⟩ := p
      rw [Op.lookupswitch.offset_cons, Zsl]
      by_cases hx : x = q.1
      · rw [if_pos hx, if_pos (by rw [hx]; exact h1)]
        exact h2
      · rw [if_neg hx, if_neg (fun e => hx (Int32.toInt_inj.mp (by rw [← h1]; exact e.symm)))]
        exact ih s h3
theorem Zs_sw {pc len r1 r2 t : Nat} {ins : Instr} {hs : List Nat} {x : Int32} (ks : List (Int32 × Nat)) (dt : Nat) (hX : ZOK X k fr tab) (hk : Zswk pc ins ks dt = true) (hp : (Zhp tab dt && ks.all (fun q => Zhp tab q.2)) = true) (ht : Zsl x dt ks = t) (kk : ZP X tab (Zsf tab t) l st M) : ZP X tab ((pc, len, ins, r1, r2, hs) :: cs) l (.int x :: st) M := by
  intro hsf H locs ls hP hS hl
  have hd := hX.dec hsf
  have hpt : Zhp tab t = true := by
    simp only [Bool.and_eq_true] at hp
    rcases Zsl_or x dt ks with ⟨i, q, h1, -, h3⟩ | ⟨-, h3⟩
    · rw [← ht, h3]; exact List.all_eq_true.mp hp.2 q (List.mem_of_getElem? h1)
    · rw [← ht, h3]; exact hp.1
  have kk2 := kk (Zsuf_sf _ _) H locs ls hP hS hl
  rw [Zsf_pc hpt] at kk2
  cases ins with
  | tableswitch d lo hi offs =>
    simp only [Zswk, Bool.and_eq_true, decide_eq_true_eq] at hk
    obtain ⟨⟨⟨k1, k2⟩, k3⟩, k4⟩ := hk
    have hlen : ks.length = offs.size := by have := congrArg List.length k1; simpa using this
    have key : ∀ (i : Nat) (q : Int32 × Nat), ks[i]? = some q → q.1.toInt = lo + (i : Int) ∧ ∃ o, offs[i]? = some o ∧ (pc : Int) + o = (q.2 : Int) := by
      intro i q hq
      have hi := (List.getElem?_eq_some_iff.mp hq).1
      have e1 := congrArg (fun z => z[i]?) k1
      simp only [List.getElem?_map, hq, Option.map_some, List.getElem?_range (show i < offs.size by omega)] at e1
      have e2 := congrArg (fun z => z[i]?) k2
      simp only [List.getElem?_map, hq, Option.map_some] at e2
      refine ⟨Option.some.inj e1, ?_⟩
      have h3 : offs[i]? = some offs[i] := Array.getElem?_eq_getElem (by omega)
      refine ⟨offs[i], h3, ?_⟩
      rw [show offs.toList[i]? = some offs[i] by rw [Array.getElem?_toList]; exact h3] at e2
      exact Option.some.inj e2
    rcases Zsl_or x dt ks with ⟨i, q, h1, h2, h3⟩ | ⟨h1, h2⟩
    · obtain ⟨g1, o, g2, g3⟩ := key i q h1
      have hi := (List.getElem?_eq_some_iff.mp h1).1
      rw [h3] at ht
      subst ht
      exact lv_tableIn hX.1 rfl hd (by rw [h2, g1]; omega) (by rw [h2, g1]; omega) (off := o) (by rw [h2, g1]; rw [show (lo + (i : Int) - lo).toNat = i by omega]; exact g2) g3 kk2
    · rw [h2] at ht
      subst ht
      refine lv_tableOut hX.1 rfl hd ?_ k3 kk2
      by_cases h : x.toInt < lo
      · exact Or.inl h
      · by_cases h' : hi < x.toInt
        · exact Or.inr h'
        · exfalso
          have hj : (x.toInt - lo).toNat < ks.length := by omega
          obtain ⟨g1, -⟩ := key _ _ (List.getElem?_eq_getElem hj)
          exact h1 _ _ (List.getElem?_eq_getElem hj) (Int32.toInt_inj.mp (by rw [g1]; omega))
  | lookupswitch d ps =>
    simp only [Zswk, Bool.and_eq_true, decide_eq_true_eq] at hk
    obtain ⟨⟨k1, k2⟩, k3⟩ := hk
    exact lv_lookup hX.1 rfl hd k3 rfl (by show (pc : Int) + _ = _; rw [Zlk_off x pc dt d k2 _ _ k1, ht]) kk2
  | _ => simp [Zswk] at hk
-- calls
theorem Zblind {as : List Value} {D : va_G} {ad : Nat → Nat} {cA : Nat → ClassId} {sc : Nat × (Nat → Int32)} {sz : Nat} {M : Zmem} : FrameBlind (va_Pc as (fun U => U.heap.size = sz ∧ Zwd D ad cA sc M U)) := by
  intro a U g mk h
  obtain ⟨h0, h1, hP, hK, hi, ⟨ho, hz⟩, hn⟩ := h
  refine ⟨h0, h1, hP, va_K.moved (u := U) (U := U.calling g mk a) (Vm.Alike.refl U.vm) hK, hi, ⟨fun o q h => ⟨(ho o q h).1.moved (u := U) (U := U.calling g mk a) (Vm.Alike.refl U.vm), (ho o q h).2⟩, fun o q h => (hz o q h).moved (u := U) (U := U.calling g mk a) (Vm.Alike.refl U.vm)⟩, fun w hw => ?_⟩
  refine va_Nw.same ?_ (rfl : U.vm = (U.calling g mk a).vm) (hn w hw)
  have := (List.mem_filter.mp hw).2
  cases w <;> first | rfl | (simp [Zisn] at this)
theorem Zwd_at (hX : ZOK X k fr tab) {H : Heap} {locs : List Loc} {U : State} (hP : Zpic X M H) (hS : va_S (zA X) (zs X).heap H locs) (hU : U.heap = H) (hW : (zs X).WarmedH U.vm) : Zwd (zD X) (zad X) (zcA X) (zsc X) M U := by
  obtain ⟨hx, hb, hown, hts, hK, ⟨hi, hA⟩, hsz, ⟨ho, hz⟩, hn, hch, hfr, hml, hce⟩ := id hX
  have hsub : ∀ q, ZA (zad X) q → zA X q := by rintro q ⟨i, h1, rfl⟩; exact hA i h1
  refine ⟨by rw [hU]; exact hP, va_K.moved hW.alike hK, hi, ⟨fun o q h => ?_, fun o q h => ?_⟩, fun w hw => ?_⟩
  · obtain ⟨h1, h2⟩ := ho o q h
    exact ⟨by rw [hU]; exact (h1.kept (hS.2.1 _ h1.lt h2)).moved hW.alike, fun h3 => h2 (hsub _ h3)⟩
  · have h1 := hz o q h
    rw [hU]
    exact ((h1.kept (fun a h3 h4 => hS.2.1 a h3 h4)).narrow hsub).moved hW.alike
  · have h1 := (List.mem_filter.mp hw).2
    have h2 := hn w hw
    cases w <;> first | (exact va_Nw.warmM hW h2) | (simp [Zisn] at h1)
theorem Zgood {w : Cond} (h : w ∈ Ztg) : GoodIn Ztg (w :: Ztg) := by
  intro v hw
  rcases List.mem_cons.mp hw with rfl | hw
  · exact ⟨h, good_of_word (List.mem_filter.mp h).2⟩
  · exact ⟨hw, good_of_word (List.mem_filter.mp hw).2⟩
/-- behind a call -/
theorem Zbehind {pc : Nat} {Post' : Option Value → Zmem → Prop} {a : Array Value} {ls : Array Slot} {st0 rest : List Value} {H : Heap} {locs : List Loc} (hX : ZOK X k fr tab) (hS : va_S (zA X) (zs X).heap H locs)
    (hr : va_Run (zp X) (zl X) (ze X) (zR X) (zs X) (zm X) (za X) (zb X) (zme X) (zc X) H locs (zk X) (zn X) 0 0 (F0 (zm X) pc ls st0) rest (ZQF (zD X) (zad X) (zcA X) Post' (ZAA (zad X) H.size) a) (ZAA (zad X) H.size))
    (kk : ∀ (r : Option Value) (M' : Zmem) (H1 : Heap) (locs1 : List Loc), Zri r → Post' r M' → Zpic X M' H1 → va_S (zA X) (zs X).heap H1 locs1 → ZW X H1 locs1 (F0 (zm X) (pc + 3) ls (r.toList ++ rest))) : ZW X H locs (F0 (zm X) pc ls st0) := by
  obtain ⟨hx, hb, hown, hts, hK, ⟨hi, hA⟩, hsz, ⟨ho, hz⟩, hn, hch, hfr, hml, hce⟩ := id hX
  have hF : ∀ q, ZAA (zad X) H.size q → zA X q := by
    rintro q (⟨i, h1, rfl⟩ | h)
    · exact hA i h1
    · exact hsz q (Nat.le_trans hS.1 h)
  intro T hT XT
  obtain ⟨v, st₀, t, T', L, h0, X', hL, e1, e2, ⟨⟨r, M', hv, hri, hp, hPt⟩, hz, hk⟩, st⟩ := hr T hT XT
  cases hv
  rw [h0] at hz hk
  obtain ⟨t2, a1, b1⟩ := kk v M' T'.heap (locs ++ L) hri hp (by unfold Zpic; rw [e1]; exact hPt)
    ⟨Nat.le_trans hS.1 (by rw [e1]; exact hz), fun q h1 h2 => by rw [e1, hk q (Nat.lt_of_lt_of_le h1 hS.1) (fun z => h2 (hF q z))]; exact hS.2.1 q h1 h2, fun q hq => by
      rcases List.mem_append.mp hq with h | h
      · exact hS.2.2 q h
      · exact hF _ (hL q h)⟩ T' rfl X'
  exact ⟨t2, st t2 a1, b1⟩
theorem Zri_tr {ad : Nat → Nat} {r : Option Value} (h : Zri r) (rest : List Value) : (r.toList ++ rest).map (Ztr ad) = r.toList ++ rest.map (Ztr ad) := by
  rcases h with rfl | ⟨v, rfl⟩ <;> rfl
theorem Zcat_tr (ad : Nat → Nat) (rest : List Value) : ((rest.map (Ztr ad)).map fun v => v.category) = rest.map fun v => v.category := by
  rw [List.map_map]
  apply List.map_congr_left
  intro v _
  exact Ztr_cat ad v
theorem Zs_calls {pc len r1 r2 i fr' : Nat} {hs : List Nat} {as rest : List Value} {Post' : Option Value → Zmem → Prop} (hX : ZOK X k fr tab) (hne : cs ≠ []) (hr2 : r2 < 2) (hC : ZC r1 fr' as M Post') (hfr : fr' + 1 ≤ fr) (hst : st = as.reverse ++ rest) (hlen : as.length = Zna r1) (hmt : r1 < ZmtL.length) (hcat : (rest.map fun v => v.category).sum ≤ 8)
    (kk : ∀ (r : Option Value) (M' : Zmem), Post' r M' → ZP X tab cs l (r.toList ++ rest) M') : ZP X tab ((pc, len, .invokestatic i, r1, r2, hs) :: cs) l st M := by
  intro hsf H locs ls hP hS hl
  have hd := hX.dec hsf
  have hle : len = 3 := by have h := hX.ls hsf; simpa [Zls, Zlen] using h
  have hx := hX.nx hsf hne
  subst hle
  obtain ⟨h6, h7, h8, h5⟩ := Zmt_at hmt
  have hwo : ∀ w ∈ ([.static (Zmt r1).1, .initialized (Zmt r1).1.cls, .code (Zmt r1).1 (Zmt r1).2.1 (Zmt r1).2.2.1 (Zmt r1).2.2.2] : List Cond), w ∈ Ztg := by
    intro w hw
    refine hX.wg hsf ?_
    rcases (show r2 = 0 ∨ r2 = 1 by omega) with rfl | rfl
    · exact List.mem_cons_of_mem _ hw
    · exact hw
  have h2 := hX.2.2.2.1 _ (hwo _ List.mem_cons_self)
  have h3 := hX.2.2.2.1 _ (hwo _ (List.mem_cons_of_mem _ List.mem_cons_self))
  have h4 := hwo _ (List.mem_cons_of_mem _ (List.mem_cons_of_mem _ List.mem_cons_self))
  have hfit := hX.2.2.2.2.2.2.2.2.2.2.1
  have hce := hX.2.2.2.2.2.2.2.2.2.2.2.2
  have hR : (Zrm fr').frames + 1 ≤ (zR X).frames ∧ 8 + ((Zmt r1).2.2.1 + 11) + (Zrm fr').locals ≤ (zR X).locals := by
    simp only [Zrm]
    omega
  have hpre : PreS (zs X) H (va_Pc (as.map (Ztr (zad X))) (fun U => U.heap.size = H.size ∧ Zwd (zD X) (zad X) (zcA X) (zsc X) M U)) (as.map (Ztr (zad X))) := ⟨Zblind, fun U hU hW => ⟨rfl, by rw [hU], Zwd_at hX hP hS hU hW⟩⟩
  have hM := hC (zl X) (zD X) (zad X) (zcA X) (zsc X) H.size
  subst hst
  rw [List.map_append, List.map_reverse]
  refine Zbehind hX hS (rest := rest.map (Ztr (zad X))) (Post' := Post') (a := (as.map (Ztr (zad X))).toArray) ?_ (fun r M' H1 locs1 hri hp hP1 hS1 => ?_)
  · rcases (show r2 = 0 ∨ r2 = 1 by omega) with rfl | rfl
    · exact va_runS (As := as.map (Ztr (zad X))) ⟨hX.1, rfl, rfl, hX.2.2.1, hX.2.2.2.1⟩ hM ⟨callB_of (Zna r1) hX.2.2.2.1 (Zgood h4) rfl rfl rfl h3 (hX.wo hsf List.mem_cons_self) ⟨h6, h7, h8⟩ hR, h2⟩ hpre rfl (by rw [List.length_map]; exact hlen) hl.1 rfl (lv_room (by rw [Zcat_tr]; exact hcat)) hd hce
    · exact va_runSN (As := as.map (Ztr (zad X))) ⟨hX.1, rfl, rfl, hX.2.2.1, hX.2.2.2.1⟩ hM ⟨va_cnB (Zna r1) hX.2.2.2.1 (Zgood h4) rfl rfl rfl (hX.wn hsf List.mem_cons_self) h3 ⟨h6, h7, h8⟩ hR, h2, trivial⟩ hpre rfl (by rw [List.length_map]; exact hlen) hl.1 rfl (lv_room (by rw [Zcat_tr]; exact hcat)) hd hce
  · have := kk r M' hp (Zsuf_tl hsf) H1 locs1 ls hP1 hS1 hl
    rw [← hx, Zri_tr hri] at this
    exact this
theorem Zs_callv {pc len r1 r2 i fr' o : Nat} {hs : List Nat} {fs : List (Nat × Nat)} {as rest : List Value} {Post' : Option Value → Zmem → Prop} (hX : ZOK X k fr tab) (hne : cs ≠ []) (hC : ZC r1 fr' (.ref o :: as) M Post') (hfr : fr' + 1 ≤ fr) (ho : o < Zno) (hsh : Zsh o = (4, r2, fs)) (hst : st = as.reverse ++ .ref o :: rest) (hlen : as.length = Zna r1) (hmt : r1 < ZmtL.length) (hcat : (rest.map fun v => v.category).sum ≤ 8)
    (kk : ∀ (r : Option Value) (M' : Zmem), Post' r M' → ZP X tab cs l (r.toList ++ rest) M') : ZP X tab ((pc, len, .invokevirtual i, r1, r2, hs) :: cs) l st M := by
  intro hsf H locs ls hP hS hl
  have hd := hX.dec hsf
  have hle : len = 3 := by have h := hX.ls hsf; simpa [Zls, Zlen] using h
  have hx := hX.nx hsf hne
  subst hle
  obtain ⟨h6, h7, h8, h5⟩ := Zmt_at hmt
  have hc := hX.ck hsf
  simp only [Zck, Bool.and_eq_true, beq_iff_eq] at hc
  obtain ⟨-, hci⟩ := hc
  have hwo : ∀ w ∈ ([.methodLink (Zmt k).1.cls i (Zmt r1).1, .instanceMethod (Zmt r1).1, .initialized (Zmt r1).1.cls, .code (Zmt r1).1 (Zmt r1).2.1 (Zmt r1).2.2.1 (Zmt r1).2.2.2, .selects (Zmt r1).1.cls (Zmt r1).1 (Zmt r1).1] : List Cond), w ∈ Ztg := fun w hw => hX.wg hsf hw
  have g : ∀ (n : Nat) (w : Cond), ([.methodLink (Zmt k).1.cls i (Zmt r1).1, .instanceMethod (Zmt r1).1, .initialized (Zmt r1).1.cls, .code (Zmt r1).1 (Zmt r1).2.1 (Zmt r1).2.2.1 (Zmt r1).2.2.2, .selects (Zmt r1).1.cls (Zmt r1).1 (Zmt r1).1] : List Cond)[n]? = some w → w.before (za X) (zs X) = true := fun n w h => hX.2.2.2.1 _ (hwo w (List.mem_of_getElem? h))
  have hfit := hX.2.2.2.2.2.2.2.2.2.2.1
  have hce := hX.2.2.2.2.2.2.2.2.2.2.2.2
  have hR : (Zrm fr').frames + 1 ≤ (zR X).frames ∧ 8 + ((Zmt r1).2.2.1 + 11) + (Zrm fr').locals ≤ (zR X).locals := by
    simp only [Zrm]
    omega
  obtain ⟨q, hq, h10⟩ := Zci_at ho hsh hmt hci
  have hrecv := va_recv hX.2.2.2.2.1 hP hq (a := zad X o) (q0 := o) (fs := Zfs (zad X) (M o) 0 fs) (by rw [Zws_at ho, hsh]; rfl)
  rw [h10] at hrecv
  have hpre : PreV (zs X) H (Zmt r1).1.cls (zad X o) (va_Pc ((Value.ref o :: as).map (Ztr (zad X))) (fun U => U.heap.size = H.size ∧ Zwd (zD X) (zad X) (zcA X) (zsc X) M U)) (as.map (Ztr (zad X))) := ⟨Zblind, hrecv, fun U hU hW => ⟨rfl, by rw [hU], Zwd_at hX hP hS hU hW⟩⟩
  have hM := hC (zl X) (zD X) (zad X) (zcA X) (zsc X) H.size
  subst hst
  rw [List.map_append, List.map_reverse, List.map_cons]
  refine Zbehind hX hS (rest := rest.map (Ztr (zad X))) (Post' := Post') (a := (Value.ref (zad X o) :: as.map (Ztr (zad X))).toArray) ?_ (fun r M' H1 locs1 hri hp hP1 hS1 => ?_)
  · exact va_runV (As := as.map (Ztr (zad X))) (C := (Zmt r1).1.cls) ⟨hX.1, rfl, rfl, hX.2.2.1, hX.2.2.2.1⟩ hM ⟨callB_of (Zna r1) hX.2.2.2.1 (Zgood (hwo _ (List.mem_of_getElem? (i := 3) rfl))) rfl rfl rfl (g 2 _ rfl) (g 0 _ rfl) ⟨h6, h7, h8⟩ hR, g 1 _ rfl, g 4 _ rfl⟩ hpre rfl (by rw [List.length_map]; exact hlen) hl.1 rfl (lv_room (by rw [Zcat_tr]; exact hcat)) hd hce
  · have := kk r M' hp (Zsuf_tl hsf) H1 locs1 ls hP1 hS1 hl
    rw [← hx, Zri_tr hri] at this
    exact this
/-- System.arraycopy from a row of numbers to another one -/
theorem Zs_copy {pc len r1 i a n0 n1 o0 o1 : Nat} {hs : List Nat} {z0 z1 : List (Nat × Nat)} {sp dp n : Int32} (hX : ZOK X k fr tab) (hne : cs ≠ []) (hfr : 1 ≤ fr) (h0 : o0 < Zno) (h1 : o1 < Zno) (ha : a = 0 ∨ a = 1) (hs0 : Zsh o0 = (a, n0, z0)) (hs1 : Zsh o1 = (a, n1, z1)) (hsp : ¬ sp < 0) (hdp : ¬ dp < 0) (hn : ¬ n < 0) (hn0 : sp.toNatClampNeg + n.toNatClampNeg ≤ n0) (hn1 : dp.toNatClampNeg + n.toNatClampNeg ≤ n1)
    (hby : a = 1 → ∀ j, j < n.toNatClampNeg → fits .byte (.int (M o0 (sp.toNatClampNeg + j))) = true) (hrest : (st.map fun v => v.category).sum ≤ 8)
    (kk : ZP X tab cs l st (fun q => if q = o1 then va_cpy (M o0) (M o1) sp.toNatClampNeg dp.toNatClampNeg n.toNatClampNeg else M q)) : ZP X tab ((pc, len, .invokestatic i, r1, 2, hs) :: cs) l (.int n :: .int dp :: .ref o1 :: .int sp :: .ref o0 :: st) M := by
  intro hsf H locs ls hP hS hl
  have hd := hX.dec hsf
  have hle : len = 3 := by have h := hX.ls hsf; simpa [Zls, Zlen] using h
  have hx := hX.nx hsf hne
  subst hle
  have g : ∀ (n : Nat) (w : Cond), ([.methodLink (Zmt k).1.cls i arraycopyName, .native arraycopyName, .static arraycopyName, .initialized "java/lang/System"] : List Cond)[n]? = some w → w.before (za X) (zs X) = true := fun n w h => hX.wo hsf (List.mem_of_getElem? h)
  have hfit := hX.2.2.2.2.2.2.2.2.2.2.1
  have hset : ∀ e, e = Zce (zad X) (zcA X) (va_cpy (M o0) (M o1) sp.toNatClampNeg dp.toNatClampNeg n.toNatClampNeg) (Zsh o1) → (Zws (zad X) (zcA X) M).set o1 (zad X o1, e) = Zws (zad X) (zcA X) (fun q => if q = o1 then va_cpy (M o0) (M o1) sp.toNatClampNeg dp.toNatClampNeg n.toNatClampNeg else M q) := by
    intro e he
    apply List.ext_getElem?
    intro j
    rw [List.getElem?_set]
    by_cases hj : o1 = j
    · subst hj
      rw [if_pos rfl, if_pos (by simpa [Zws] using h1), Zws_at h1, he]
      simp
    · rw [if_neg hj]
      by_cases hl : j < Zno
      · rw [Zws_at hl, Zws_at hl, if_neg (fun q => hj q.symm)]
      · simp [Zws, hl]
  have fin : ∀ (H1 : Heap) (locs1 : List Loc), va_P (zD X) Zcl ((Zws (zad X) (zcA X) M).set o1 (zad X o1, Zce (zad X) (zcA X) (va_cpy (M o0) (M o1) sp.toNatClampNeg dp.toNatClampNeg n.toNatClampNeg) (Zsh o1))) H1 → va_S (zA X) (zs X).heap H1 locs1 → ZW X H1 locs1 (F0 (zm X) (pc + 3) ls (st.map (Ztr (zad X)))) := by
    intro H1 locs1 hP1 hS1
    have := kk (Zsuf_tl hsf) H1 locs1 ls (by unfold Zpic; rw [← hset _ rfl]; exact hP1) hS1 hl
    rw [← hx] at this
    exact this
  have hroom : ((st.map (Ztr (zad X))).map fun v => v.category).sum + (nativeFrameWords "java/lang/System" "arraycopy" 5 + 11) ≤ (zR X).locals := by
    rw [Zcat_tr]
    have : nativeFrameWords "java/lang/System" "arraycopy" 5 + 11 ≤ 32 := by decide +kernel
    omega
  rcases ha with rfl | rfl
  · refine va_copyi hX.1 rfl hl.1.symm hX.2.2.1 (g 0 _ rfl) (g 1 _ rfl) (g 2 _ rfl) (g 3 _ rfl) hX.2.2.2.2.1 hP (hX.D M) hS o0 o1 0 0 (c0 := zcA X 0) (c1 := zcA X 0) (n0 := n0) (n1 := n1) (f := M o0) (g := M o1) (ty := .int) (by rw [Zws_at h0, hs0]; rfl) (by rw [Zws_at h1, hs1]; rfl) rfl rfl rfl hsp hdp hn hn0 hn1 (fun j _ => rfl) (by omega) hroom hd (fun H1 locs1 hP1 _ hS1 => fin H1 locs1 ?_ hS1)
    rw [hs1]
    exact hP1
  · refine va_copyi hX.1 rfl hl.1.symm hX.2.2.1 (g 0 _ rfl) (g 1 _ rfl) (g 2 _ rfl) (g 3 _ rfl) hX.2.2.2.2.1 hP (hX.D M) hS o0 o1 1 1 (c0 := zcA X 1) (c1 := zcA X 1) (n0 := n0) (n1 := n1) (f := M o0) (g := M o1) (ty := .byte) (by rw [Zws_at h0, hs0]; rfl) (by rw [Zws_at h1, hs1]; rfl) rfl rfl rfl hsp hdp hn hn0 hn1 (hby rfl) (by omega) hroom hd (fun H1 locs1 hP1 _ hS1 => fin H1 locs1 ?_ hS1)
    rw [hs1]
    exact hP1
-- locals forgotten
theorem Zs_sub {l' : List (Nat × Value)} (h0 : l'.map (fun q => Zget l q.1) = l'.map (fun q => some q.2)) (kk : ZP X tab cs l' st M) : ZP X tab cs l st M := by
  intro hsf H locs ls hP hS hl
  refine kk hsf H locs ls hP hS ⟨hl.1, hl.2.1, fun q hq => ?_⟩
  obtain ⟨p, hp, rfl⟩ := List.mem_map.mp hq
  exact hl.2.2 _ (List.mem_map.mpr ⟨p, Zget_in (List.map_inj_left.mp h0 p hp), rfl⟩)
end ZR

-- returns
def ZE (X : Zx) (k : Nat) (Post : Option Value → Zmem → Prop) : Prop :=
  (∀ (v : Int32) (M' : Zmem), ((Zmt k).2.2.2 = some .int ∨ ((Zmt k).2.2.2 = some .boolean ∧ (v = 0 ∨ v = 1))) → Post (some (.int v)) M' → ∀ (pc : Nat) (H : Heap) (locs : List Loc) (ls : Array Slot), decode (zc X).code pc = .ok (.ireturn, 1) → Zpic X M' H → va_S (zA X) (zs X).heap H locs → ZW X H locs (F0 (zm X) pc ls [.int v])) ∧
  ((Zmt k).2.2.2 = none → ∀ M' : Zmem, Post none M' → ∀ (pc : Nat) (H : Heap) (locs : List Loc) (ls : Array Slot), decode (zc X).code pc = .ok (.return_, 1) → Zpic X M' H → va_S (zA X) (zs X).heap H locs → ZW X H locs (F0 (zm X) pc ls []))
section ZRR
variable {X : Zx} {k fr : Nat} {tab cs : List Zent} {l : List (Nat × Value)} {M : Zmem} {Post : Option Value → Zmem → Prop} {pc len r1 r2 : Nat} {hs : List Nat}
theorem Zs_ret {v : Int32} (hX : ZOK X k fr tab) (hE : ZE X k Post) (hr : (Zmt k).2.2.2 = some .int) (hp : Post (some (.int v)) M) : ZP X tab ((pc, len, .ireturn, r1, r2, hs) :: cs) l [.int v] M := by
  intro hsf H locs ls hP hS hl
  have hd := hX.dec hsf
  have hle : len = 1 := by have h := hX.ls hsf; simpa [Zls, Zlen] using h
  subst hle
  exact hE.1 v M (Or.inl hr) hp pc H locs ls hd hP hS
theorem Zs_retz {v : Int32} (hX : ZOK X k fr tab) (hE : ZE X k Post) (hr : (Zmt k).2.2.2 = some .boolean) (hv : v = 0 ∨ v = 1) (hp : Post (some (.int v)) M) : ZP X tab ((pc, len, .ireturn, r1, r2, hs) :: cs) l [.int v] M := by
  intro hsf H locs ls hP hS hl
  have hd := hX.dec hsf
  have hle : len = 1 := by have h := hX.ls hsf; simpa [Zls, Zlen] using h
  subst hle
  exact hE.1 v M (Or.inr ⟨hr, hv⟩) hp pc H locs ls hd hP hS
theorem Zs_retv (hX : ZOK X k fr tab) (hE : ZE X k Post) (hr : (Zmt k).2.2.2 = none) (hp : Post none M) : ZP X tab ((pc, len, .return_, r1, r2, hs) :: cs) l [] M := by
  intro hsf H locs ls hP hS hl
  have hd := hX.dec hsf
  have hle : len = 1 := by have h := hX.ls hsf; simpa [Zls, Zlen] using h
  subst hle
  exact hE.2 hr M hp pc H locs ls hd hP hS
end ZRR
theorem Zargs_tr (ad : Nat → Nat) : ∀ (as : List Value) (n : Nat), lv_args n (as.map (Ztr ad)) = (lv_args n as).map (Zl ad) := by
  intro as
  induction as with
  | nil => intro n; rfl
  | cons a as ih =>
    intro n
    simp only [List.map_cons, lv_args, Ztr_cat, ih, Zl]
theorem Zsl_tr (ad : Nat → Nat) : ∀ as : List Value, (lg_sl (as.map (Ztr ad))).length = (lg_sl as).length := by
  intro as
  induction as with
  | nil => rfl
  | cons a as ih =>
    cases a <;> simp_all [lg_sl, Ztr, Value.category]
theorem Zmet {l : Launch} {y : MethodName} {ws ws' : List Cond} {rm : Room} {Pc : Array Value → State → Prop} {Qc : Array Value → State → Outcome → State → Prop} {mc ms : Nat} {free : Addr → Prop} {cc : ByteArray} {maxL : Nat} {ret : Option FieldType}
    (hy : plainFor y = true) (hw : ws = Cond.code y cc maxL ret :: ws')
    (body : ∀ p e s m args below meth c s₁, BodyLoose p l y (headSpec ws rm) cc maxL ret e s m args below meth c s₁ → c.maxLocals = maxL → Pc args s →
      W p l e (headSpec ws rm).room s m args below meth c s.heap [] 0 0 (MQ below Qc args s mc ms free) (entryFrame m args maxL)) : Met l y ws rm Pc Qc mc ms free := by
  refine MetFree.of_bodyRF (code := cc) (maxLocals := maxL) (ret := ret) hy ?_ ?_
  · intro args s m h hn
    obtain ⟨meth, c, h1, h2, h3, h4, h5, h6, -, -⟩ := Cond.code_spec hn (atoms_spec (ws := ws) h _ (by rw [hw]; exact List.mem_cons_self))
    exact ⟨meth, c, h1, h2, h3, h4, h5, h6⟩
  · intro p e s m args below meth c s₁ B hml hP _ hst
    have hh0 : s₁.heap = s.heap := by rw [B.state]; rfl
    obtain ⟨t, a1, o, b1, b2, b3⟩ := body p e s m args below meth c s₁ B hml hP s₁ hh0 (Stand.of_body B)
    exact ⟨t, o, hst.trans a1, b1, b2, ⟨b3.1, b3.2⟩⟩
theorem ZmtP_ok : ∀ k, k < ZmtL.length → plainFor (Zmt k).1 = true := by decide +kernel
theorem ZC_of {k fr : Nat} {as : List Value} {M : Zmem} {Post : Option Value → Zmem → Prop} (tab : List Zent) (hk : Zchk k tab) (hsl : (lg_sl as).length ≤ (Zmt k).2.2.1) (hpl : k < ZmtL.length) (hpc : Zpc tab = 0)
    (h : ∀ X : Zx, ZOK X k fr tab → ZE X k Post → ZP X tab tab (lv_args 0 as) [] M) : ZC k fr as M Post := by
  intro l D ad cA sc sz
  refine Zmet (cc := (Zmt k).2.1) (maxL := (Zmt k).2.2.1) (ret := (Zmt k).2.2.2) (ZmtP_ok k hpl) rfl ?_
  intro p e s m args below meth c s₁ B hml hv
  obtain ⟨rfl, hsz, hP, hK, hi, ⟨ho, hz⟩, hn⟩ := hv
  have hts := atoms_spec (ws := .code (Zmt k).1 (Zmt k).2.1 (Zmt k).2.2.1 (Zmt k).2.2.2 :: Ztg) B.pre
  have hown : s.vm.findClass (Zmt k).1.cls = some m.cls := findClass_of_methodNamed B.named
  have hlocks := B.notSynchronized
  have hr := B.returns
  have key := h (p, l, e, Zrm fr, s, m, (as.map (Ztr ad)).toArray, below, meth, c, D, ad, cA, ZAA ad sz, sc, 0, 0, MQ below (ZQF D ad cA Post (ZAA ad sz)) (as.map (Ztr ad)).toArray s 0 0 (ZAA ad sz)) ?_ ?_
  · have hl := lv_entry (as.map (Ztr ad)) (n := (Zmt k).2.2.1) (by rw [Zsl_tr]; exact hsl)
    rw [lg_entry_eq]
    have h2 := key ⟨[], rfl⟩ s.heap [] _ hP va_S.rf (by rw [← Zargs_tr]; show lv_has _ c.maxLocals _; rw [hml]; exact hl)
    rw [hpc] at h2
    exact h2
  · refine ⟨B.exec, B.bytes, hown, fun w hw => hts w (List.mem_cons_of_mem _ hw), hK, ⟨hi, fun i h => Or.inl ⟨i, h, rfl⟩⟩, fun q hq => Or.inr (by rw [← hsz]; exact hq), ⟨fun o q hq => ?_, fun o q hq => ?_⟩, hn, hk, ⟨Nat.le_refl _, Nat.le_refl _⟩, hml, ⟨Nat.le_refl _, Nat.le_refl _⟩⟩
    · obtain ⟨h1, h2⟩ := ho o q hq
      refine ⟨h1, ?_⟩
      rintro (h3 | h3)
      · exact h2 h3
      · have := h1.lt
        rw [hsz] at this
        exact absurd h3 (Nat.not_le.mpr this)
    · obtain ⟨cf, kf, fi, f, a, cell, h1, h2, h3, h4, h5, h6, h7, h8⟩ := hz o q hq
      refine ⟨cf, kf, fi, f, a, cell, h1, h2, h3, h4, h5, h6, h7, ?_⟩
      rintro (h9 | h9)
      · exact h8 h9
      · have := (Array.getElem?_eq_some_iff.mp h5).1
        rw [hsz] at this
        exact absurd h9 (Nat.not_le.mpr this)
  · refine ⟨fun v M' hret hp pc H locs ls hd hP hS => ?_, fun hret M' hp pc H locs ls hd hP hS => ?_⟩
    · have hq : ∀ t : State, t.heap = H → s.WarmedH t.vm → ZQF D ad cA Post (ZAA ad sz) (as.map (Ztr ad)).toArray s (.returned (some (.int v))) t := fun t ht hW => ⟨⟨some (.int v), M', rfl, Or.inr ⟨v, rfl⟩, hp, by rw [ht]; exact hP⟩, hS.F ht⟩
      rcases hret with hret | ⟨hret, hv⟩
      · exact W.iret (v := v) B.exec rfl (by show meth.sig.returnType = _; rw [hr, hret]) hq hS.2.2 hd hlocks
      · exact W.zret (v := v) (ty := .boolean) B.exec rfl (by show meth.sig.returnType = _; rw [hr, hret]) (by rcases hv with rfl | rfl <;> rfl) hq hS.2.2 hd hlocks
    · exact W.vret B.exec rfl (by show meth.sig.returnType = _; rw [hr, hret]) (fun t ht hW => ⟨⟨none, M', rfl, Or.inl rfl, hp, by rw [ht]; exact hP⟩, hS.F ht⟩) hS.2.2 hd hlocks
-- many straight instructions at once
def Zpk (r1 r2 : Nat) (l : List (Nat × Value)) (st : List Value) (M : Zmem) : Option (Option Prop × List (Nat × Value) × List Value × Zmem) := match r2 with
  | 0 => some (none, l, .int (nI r1) :: st, M)
  | _ => some (none, l, .int (-(nI r1)) :: st, M)
def Zld (r1 : Nat) (l : List (Nat × Value)) (st : List Value) (M : Zmem) : Option (Option Prop × List (Nat × Value) × List Value × Zmem) := match Zget l r1 with
  | some (.int x) => some (none, l, .int x :: st, M)
  | _ => none
def Zla (r1 : Nat) (l : List (Nat × Value)) (st : List Value) (M : Zmem) : Option (Option Prop × List (Nat × Value) × List Value × Zmem) := match Zget l r1 with
  | some (.ref o) => some (none, l, .ref o :: st, M)
  | _ => none
def Zsi (r1 : Nat) (l : List (Nat × Value)) (st : List Value) (M : Zmem) : Option (Option Prop × List (Nat × Value) × List Value × Zmem) := match st with
  | .int x :: st => some (none, Zset l r1 (.int x), st, M)
  | _ => none
def Zsa (r1 : Nat) (l : List (Nat × Value)) (st : List Value) (M : Zmem) : Option (Option Prop × List (Nat × Value) × List Value × Zmem) := match st with
  | .ref x :: st => some (none, Zset l r1 (.ref x), st, M)
  | _ => none
def Znth {α : Type} : List α → Nat → Option α
  | [], _ => none
  | a :: _, 0 => some a
  | _ :: r, n + 1 => Znth r n
theorem Znth_eq {α : Type} : ∀ (l : List α) (n : Nat), Znth l n = l[n]? := by
  intro l
  induction l with
  | nil => intro n; cases n <;> rfl
  | cons a r ih => intro n; cases n with
    | zero => rfl
    | succ n => simp [Znth, ih]
def Zgf (r1 r2 : Nat) (l : List (Nat × Value)) (st : List Value) (M : Zmem) : Option (Option Prop × List (Nat × Value) × List Value × Zmem) := match st with
  | .ref o :: st => (match Nat.blt o Zno, Zsh o with
    | true, (4, ci, fs) => (match Nat.beq ci r1, Znth fs r2 with
      | true, some (0, _) => some (none, l, .int (M o r2) :: st, M)
      | true, some (1, _) => some (none, l, .int (M o r2) :: st, M)
      | true, some (2, j) => some (none, l, .ref j :: st, M)
      | _, _ => none)
    | _, _ => none)
  | _ => none
def Zpf (r1 r2 : Nat) (l : List (Nat × Value)) (st : List Value) (M : Zmem) : Option (Option Prop × List (Nat × Value) × List Value × Zmem) := match st with
  | .int x :: .ref o :: st => (match Nat.blt o Zno, Zsh o with
    | true, (4, ci, fs) => (match Nat.beq ci r1, Znth fs r2 with
      | true, some (0, _) => some (none, l, st, Zu M o r2 x)
      | true, some (1, _) => some (some (x = nI 0 ∨ x = nI 1), l, st, Zu M o r2 x)
      | _, _ => none)
    | _, _ => none)
  | _ => none
def Zal (t : FieldType) (sc : Nat × (Nat → Int32)) (l : List (Nat × Value)) (st : List Value) (M : Zmem) : Option (Option Prop × List (Nat × Value) × List Value × Zmem) := match st with
  | .int i :: .ref o :: st => (match t, Zar sc M o with
    | .int, some (.int, n, f) => some (some (vp_in i n), l, .int (f i.toNatClampNeg) :: st, M)
    | .byte, some (.byte, n, f) => (match Nat.blt o Zno with
      | true => some (some (vp_in i n), l, .int (f i.toNatClampNeg) :: st, M)
      | false => none)
    | .char, some (.char, n, f) => (match Nat.blt o Zno with
      | false => some (some (vp_in i n), l, .int (f i.toNatClampNeg) :: st, M)
      | true => none)
    | _, _ => none)
  | _ => none
def Zas (b : Bool) (l : List (Nat × Value)) (st : List Value) (M : Zmem) : Option (Option Prop × List (Nat × Value) × List Value × Zmem) := match st with
  | .int x :: .int i :: .ref o :: st => (match b, Nat.blt o Zno, Zsh o with
    | true, true, (0, n, _) => some (some (vp_in i n), l, st, Zu M o i.toNatClampNeg x)
    | false, true, (1, n, _) => some (some (vp_in i n), l, st, Zu M o i.toNatClampNeg (vp_nar .byte x))
    | _, _, _ => none)
  | _ => none
def Zpst (sc : Nat × (Nat → Int32)) (e : Zent) (l : List (Nat × Value)) (st : List Value) (M : Zmem) : Option (Option Prop × List (Nat × Value) × List Value × Zmem) := match e with
  | (_, _, ins, r1, r2, hs) => (match ins with
    | .iconst _ => Zpk r1 r2 l st M
    | .bipush _ => Zpk r1 r2 l st M
    | .sipush _ => Zpk r1 r2 l st M
    | .ldc _ => Zpk r1 r2 l st M
    | .ldc_w _ => Zpk r1 r2 l st M
    | .ldc2_w _ => some (none, l, .long (lN r1) :: st, M)
    | .iload _ => Zld r1 l st M
    | .iload_n _ => Zld r1 l st M
    | .aload _ => Zla r1 l st M
    | .aload_n _ => Zla r1 l st M
    | .lload_n _ => (match Zget l r1 with
      | some (.long x) => some (none, l, .long x :: st, M)
      | _ => none)
    | .istore _ => Zsi r1 l st M
    | .istore_n _ => Zsi r1 l st M
    | .astore _ => Zsa r1 l st M
    | .astore_n _ => Zsa r1 l st M
    | .iinc i _ => (match hs, r2 with
      | [j], 0 => (match Nat.beq i j, Zget l j with
        | true, some (.int x) => some (none, Zset l j (.int (x + nI r1)), st, M)
        | _, _ => none)
      | [j], 1 => (match Nat.beq i j, Zget l j with
        | true, some (.int x) => some (none, Zset l j (.int (x + -(nI r1))), st, M)
        | _, _ => none)
      | _, _ => none)
    | .iadd => (match st with
      | .int y :: .int x :: st => some (none, l, .int (x + y) :: st, M)
      | _ => none)
    | .isub => (match st with
      | .int y :: .int x :: st => some (none, l, .int (x - y) :: st, M)
      | _ => none)
    | .imul => (match st with
      | .int y :: .int x :: st => some (none, l, .int (x * y) :: st, M)
      | _ => none)
    | .iand => (match st with
      | .int y :: .int x :: st => some (none, l, .int (x &&& y) :: st, M)
      | _ => none)
    | .ior => (match st with
      | .int y :: .int x :: st => some (none, l, .int (x ||| y) :: st, M)
      | _ => none)
    | .ixor => (match st with
      | .int y :: .int x :: st => some (none, l, .int (x ^^^ y) :: st, M)
      | _ => none)
    | .ishl => (match st with
      | .int y :: .int x :: st => some (none, l, .int (x <<< (y &&& 31)) :: st, M)
      | _ => none)
    | .ishr => (match st with
      | .int y :: .int x :: st => some (none, l, .int (x >>> (y &&& 31)) :: st, M)
      | _ => none)
    | .iushr => (match st with
      | .int y :: .int x :: st => some (none, l, .int ((x.toUInt32 >>> (y.toUInt32 &&& Int32.toUInt32 31)).toInt32) :: st, M)
      | _ => none)
    | .idiv => (match st with
      | .int y :: .int x :: st => some (some (¬ y = nI 0), l, .int (x / y) :: st, M)
      | _ => none)
    | .irem => (match st with
      | .int y :: .int x :: st => some (some (¬ y = nI 0), l, .int (x - x / y * y) :: st, M)
      | _ => none)
    | .ineg => (match st with
      | .int x :: st => some (none, l, .int (-x) :: st, M)
      | _ => none)
    | .i2b => (match st with
      | .int x :: st => some (none, l, .int x.toInt8.toInt32 :: st, M)
      | _ => none)
    | .i2s => (match st with
      | .int x :: st => some (none, l, .int x.toInt16.toInt32 :: st, M)
      | _ => none)
    | .i2l => (match st with
      | .int x :: st => some (none, l, .long x.toInt64 :: st, M)
      | _ => none)
    | .l2i => (match st with
      | .long x :: st => some (none, l, .int x.toInt32 :: st, M)
      | _ => none)
    | .land => (match st with
      | .long y :: .long x :: st => some (none, l, .long (x &&& y) :: st, M)
      | _ => none)
    | .lor => (match st with
      | .long y :: .long x :: st => some (none, l, .long (x ||| y) :: st, M)
      | _ => none)
    | .lshl => (match st with
      | .int y :: .long x :: st => some (none, l, .long (x <<< (y.toInt64 &&& 63)) :: st, M)
      | _ => none)
    | .lshr => (match st with
      | .int y :: .long x :: st => some (none, l, .long (x >>> (y.toInt64 &&& 63)) :: st, M)
      | _ => none)
    | .lushr => (match st with
      | .int y :: .long x :: st => some (none, l, .long (x.toUInt64 >>> (y.toInt64.toUInt64 &&& Int64.toUInt64 63)).toInt64 :: st, M)
      | _ => none)
    | .dup => (match st with
      | v :: st => (match Zone v with
        | true => some (none, l, v :: v :: st, M)
        | false => none)
      | _ => none)
    | .dup2 => (match st with
      | v :: w :: st => (match Zone v, Zone w with
        | true, true => some (none, l, v :: w :: v :: w :: st, M)
        | _, _ => none)
      | _ => none)
    | .pop => (match st with
      | v :: st => (match Zone v with
        | true => some (none, l, st, M)
        | false => none)
      | _ => none)
    | .getfield _ => Zgf r1 r2 l st M
    | .putfield _ => Zpf r1 r2 l st M
    | .iaload => Zal .int sc l st M
    | .baload => Zal .byte sc l st M
    | .caload => Zal .char sc l st M
    | .iastore => Zas true l st M
    | .bastore => Zas false l st M
    | .arraylength => (match st with
      | .ref o :: st => (match Zar sc M o with
        | some (_, n, _) => some (none, l, .int (nI n) :: st, M)
        | none => none)
      | _ => none)
    | .getstatic _ => (match ZstL r1 with
      | some _ => some (none, l, .ref r1 :: st, M)
      | none => none)
    | .ifnull _ => (match st with
      | .ref _ :: st => some (none, l, st, M)
      | _ => none)
    | _ => none)
def Zop : Option Prop → Prop
  | none => True
  | some P => P
section ZT
variable {X : Zx} {k fr : Nat} {tab cs : List Zent} {l l' : List (Nat × Value)} {st st' : List Value} {M M' : Zmem} {pc len r1 r2 : Nat} {hs : List Nat} {ins : Instr} {P : Option Prop}
theorem Zpk_ok (hX : ZOK X k fr tab) (hne : cs ≠ []) (hi : (∃ n, ins = .iconst n) ∨ (∃ n, ins = .bipush n) ∨ (∃ n, ins = .sipush n) ∨ (∃ n, ins = .ldc n) ∨ ∃ n, ins = .ldc_w n) (h : Zpk r1 r2 l st M = some (P, l', st', M')) (kk : ZP X tab cs l' st' M') : ZP X tab ((pc, len, ins, r1, r2, hs) :: cs) l st M := by
  unfold Zpk at h
  split at h <;> simp only [Option.some.injEq, Prod.mk.injEq] at h <;> obtain ⟨-, rfl, rfl, rfl⟩ := h
  · exact Zs_const hX hne rfl hi kk
  · refine Zs_const hX hne ?_ hi kk
    cases r2 with
    | zero => contradiction
    | succ n => rfl
theorem Zld_ok (hX : ZOK X k fr tab) (hne : cs ≠ []) (hi : (∃ n, ins = .iload n) ∨ ∃ n, ins = .iload_n n) (h : Zld r1 l st M = some (P, l', st', M')) (kk : ZP X tab cs l' st' M') : ZP X tab ((pc, len, ins, r1, r2, hs) :: cs) l st M := by
  unfold Zld at h
  split at h
  · rename_i x hg
    simp only [Option.some.injEq, Prod.mk.injEq] at h
    obtain ⟨-, rfl, rfl, rfl⟩ := h
    exact Zs_iload hX hne hi hg kk
  · cases h
theorem Zla_ok (hX : ZOK X k fr tab) (hne : cs ≠ []) (hi : (∃ n, ins = .aload n) ∨ ∃ n, ins = .aload_n n) (h : Zla r1 l st M = some (P, l', st', M')) (kk : ZP X tab cs l' st' M') : ZP X tab ((pc, len, ins, r1, r2, hs) :: cs) l st M := by
  unfold Zla at h
  split at h
  · rename_i x hg
    simp only [Option.some.injEq, Prod.mk.injEq] at h
    obtain ⟨-, rfl, rfl, rfl⟩ := h
    exact Zs_aload hX hne hi hg kk
  · cases h
theorem Zsi_ok (hX : ZOK X k fr tab) (hne : cs ≠ []) (hi : (∃ n, ins = .istore n) ∨ ∃ n, ins = .istore_n n) (h : Zsi r1 l st M = some (P, l', st', M')) (kk : ZP X tab cs l' st' M') : ZP X tab ((pc, len, ins, r1, r2, hs) :: cs) l st M := by
  unfold Zsi at h
  split at h
  · simp only [Option.some.injEq, Prod.mk.injEq] at h
    obtain ⟨-, rfl, rfl, rfl⟩ := h
    exact Zs_istore hX hne hi kk
  · cases h
theorem Zsa_ok (hX : ZOK X k fr tab) (hne : cs ≠ []) (hi : (∃ n, ins = .astore n) ∨ ∃ n, ins = .astore_n n) (h : Zsa r1 l st M = some (P, l', st', M')) (kk : ZP X tab cs l' st' M') : ZP X tab ((pc, len, ins, r1, r2, hs) :: cs) l st M := by
  unfold Zsa at h
  split at h
  · simp only [Option.some.injEq, Prod.mk.injEq] at h
    obtain ⟨-, rfl, rfl, rfl⟩ := h
    exact Zs_astore hX hne hi kk
  · cases h
theorem Zblt {a b : Nat} (h : Nat.blt a b = true) : a < b := by rw [Nat.blt_eq] at h; exact h
theorem Zblf {a b : Nat} (h : Nat.blt a b = false) : ¬ a < b := fun q => by
  have : Nat.blt a b = true := by rw [Nat.blt_eq]; exact q
  rw [h] at this
  cases this
theorem Zgf_ok {i : Nat} (hX : ZOK X k fr tab) (hne : cs ≠ []) (h : Zgf r1 r2 l st M = some (P, l', st', M')) (kk : ZP X tab cs l' st' M') : ZP X tab ((pc, len, .getfield i, r1, r2, hs) :: cs) l st M := by
  unfold Zgf at h
  split at h
  · rename_i o st
    split at h
    · rename_i ci fs hb hsh
      split at h
      · rename_i h1 h2
        simp only [Option.some.injEq, Prod.mk.injEq] at h
        obtain ⟨-, rfl, rfl, rfl⟩ := h
        have e := Nat.eq_of_beq_eq_true h1
        subst e
        exact Zs_getf hX hne (Zblt hb) hsh (by rw [← Znth_eq]; exact h2) rfl kk
      · rename_i h1 h2
        simp only [Option.some.injEq, Prod.mk.injEq] at h
        obtain ⟨-, rfl, rfl, rfl⟩ := h
        have e := Nat.eq_of_beq_eq_true h1
        subst e
        exact Zs_getf hX hne (Zblt hb) hsh (by rw [← Znth_eq]; exact h2) rfl kk
      · rename_i h1 h2
        simp only [Option.some.injEq, Prod.mk.injEq] at h
        obtain ⟨-, rfl, rfl, rfl⟩ := h
        have e := Nat.eq_of_beq_eq_true h1
        subst e
        exact Zs_getf hX hne (Zblt hb) hsh (by rw [← Znth_eq]; exact h2) rfl kk
      · cases h
    · cases h
  · cases h
theorem Zpf_ok {i : Nat} (hX : ZOK X k fr tab) (hne : cs ≠ []) (h : Zpf r1 r2 l st M = some (P, l', st', M')) (hP : Zop P) (kk : ZP X tab cs l' st' M') : ZP X tab ((pc, len, .putfield i, r1, r2, hs) :: cs) l st M := by
  unfold Zpf at h
  split at h
  · rename_i x o st
    split at h
    · rename_i ci fs hb hsh
      split at h
      · rename_i h1 h2
        simp only [Option.some.injEq, Prod.mk.injEq] at h
        obtain ⟨-, rfl, rfl, rfl⟩ := h
        have e := Nat.eq_of_beq_eq_true h1
        subst e
        rw [Znth_eq] at h2
        exact Zs_putf hX hne (Zblt hb) hsh h2 rfl (fun q hq => ⟨.int, by rw [Zsh_ty (Zblt hb) hsh h2 hq rfl]; rfl, rfl, rfl⟩) kk
      · rename_i h1 h2
        simp only [Option.some.injEq, Prod.mk.injEq] at h
        obtain ⟨rfl, rfl, rfl, rfl⟩ := h
        have e := Nat.eq_of_beq_eq_true h1
        subst e
        rw [Znth_eq] at h2
        refine Zs_putf hX hne (Zblt hb) hsh h2 rfl (fun q hq => ⟨.boolean, by rw [Zsh_tz (Zblt hb) hsh h2 hq rfl]; rfl, ?_⟩) kk
        rcases hP with rfl | rfl <;> exact ⟨rfl, rfl⟩
      · cases h
    · cases h
  · cases h
theorem Zal_ok {t : FieldType} (hX : ZOK X k fr tab) (hne : cs ≠ []) (hi : (ins = .iaload ∧ t = .int) ∨ (ins = .baload ∧ t = .byte) ∨ (ins = .caload ∧ t = .char)) (h : Zal t (zsc X) l st M = some (P, l', st', M')) (hP : Zop P) (kk : ZP X tab cs l' st' M') : ZP X tab ((pc, len, ins, r1, r2, hs) :: cs) l st M := by
  unfold Zal at h
  split at h
  · rename_i i o st
    rcases hi with ⟨rfl, rfl⟩ | ⟨rfl, rfl⟩ | ⟨rfl, rfl⟩
    · try simp only [] at h
      split at h
      · rename_i ha
        simp only [Option.some.injEq, Prod.mk.injEq] at h
        obtain ⟨rfl, rfl, rfl, rfl⟩ := h
        exact Zs_iald hX hne ha hP kk
      · contradiction
      · contradiction
      · cases h
    · split at h
      · contradiction
      · rename_i ha
        split at h
        · rename_i hb
          simp only [Option.some.injEq, Prod.mk.injEq] at h
          obtain ⟨rfl, rfl, rfl, rfl⟩ := h
          exact Zs_bald hX hne (Zblt hb) ha hP kk
        · cases h
      · contradiction
      · cases h
    · split at h
      · contradiction
      · contradiction
      · rename_i ha
        split at h
        · rename_i hb
          simp only [Option.some.injEq, Prod.mk.injEq] at h
          obtain ⟨rfl, rfl, rfl, rfl⟩ := h
          exact Zs_cald hX hne (Zblf hb) ha hP kk
        · cases h
      · cases h
  · cases h
theorem Zas_ok {b : Bool} (hX : ZOK X k fr tab) (hne : cs ≠ []) (hi : (ins = .iastore ∧ b = true) ∨ (ins = .bastore ∧ b = false)) (h : Zas b l st M = some (P, l', st', M')) (hP : Zop P) (kk : ZP X tab cs l' st' M') : ZP X tab ((pc, len, ins, r1, r2, hs) :: cs) l st M := by
  unfold Zas at h
  split at h
  · rename_i x i o st
    split at h
    · rename_i hb hsh
      simp only [Option.some.injEq, Prod.mk.injEq] at h
      obtain ⟨rfl, rfl, rfl, rfl⟩ := h
      rcases hi with ⟨rfl, hi⟩ | ⟨rfl, hi⟩
      · exact Zs_iast hX hne (Zblt hb) hsh hP kk
      · cases hi
    · rename_i hb hsh
      simp only [Option.some.injEq, Prod.mk.injEq] at h
      obtain ⟨rfl, rfl, rfl, rfl⟩ := h
      rcases hi with ⟨rfl, hi⟩ | ⟨rfl, hi⟩
      · cases hi
      · exact Zs_bast hX hne (Zblt hb) hsh hP kk
    · cases h
  · cases h
set_option maxHeartbeats 4000000 in
theorem Zpst_ok (hX : ZOK X k fr tab) (hne : cs ≠ []) {e : Zent} (h : Zpst (zsc X) e l st M = some (P, l', st', M')) (hP : Zop P) (kk : ZP X tab cs l' st' M') : ZP X tab (e :: cs) l st M := by
  obtain ⟨pc, len, ins, r1, r2, hs⟩ := e
  unfold Zpst at h
  simp only [] at h
  split at h
  · exact Zpk_ok hX hne (Or.inl ⟨_, rfl⟩) h kk
  · exact Zpk_ok hX hne (Or.inr (Or.inl ⟨_, rfl⟩)) h kk
  · exact Zpk_ok hX hne (Or.inr (Or.inr (Or.inl ⟨_, rfl⟩))) h kk
  · exact Zpk_ok hX hne (Or.inr (Or.inr (Or.inr (Or.inl ⟨_, rfl⟩)))) h kk
  · exact Zpk_ok hX hne (Or.inr (Or.inr (Or.inr (Or.inr ⟨_, rfl⟩)))) h kk
  · simp only [Option.some.injEq, Prod.mk.injEq] at h
    obtain ⟨-, rfl, rfl, rfl⟩ := h
    exact Zs_ldc2 hX hne kk
  · exact Zld_ok hX hne (Or.inl ⟨_, rfl⟩) h kk
  · exact Zld_ok hX hne (Or.inr ⟨_, rfl⟩) h kk
  · exact Zla_ok hX hne (Or.inl ⟨_, rfl⟩) h kk
  · exact Zla_ok hX hne (Or.inr ⟨_, rfl⟩) h kk
  · split at h
    · rename_i hg
      simp only [Option.some.injEq, Prod.mk.injEq] at h
      obtain ⟨-, rfl, rfl, rfl⟩ := h
      exact Zs_lload hX hne hg kk
    · cases h
  · exact Zsi_ok hX hne (Or.inl ⟨_, rfl⟩) h kk
  · exact Zsi_ok hX hne (Or.inr ⟨_, rfl⟩) h kk
  · exact Zsa_ok hX hne (Or.inl ⟨_, rfl⟩) h kk
  · exact Zsa_ok hX hne (Or.inr ⟨_, rfl⟩) h kk
  · split at h
    · split at h
      · rename_i hb hg
        simp only [Option.some.injEq, Prod.mk.injEq] at h
        obtain ⟨-, rfl, rfl, rfl⟩ := h
        exact Zs_iinc hX hne (Nat.eq_of_beq_eq_true hb) rfl hg kk
      · cases h
    · split at h
      · rename_i hb hg
        simp only [Option.some.injEq, Prod.mk.injEq] at h
        obtain ⟨-, rfl, rfl, rfl⟩ := h
        exact Zs_iinc hX hne (Nat.eq_of_beq_eq_true hb) rfl hg kk
      · cases h
    · cases h
  · split at h
    · simp only [Option.some.injEq, Prod.mk.injEq] at h
      obtain ⟨-, rfl, rfl, rfl⟩ := h
      exact Zs_bin hX hne rfl kk
    · cases h
  · split at h
    · simp only [Option.some.injEq, Prod.mk.injEq] at h
      obtain ⟨-, rfl, rfl, rfl⟩ := h
      exact Zs_bin hX hne rfl kk
    · cases h
  · split at h
    · simp only [Option.some.injEq, Prod.mk.injEq] at h
      obtain ⟨-, rfl, rfl, rfl⟩ := h
      exact Zs_bin hX hne rfl kk
    · cases h
  · split at h
    · simp only [Option.some.injEq, Prod.mk.injEq] at h
      obtain ⟨-, rfl, rfl, rfl⟩ := h
      exact Zs_bin hX hne rfl kk
    · cases h
  · split at h
    · simp only [Option.some.injEq, Prod.mk.injEq] at h
      obtain ⟨-, rfl, rfl, rfl⟩ := h
      exact Zs_bin hX hne rfl kk
    · cases h
  · split at h
    · simp only [Option.some.injEq, Prod.mk.injEq] at h
      obtain ⟨-, rfl, rfl, rfl⟩ := h
      exact Zs_bin hX hne rfl kk
    · cases h
  · split at h
    · simp only [Option.some.injEq, Prod.mk.injEq] at h
      obtain ⟨-, rfl, rfl, rfl⟩ := h
      exact Zs_bin hX hne rfl kk
    · cases h
  · split at h
    · simp only [Option.some.injEq, Prod.mk.injEq] at h
      obtain ⟨-, rfl, rfl, rfl⟩ := h
      exact Zs_bin hX hne rfl kk
    · cases h
  · split at h
    · simp only [Option.some.injEq, Prod.mk.injEq] at h
      obtain ⟨-, rfl, rfl, rfl⟩ := h
      exact Zs_bin hX hne rfl kk
    · cases h
  · split at h
    · simp only [Option.some.injEq, Prod.mk.injEq] at h
      obtain ⟨rfl, rfl, rfl, rfl⟩ := h
      exact Zs_div hX hne hP kk
    · cases h
  · split at h
    · simp only [Option.some.injEq, Prod.mk.injEq] at h
      obtain ⟨rfl, rfl, rfl, rfl⟩ := h
      exact Zs_rem hX hne hP kk
    · cases h
  · split at h
    · simp only [Option.some.injEq, Prod.mk.injEq] at h
      obtain ⟨rfl, rfl, rfl, rfl⟩ := h
      exact Zs_neg hX hne kk
    · cases h
  · split at h
    · simp only [Option.some.injEq, Prod.mk.injEq] at h
      obtain ⟨rfl, rfl, rfl, rfl⟩ := h
      exact Zs_i2b hX hne kk
    · cases h
  · split at h
    · simp only [Option.some.injEq, Prod.mk.injEq] at h
      obtain ⟨rfl, rfl, rfl, rfl⟩ := h
      exact Zs_i2s hX hne kk
    · cases h
  · split at h
    · simp only [Option.some.injEq, Prod.mk.injEq] at h
      obtain ⟨rfl, rfl, rfl, rfl⟩ := h
      exact Zs_i2l hX hne kk
    · cases h
  · split at h
    · simp only [Option.some.injEq, Prod.mk.injEq] at h
      obtain ⟨rfl, rfl, rfl, rfl⟩ := h
      exact Zs_l2i hX hne kk
    · cases h
  · split at h
    · simp only [Option.some.injEq, Prod.mk.injEq] at h
      obtain ⟨rfl, rfl, rfl, rfl⟩ := h
      exact Zs_land hX hne kk
    · cases h
  · split at h
    · simp only [Option.some.injEq, Prod.mk.injEq] at h
      obtain ⟨rfl, rfl, rfl, rfl⟩ := h
      exact Zs_lor hX hne kk
    · cases h
  · split at h
    · simp only [Option.some.injEq, Prod.mk.injEq] at h
      obtain ⟨rfl, rfl, rfl, rfl⟩ := h
      exact Zs_lshl hX hne kk
    · cases h
  · split at h
    · simp only [Option.some.injEq, Prod.mk.injEq] at h
      obtain ⟨rfl, rfl, rfl, rfl⟩ := h
      exact Zs_lshr hX hne kk
    · cases h
  · split at h
    · simp only [Option.some.injEq, Prod.mk.injEq] at h
      obtain ⟨rfl, rfl, rfl, rfl⟩ := h
      exact Zs_lushr hX hne kk
    · cases h
  · split at h
    · split at h
      · rename_i hv
        simp only [Option.some.injEq, Prod.mk.injEq] at h
        obtain ⟨rfl, rfl, rfl, rfl⟩ := h
        exact Zs_dup hX hne hv kk
      · cases h
    · cases h
  · split at h
    · split at h
      · rename_i hv hw
        simp only [Option.some.injEq, Prod.mk.injEq] at h
        obtain ⟨rfl, rfl, rfl, rfl⟩ := h
        exact Zs_dup2 hX hne hv hw kk
      · cases h
    · cases h
  · split at h
    · split at h
      · rename_i hv
        simp only [Option.some.injEq, Prod.mk.injEq] at h
        obtain ⟨rfl, rfl, rfl, rfl⟩ := h
        exact Zs_pop hX hne hv kk
      · cases h
    · cases h
  · exact Zgf_ok hX hne h kk
  · exact Zpf_ok hX hne h hP kk
  · exact Zal_ok hX hne (Or.inl ⟨rfl, rfl⟩) h hP kk
  · exact Zal_ok hX hne (Or.inr (Or.inl ⟨rfl, rfl⟩)) h hP kk
  · exact Zal_ok hX hne (Or.inr (Or.inr ⟨rfl, rfl⟩)) h hP kk
  · exact Zas_ok hX hne (Or.inl ⟨rfl, rfl⟩) h hP kk
  · exact Zas_ok hX hne (Or.inr ⟨rfl, rfl⟩) h hP kk
  · split at h
    · split at h
      · rename_i ha
        simp only [Option.some.injEq, Prod.mk.injEq] at h
        obtain ⟨rfl, rfl, rfl, rfl⟩ := h
        exact Zs_alen hX hne ha kk
      · cases h
    · cases h
  · split at h
    · rename_i hq
      simp only [Option.some.injEq, Prod.mk.injEq] at h
      obtain ⟨rfl, rfl, rfl, rfl⟩ := h
      exact Zs_gets hX hne hq kk
    · cases h
  · split at h
    · simp only [Option.some.injEq, Prod.mk.injEq] at h
      obtain ⟨rfl, rfl, rfl, rfl⟩ := h
      exact Zs_ifnull hX hne kk
    · cases h
  · cases h
end ZT
def Zisg : Instr → Bool
  | .goto _ => true
  | _ => false
def Zps (sc : Nat × (Nat → Int32)) (tab : List Zent) : Nat → List Zent → List (Nat × Value) → List Value → Zmem → List Prop → Option (List Prop × List Zent × List (Nat × Value) × List Value × Zmem)
  | 0, cs, l, st, M, ps => some (ps, cs, l, st, M)
  | _ + 1, [], _, _, _, _ => none
  | n + 1, e :: cs, l, st, M, ps => match Zisg e.2.2.1 with
    | true => Zps sc tab n (Zsf tab e.2.2.2.1) l st M ps
    | false => match cs with
      | [] => none
      | f :: cs => match Zpst sc e l st M with
        | some (none, l', st', M') => Zps sc tab n (f :: cs) l' st' M' ps
        | some (some P, l', st', M') => Zps sc tab n (f :: cs) l' st' M' (P :: ps)
        | none => none
theorem Zall_cons {P : Prop} {ps : List Prop} (h : ZallP (P :: ps)) : P ∧ ZallP ps := by
  cases ps with
  | nil => exact ⟨h, trivial⟩
  | cons Q r => exact ⟨h.2, h.1⟩
theorem Zps_all {sc : Nat × (Nat → Int32)} {tab : List Zent} : ∀ (n : Nat) {cs cs' : List Zent} {l l' : List (Nat × Value)} {st st' : List Value} {M M' : Zmem} {ps ps' : List Prop}, Zps sc tab n cs l st M ps = some (ps', cs', l', st', M') → ZallP ps' → ZallP ps := by
  intro n
  induction n with
  | zero => intro cs cs' l l' st st' M M' ps ps' h hp; simp only [Zps, Option.some.injEq, Prod.mk.injEq] at h; rw [h.1]; exact hp
  | succ n ih =>
    intro cs cs' l l' st st' M M' ps ps' h hp
    cases cs with
    | nil => simp [Zps] at h
    | cons e cs =>
      simp only [Zps] at h
      split at h
      · exact ih h hp
      · split at h
        · cases h
        · split at h
          · exact ih h hp
          · exact (Zall_cons (ih h hp)).2
          · cases h
/-- n instructions on, with what they ask -/
theorem Zs_n {X : Zx} {k fr : Nat} {tab : List Zent} (hX : ZOK X k fr tab) : ∀ (n : Nat) {cs cs' : List Zent} {l l' : List (Nat × Value)} {st st' : List Value} {M M' : Zmem} {ps ps' : List Prop}, Zps (zsc X) tab n cs l st M ps = some (ps', cs', l', st', M') → ZallP ps' → ZP X tab cs' l' st' M' → ZP X tab cs l st M := by
  intro n
  induction n with
  | zero =>
    intro cs cs' l l' st st' M M' ps ps' h _ kk
    simp only [Zps, Option.some.injEq, Prod.mk.injEq] at h
    obtain ⟨-, rfl, rfl, rfl, rfl⟩ := h
    exact kk
  | succ n ih =>
    intro cs cs' l l' st st' M M' ps ps' h hp kk
    cases cs with
    | nil => simp [Zps] at h
    | cons e cs =>
      simp only [Zps] at h
      split at h
      · rename_i hg
        obtain ⟨pc, len, ins, r1, r2, hs⟩ := e
        cases ins <;> first | (exact Zs_goto hX (ih h hp kk)) | (simp [Zisg] at hg)
      · split at h
        · cases h
        · split at h
          · rename_i hq
            exact Zpst_ok hX (by simp) hq trivial (ih h hp kk)
          · rename_i hq
            exact Zpst_ok hX (by simp) hq (Zall_cons (Zps_all n h hp)).1 (ih h hp kk)
          · cases h
/-- n instructions on -/
theorem Zgo {X : Zx} {k fr : Nat} {tab cs cs' : List Zent} {l l' : List (Nat × Value)} {st st' : List Value} {M M' : Zmem} {ps : List Prop} (hX : ZOK X k fr tab) (n : Nat) (h : Zps (zsc X) tab n cs l st M [] = some (ps, cs', l', st', M')) (hp : ZallP ps) (kk : ZP X tab cs' l' st' M') : ZP X tab cs l st M := Zs_n hX n h hp kk
