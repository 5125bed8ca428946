section
-- ===== PART A: goes FIRST, ahead of the names: the tables' words, and 'selects' of the private methods out of them =====
/-- a private method of a class that the tables say can be made, by its rows of tables_1 -/
def lw_okq (q : MethodName × Nat) : Prop := (q.1.cls ≠ "java/lang/invoke/MethodHandle" ∧ q.1.cls ≠ "java/lang/invoke/VarHandle") ∧ Cond.instantiable q.1.cls q.2 ∈ tables_1 ∧ Cond.privateMethod q.1 ∈ tables_1 ∧ Cond.instanceMethod q.1 ∈ tables_1
theorem lw_p0 : lw_okq (⟨"KnitRiver", "refuse", "(I)I"⟩, 9) := ⟨⟨by decide +kernel, by decide +kernel⟩, List.mem_of_getElem? (i := 15) (by decide +kernel), List.mem_of_getElem? (i := 305) (by decide +kernel), List.mem_of_getElem? (i := 306) (by decide +kernel)⟩
theorem lw_p1 : lw_okq (⟨"KnitRiver$Text", "push", "(I)V"⟩, 5) := ⟨⟨by decide +kernel, by decide +kernel⟩, List.mem_of_getElem? (i := 30) (by decide +kernel), List.mem_of_getElem? (i := 325) (by decide +kernel), List.mem_of_getElem? (i := 326) (by decide +kernel)⟩
theorem lw_p2 : lw_okq (⟨"KnitRiver$Text", "pop", "()I"⟩, 5) := ⟨⟨by decide +kernel, by decide +kernel⟩, List.mem_of_getElem? (i := 30) (by decide +kernel), List.mem_of_getElem? (i := 329) (by decide +kernel), List.mem_of_getElem? (i := 330) (by decide +kernel)⟩
theorem lw_p3 : lw_okq (⟨"KnitRiver", "isRow", "(I)Z"⟩, 9) := ⟨⟨by decide +kernel, by decide +kernel⟩, List.mem_of_getElem? (i := 15) (by decide +kernel), List.mem_of_getElem? (i := 353) (by decide +kernel), List.mem_of_getElem? (i := 354) (by decide +kernel)⟩
theorem lw_p4 : lw_okq (⟨"KnitRiver$Reader", "part", "(II)Z"⟩, 6) := ⟨⟨by decide +kernel, by decide +kernel⟩, List.mem_of_getElem? (i := 131) (by decide +kernel), List.mem_of_getElem? (i := 428) (by decide +kernel), List.mem_of_getElem? (i := 429) (by decide +kernel)⟩
theorem lw_p5 : lw_okq (⟨"KnitRiver$Reader", "between", "(II)Z"⟩, 6) := ⟨⟨by decide +kernel, by decide +kernel⟩, List.mem_of_getElem? (i := 131) (by decide +kernel), List.mem_of_getElem? (i := 432) (by decide +kernel), List.mem_of_getElem? (i := 433) (by decide +kernel)⟩
theorem lw_p6 : lw_okq (⟨"KnitRiver$Reader", "piece", "(I)Z"⟩, 6) := ⟨⟨by decide +kernel, by decide +kernel⟩, List.mem_of_getElem? (i := 131) (by decide +kernel), List.mem_of_getElem? (i := 436) (by decide +kernel), List.mem_of_getElem? (i := 437) (by decide +kernel)⟩
theorem lw_p7 : lw_okq (⟨"KnitRiver$Reader", "next", "()I"⟩, 6) := ⟨⟨by decide +kernel, by decide +kernel⟩, List.mem_of_getElem? (i := 131) (by decide +kernel), List.mem_of_getElem? (i := 440) (by decide +kernel), List.mem_of_getElem? (i := 441) (by decide +kernel)⟩
theorem lw_p8 : lw_okq (⟨"KnitRiver$Reader", "number", "()V"⟩, 6) := ⟨⟨by decide +kernel, by decide +kernel⟩, List.mem_of_getElem? (i := 131) (by decide +kernel), List.mem_of_getElem? (i := 447) (by decide +kernel), List.mem_of_getElem? (i := 448) (by decide +kernel)⟩
theorem lw_p9 : lw_okq (⟨"KnitRiver$Reader", "keep", "(I)V"⟩, 6) := ⟨⟨by decide +kernel, by decide +kernel⟩, List.mem_of_getElem? (i := 131) (by decide +kernel), List.mem_of_getElem? (i := 451) (by decide +kernel), List.mem_of_getElem? (i := 452) (by decide +kernel)⟩
theorem lw_p10 : lw_okq (⟨"KnitRiver$Reader", "opened", "(II)Z"⟩, 6) := ⟨⟨by decide +kernel, by decide +kernel⟩, List.mem_of_getElem? (i := 131) (by decide +kernel), List.mem_of_getElem? (i := 455) (by decide +kernel), List.mem_of_getElem? (i := 456) (by decide +kernel)⟩
theorem lw_p11 : lw_okq (⟨"KnitRiver$Reader", "nameOf", "(I)I"⟩, 6) := ⟨⟨by decide +kernel, by decide +kernel⟩, List.mem_of_getElem? (i := 131) (by decide +kernel), List.mem_of_getElem? (i := 459) (by decide +kernel), List.mem_of_getElem? (i := 460) (by decide +kernel)⟩
theorem lw_p12 : lw_okq (⟨"KnitRiver$Course", "wasAhead", "(I)Z"⟩, 4) := ⟨⟨by decide +kernel, by decide +kernel⟩, List.mem_of_getElem? (i := 159) (by decide +kernel), List.mem_of_getElem? (i := 555) (by decide +kernel), List.mem_of_getElem? (i := 556) (by decide +kernel)⟩
theorem lw_p13 : lw_okq (⟨"KnitRiver$Reach", "leads", "(ILKnitRiver$Course;II)Z"⟩, 4) := ⟨⟨by decide +kernel, by decide +kernel⟩, List.mem_of_getElem? (i := 184) (by decide +kernel), List.mem_of_getElem? (i := 572) (by decide +kernel), List.mem_of_getElem? (i := 573) (by decide +kernel)⟩
theorem lw_p14 : lw_okq (⟨"KnitRiver$Reach", "keepIfLess", "(I)V"⟩, 4) := ⟨⟨by decide +kernel, by decide +kernel⟩, List.mem_of_getElem? (i := 184) (by decide +kernel), List.mem_of_getElem? (i := 583) (by decide +kernel), List.mem_of_getElem? (i := 584) (by decide +kernel)⟩
theorem lw_p15 : lw_okq (⟨"KnitRiver$Reach", "yarnOf", "(I)I"⟩, 4) := ⟨⟨by decide +kernel, by decide +kernel⟩, List.mem_of_getElem? (i := 184) (by decide +kernel), List.mem_of_getElem? (i := 587) (by decide +kernel), List.mem_of_getElem? (i := 588) (by decide +kernel)⟩
def lw_privs_1 : List (MethodName × Nat) := [(⟨"KnitRiver", "refuse", "(I)I"⟩, 9), (⟨"KnitRiver$Text", "push", "(I)V"⟩, 5), (⟨"KnitRiver$Text", "pop", "()I"⟩, 5), (⟨"KnitRiver", "isRow", "(I)Z"⟩, 9), (⟨"KnitRiver$Reader", "part", "(II)Z"⟩, 6), (⟨"KnitRiver$Reader", "between", "(II)Z"⟩, 6), (⟨"KnitRiver$Reader", "piece", "(I)Z"⟩, 6), (⟨"KnitRiver$Reader", "next", "()I"⟩, 6), (⟨"KnitRiver$Reader", "number", "()V"⟩, 6), (⟨"KnitRiver$Reader", "keep", "(I)V"⟩, 6), (⟨"KnitRiver$Reader", "opened", "(II)Z"⟩, 6), (⟨"KnitRiver$Reader", "nameOf", "(I)I"⟩, 6), (⟨"KnitRiver$Course", "wasAhead", "(I)Z"⟩, 4), (⟨"KnitRiver$Reach", "leads", "(ILKnitRiver$Course;II)Z"⟩, 4), (⟨"KnitRiver$Reach", "keepIfLess", "(I)V"⟩, 4), (⟨"KnitRiver$Reach", "yarnOf", "(I)I"⟩, 4)]
theorem lw_r1 : ∀ q ∈ lw_privs_1, lw_okq q := List.forall_mem_cons.mpr ⟨lw_p0, List.forall_mem_cons.mpr ⟨lw_p1, List.forall_mem_cons.mpr ⟨lw_p2, List.forall_mem_cons.mpr ⟨lw_p3, List.forall_mem_cons.mpr ⟨lw_p4, List.forall_mem_cons.mpr ⟨lw_p5, List.forall_mem_cons.mpr ⟨lw_p6, List.forall_mem_cons.mpr ⟨lw_p7, List.forall_mem_cons.mpr ⟨lw_p8, List.forall_mem_cons.mpr ⟨lw_p9, List.forall_mem_cons.mpr ⟨lw_p10, List.forall_mem_cons.mpr ⟨lw_p11, List.forall_mem_cons.mpr ⟨lw_p12, List.forall_mem_cons.mpr ⟨lw_p13, List.forall_mem_cons.mpr ⟨lw_p14, List.forall_mem_cons.mpr ⟨lw_p15, fun _ h => absurd h List.not_mem_nil⟩⟩⟩⟩⟩⟩⟩⟩⟩⟩⟩⟩⟩⟩⟩⟩
theorem lw_p16 : lw_okq (⟨"KnitRiver", "comesAsTold", "(ILKnitRiver$Sheet;)Z"⟩, 9) := ⟨⟨by decide +kernel, by decide +kernel⟩, List.mem_of_getElem? (i := 15) (by decide +kernel), List.mem_of_getElem? (i := 623) (by decide +kernel), List.mem_of_getElem? (i := 624) (by decide +kernel)⟩
theorem lw_p17 : lw_okq (⟨"KnitRiver$Voices", "spoken", "(IIII)I"⟩, 9) := ⟨⟨by decide +kernel, by decide +kernel⟩, List.mem_of_getElem? (i := 207) (by decide +kernel), List.mem_of_getElem? (i := 635) (by decide +kernel), List.mem_of_getElem? (i := 636) (by decide +kernel)⟩
theorem lw_p18 : lw_okq (⟨"KnitRiver$Voices", "workedOut", "(III)I"⟩, 9) := ⟨⟨by decide +kernel, by decide +kernel⟩, List.mem_of_getElem? (i := 207) (by decide +kernel), List.mem_of_getElem? (i := 645) (by decide +kernel), List.mem_of_getElem? (i := 646) (by decide +kernel)⟩
theorem lw_p19 : lw_okq (⟨"KnitRiver$Voices", "partedBy", "(II)I"⟩, 9) := ⟨⟨by decide +kernel, by decide +kernel⟩, List.mem_of_getElem? (i := 207) (by decide +kernel), List.mem_of_getElem? (i := 649) (by decide +kernel), List.mem_of_getElem? (i := 650) (by decide +kernel)⟩
theorem lw_p20 : lw_okq (⟨"KnitRiver", "whyNoSheet", "(I)I"⟩, 9) := ⟨⟨by decide +kernel, by decide +kernel⟩, List.mem_of_getElem? (i := 15) (by decide +kernel), List.mem_of_getElem? (i := 671) (by decide +kernel), List.mem_of_getElem? (i := 672) (by decide +kernel)⟩
theorem lw_p21 : lw_okq (⟨"KnitRiverModel", "error", "(I)I"⟩, 27) := ⟨⟨by decide +kernel, by decide +kernel⟩, List.mem_of_getElem? (i := 730) (by decide +kernel), List.mem_of_getElem? (i := 825) (by decide +kernel), List.mem_of_getElem? (i := 826) (by decide +kernel)⟩
theorem lw_p22 : lw_okq (⟨"KnitRiverModel", "whole", "()Z"⟩, 27) := ⟨⟨by decide +kernel, by decide +kernel⟩, List.mem_of_getElem? (i := 730) (by decide +kernel), List.mem_of_getElem? (i := 835) (by decide +kernel), List.mem_of_getElem? (i := 836) (by decide +kernel)⟩
theorem lw_p23 : lw_okq (⟨"KnitRiverModel", "both", "()Z"⟩, 27) := ⟨⟨by decide +kernel, by decide +kernel⟩, List.mem_of_getElem? (i := 730) (by decide +kernel), List.mem_of_getElem? (i := 839) (by decide +kernel), List.mem_of_getElem? (i := 840) (by decide +kernel)⟩
theorem lw_p24 : lw_okq (⟨"KnitRiverModel", "compared", "()Z"⟩, 27) := ⟨⟨by decide +kernel, by decide +kernel⟩, List.mem_of_getElem? (i := 730) (by decide +kernel), List.mem_of_getElem? (i := 843) (by decide +kernel), List.mem_of_getElem? (i := 844) (by decide +kernel)⟩
theorem lw_p25 : lw_okq (⟨"KnitRiverModel", "sum", "()Z"⟩, 27) := ⟨⟨by decide +kernel, by decide +kernel⟩, List.mem_of_getElem? (i := 730) (by decide +kernel), List.mem_of_getElem? (i := 847) (by decide +kernel), List.mem_of_getElem? (i := 848) (by decide +kernel)⟩
theorem lw_p26 : lw_okq (⟨"KnitRiverModel", "product", "()Z"⟩, 27) := ⟨⟨by decide +kernel, by decide +kernel⟩, List.mem_of_getElem? (i := 730) (by decide +kernel), List.mem_of_getElem? (i := 851) (by decide +kernel), List.mem_of_getElem? (i := 852) (by decide +kernel)⟩
theorem lw_p27 : lw_okq (⟨"KnitRiverModel", "one", "()Z"⟩, 27) := ⟨⟨by decide +kernel, by decide +kernel⟩, List.mem_of_getElem? (i := 730) (by decide +kernel), List.mem_of_getElem? (i := 855) (by decide +kernel), List.mem_of_getElem? (i := 856) (by decide +kernel)⟩
theorem lw_p28 : lw_okq (⟨"KnitRiverModel", "look", "()I"⟩, 27) := ⟨⟨by decide +kernel, by decide +kernel⟩, List.mem_of_getElem? (i := 730) (by decide +kernel), List.mem_of_getElem? (i := 859) (by decide +kernel), List.mem_of_getElem? (i := 860) (by decide +kernel)⟩
theorem lw_p29 : lw_okq (⟨"KnitRiverModel", "isName", "(I)Z"⟩, 27) := ⟨⟨by decide +kernel, by decide +kernel⟩, List.mem_of_getElem? (i := 730) (by decide +kernel), List.mem_of_getElem? (i := 863) (by decide +kernel), List.mem_of_getElem? (i := 864) (by decide +kernel)⟩
theorem lw_p30 : lw_okq (⟨"KnitRiverModel", "step1", "(II)V"⟩, 27) := ⟨⟨by decide +kernel, by decide +kernel⟩, List.mem_of_getElem? (i := 730) (by decide +kernel), List.mem_of_getElem? (i := 867) (by decide +kernel), List.mem_of_getElem? (i := 868) (by decide +kernel)⟩
theorem lw_p31 : lw_okq (⟨"KnitRiverModel", "opens", "()Z"⟩, 27) := ⟨⟨by decide +kernel, by decide +kernel⟩, List.mem_of_getElem? (i := 730) (by decide +kernel), List.mem_of_getElem? (i := 871) (by decide +kernel), List.mem_of_getElem? (i := 872) (by decide +kernel)⟩
def lw_privs_2 : List (MethodName × Nat) := [(⟨"KnitRiver", "comesAsTold", "(ILKnitRiver$Sheet;)Z"⟩, 9), (⟨"KnitRiver$Voices", "spoken", "(IIII)I"⟩, 9), (⟨"KnitRiver$Voices", "workedOut", "(III)I"⟩, 9), (⟨"KnitRiver$Voices", "partedBy", "(II)I"⟩, 9), (⟨"KnitRiver", "whyNoSheet", "(I)I"⟩, 9), (⟨"KnitRiverModel", "error", "(I)I"⟩, 27), (⟨"KnitRiverModel", "whole", "()Z"⟩, 27), (⟨"KnitRiverModel", "both", "()Z"⟩, 27), (⟨"KnitRiverModel", "compared", "()Z"⟩, 27), (⟨"KnitRiverModel", "sum", "()Z"⟩, 27), (⟨"KnitRiverModel", "product", "()Z"⟩, 27), (⟨"KnitRiverModel", "one", "()Z"⟩, 27), (⟨"KnitRiverModel", "look", "()I"⟩, 27), (⟨"KnitRiverModel", "isName", "(I)Z"⟩, 27), (⟨"KnitRiverModel", "step1", "(II)V"⟩, 27), (⟨"KnitRiverModel", "opens", "()Z"⟩, 27)]
theorem lw_r2 : ∀ q ∈ lw_privs_2, lw_okq q := List.forall_mem_cons.mpr ⟨lw_p16, List.forall_mem_cons.mpr ⟨lw_p17, List.forall_mem_cons.mpr ⟨lw_p18, List.forall_mem_cons.mpr ⟨lw_p19, List.forall_mem_cons.mpr ⟨lw_p20, List.forall_mem_cons.mpr ⟨lw_p21, List.forall_mem_cons.mpr ⟨lw_p22, List.forall_mem_cons.mpr ⟨lw_p23, List.forall_mem_cons.mpr ⟨lw_p24, List.forall_mem_cons.mpr ⟨lw_p25, List.forall_mem_cons.mpr ⟨lw_p26, List.forall_mem_cons.mpr ⟨lw_p27, List.forall_mem_cons.mpr ⟨lw_p28, List.forall_mem_cons.mpr ⟨lw_p29, List.forall_mem_cons.mpr ⟨lw_p30, List.forall_mem_cons.mpr ⟨lw_p31, fun _ h => absurd h List.not_mem_nil⟩⟩⟩⟩⟩⟩⟩⟩⟩⟩⟩⟩⟩⟩⟩⟩
theorem lw_p32 : lw_okq (⟨"KnitRiverModel", "hasText", "(I)Z"⟩, 27) := ⟨⟨by decide +kernel, by decide +kernel⟩, List.mem_of_getElem? (i := 730) (by decide +kernel), List.mem_of_getElem? (i := 879) (by decide +kernel), List.mem_of_getElem? (i := 880) (by decide +kernel)⟩
theorem lw_p33 : lw_okq (⟨"KnitRiverModel", "yarnAs", "(III)I"⟩, 27) := ⟨⟨by decide +kernel, by decide +kernel⟩, List.mem_of_getElem? (i := 730) (by decide +kernel), List.mem_of_getElem? (i := 893) (by decide +kernel), List.mem_of_getElem? (i := 894) (by decide +kernel)⟩
theorem lw_p34 : lw_okq (⟨"KnitRiverModel", "saidOf", "(IIII)I"⟩, 27) := ⟨⟨by decide +kernel, by decide +kernel⟩, List.mem_of_getElem? (i := 730) (by decide +kernel), List.mem_of_getElem? (i := 897) (by decide +kernel), List.mem_of_getElem? (i := 898) (by decide +kernel)⟩
theorem lw_p35 : lw_okq (⟨"KnitRiverModel", "yarnTold", "(III)I"⟩, 27) := ⟨⟨by decide +kernel, by decide +kernel⟩, List.mem_of_getElem? (i := 730) (by decide +kernel), List.mem_of_getElem? (i := 901) (by decide +kernel), List.mem_of_getElem? (i := 902) (by decide +kernel)⟩
theorem lw_p36 : lw_okq (⟨"KnitRiverModel", "worked", "(I)I"⟩, 27) := ⟨⟨by decide +kernel, by decide +kernel⟩, List.mem_of_getElem? (i := 730) (by decide +kernel), List.mem_of_getElem? (i := 905) (by decide +kernel), List.mem_of_getElem? (i := 906) (by decide +kernel)⟩
theorem lw_p37 : lw_okq (⟨"KnitRiverModel", "lays1", "(III)V"⟩, 27) := ⟨⟨by decide +kernel, by decide +kernel⟩, List.mem_of_getElem? (i := 730) (by decide +kernel), List.mem_of_getElem? (i := 915) (by decide +kernel), List.mem_of_getElem? (i := 916) (by decide +kernel)⟩
theorem lw_p38 : lw_okq (⟨"KnitRiverModel", "isRow", "(I)Z"⟩, 27) := ⟨⟨by decide +kernel, by decide +kernel⟩, List.mem_of_getElem? (i := 730) (by decide +kernel), List.mem_of_getElem? (i := 923) (by decide +kernel), List.mem_of_getElem? (i := 924) (by decide +kernel)⟩
theorem lw_p39 : lw_okq (⟨"KnitRiverModel", "its", "(II)I"⟩, 27) := ⟨⟨by decide +kernel, by decide +kernel⟩, List.mem_of_getElem? (i := 730) (by decide +kernel), List.mem_of_getElem? (i := 927) (by decide +kernel), List.mem_of_getElem? (i := 928) (by decide +kernel)⟩
theorem lw_p40 : lw_okq (⟨"KnitRiverModel", "yarnOf", "(I)I"⟩, 27) := ⟨⟨by decide +kernel, by decide +kernel⟩, List.mem_of_getElem? (i := 730) (by decide +kernel), List.mem_of_getElem? (i := 931) (by decide +kernel), List.mem_of_getElem? (i := 932) (by decide +kernel)⟩
theorem lw_p41 : lw_okq (⟨"KnitRiverModel", "holdsBy", "(II)I"⟩, 27) := ⟨⟨by decide +kernel, by decide +kernel⟩, List.mem_of_getElem? (i := 730) (by decide +kernel), List.mem_of_getElem? (i := 935) (by decide +kernel), List.mem_of_getElem? (i := 936) (by decide +kernel)⟩
theorem lw_p42 : lw_okq (⟨"KnitRiverModel", "holdsTold", "(III)I"⟩, 27) := ⟨⟨by decide +kernel, by decide +kernel⟩, List.mem_of_getElem? (i := 730) (by decide +kernel), List.mem_of_getElem? (i := 939) (by decide +kernel), List.mem_of_getElem? (i := 940) (by decide +kernel)⟩
theorem lw_p43 : lw_okq (⟨"KnitRiverModel", "change1", "(II)I"⟩, 27) := ⟨⟨by decide +kernel, by decide +kernel⟩, List.mem_of_getElem? (i := 730) (by decide +kernel), List.mem_of_getElem? (i := 950) (by decide +kernel), List.mem_of_getElem? (i := 951) (by decide +kernel)⟩
theorem lw_p44 : lw_okq (⟨"KnitRiverModel", "aSeason", "(I)I"⟩, 27) := ⟨⟨by decide +kernel, by decide +kernel⟩, List.mem_of_getElem? (i := 730) (by decide +kernel), List.mem_of_getElem? (i := 992) (by decide +kernel), List.mem_of_getElem? (i := 993) (by decide +kernel)⟩
theorem lw_p45 : lw_okq (⟨"KnitRiverModel", "letDown", "(II)V"⟩, 27) := ⟨⟨by decide +kernel, by decide +kernel⟩, List.mem_of_getElem? (i := 730) (by decide +kernel), List.mem_of_getElem? (i := 996) (by decide +kernel), List.mem_of_getElem? (i := 997) (by decide +kernel)⟩
theorem lw_p46 : lw_okq (⟨"KnitRiverModel", "draw", "()I"⟩, 27) := ⟨⟨by decide +kernel, by decide +kernel⟩, List.mem_of_getElem? (i := 730) (by decide +kernel), List.mem_of_getElem? (i := 1004) (by decide +kernel), List.mem_of_getElem? (i := 1005) (by decide +kernel)⟩
theorem lw_p47 : lw_okq (⟨"KnitRiverModel", "findCourse", "()V"⟩, 27) := ⟨⟨by decide +kernel, by decide +kernel⟩, List.mem_of_getElem? (i := 730) (by decide +kernel), List.mem_of_getElem? (i := 1021) (by decide +kernel), List.mem_of_getElem? (i := 1022) (by decide +kernel)⟩
def lw_privs_3 : List (MethodName × Nat) := [(⟨"KnitRiverModel", "hasText", "(I)Z"⟩, 27), (⟨"KnitRiverModel", "yarnAs", "(III)I"⟩, 27), (⟨"KnitRiverModel", "saidOf", "(IIII)I"⟩, 27), (⟨"KnitRiverModel", "yarnTold", "(III)I"⟩, 27), (⟨"KnitRiverModel", "worked", "(I)I"⟩, 27), (⟨"KnitRiverModel", "lays1", "(III)V"⟩, 27), (⟨"KnitRiverModel", "isRow", "(I)Z"⟩, 27), (⟨"KnitRiverModel", "its", "(II)I"⟩, 27), (⟨"KnitRiverModel", "yarnOf", "(I)I"⟩, 27), (⟨"KnitRiverModel", "holdsBy", "(II)I"⟩, 27), (⟨"KnitRiverModel", "holdsTold", "(III)I"⟩, 27), (⟨"KnitRiverModel", "change1", "(II)I"⟩, 27), (⟨"KnitRiverModel", "aSeason", "(I)I"⟩, 27), (⟨"KnitRiverModel", "letDown", "(II)V"⟩, 27), (⟨"KnitRiverModel", "draw", "()I"⟩, 27), (⟨"KnitRiverModel", "findCourse", "()V"⟩, 27)]
theorem lw_r3 : ∀ q ∈ lw_privs_3, lw_okq q := List.forall_mem_cons.mpr ⟨lw_p32, List.forall_mem_cons.mpr ⟨lw_p33, List.forall_mem_cons.mpr ⟨lw_p34, List.forall_mem_cons.mpr ⟨lw_p35, List.forall_mem_cons.mpr ⟨lw_p36, List.forall_mem_cons.mpr ⟨lw_p37, List.forall_mem_cons.mpr ⟨lw_p38, List.forall_mem_cons.mpr ⟨lw_p39, List.forall_mem_cons.mpr ⟨lw_p40, List.forall_mem_cons.mpr ⟨lw_p41, List.forall_mem_cons.mpr ⟨lw_p42, List.forall_mem_cons.mpr ⟨lw_p43, List.forall_mem_cons.mpr ⟨lw_p44, List.forall_mem_cons.mpr ⟨lw_p45, List.forall_mem_cons.mpr ⟨lw_p46, List.forall_mem_cons.mpr ⟨lw_p47, fun _ h => absurd h List.not_mem_nil⟩⟩⟩⟩⟩⟩⟩⟩⟩⟩⟩⟩⟩⟩⟩⟩
theorem lw_p48 : lw_okq (⟨"KnitRiverModel", "step", "(II)V"⟩, 27) := ⟨⟨by decide +kernel, by decide +kernel⟩, List.mem_of_getElem? (i := 730) (by decide +kernel), List.mem_of_getElem? (i := 1025) (by decide +kernel), List.mem_of_getElem? (i := 1026) (by decide +kernel)⟩
theorem lw_p49 : lw_okq (⟨"KnitRiverModel", "leads", "(IIIII)Z"⟩, 27) := ⟨⟨by decide +kernel, by decide +kernel⟩, List.mem_of_getElem? (i := 730) (by decide +kernel), List.mem_of_getElem? (i := 1037) (by decide +kernel), List.mem_of_getElem? (i := 1038) (by decide +kernel)⟩
theorem lw_p50 : lw_okq (⟨"KnitRiverModel", "lacks", "(I)I"⟩, 27) := ⟨⟨by decide +kernel, by decide +kernel⟩, List.mem_of_getElem? (i := 730) (by decide +kernel), List.mem_of_getElem? (i := 1062) (by decide +kernel), List.mem_of_getElem? (i := 1063) (by decide +kernel)⟩
theorem lw_p51 : lw_okq (⟨"KnitRiverModel", "kindNow", "()I"⟩, 27) := ⟨⟨by decide +kernel, by decide +kernel⟩, List.mem_of_getElem? (i := 730) (by decide +kernel), List.mem_of_getElem? (i := 1073) (by decide +kernel), List.mem_of_getElem? (i := 1074) (by decide +kernel)⟩
theorem lw_p52 : lw_okq (⟨"KnitRiverModel", "runsAs", "(II)I"⟩, 27) := ⟨⟨by decide +kernel, by decide +kernel⟩, List.mem_of_getElem? (i := 730) (by decide +kernel), List.mem_of_getElem? (i := 1077) (by decide +kernel), List.mem_of_getElem? (i := 1078) (by decide +kernel)⟩
theorem lw_p53 : lw_okq (⟨"KnitRiverModel", "starts", "(I)V"⟩, 27) := ⟨⟨by decide +kernel, by decide +kernel⟩, List.mem_of_getElem? (i := 730) (by decide +kernel), List.mem_of_getElem? (i := 1081) (by decide +kernel), List.mem_of_getElem? (i := 1082) (by decide +kernel)⟩
theorem lw_p54 : lw_okq (⟨"KnitRiverModel", "turnsAs", "(II)I"⟩, 27) := ⟨⟨by decide +kernel, by decide +kernel⟩, List.mem_of_getElem? (i := 730) (by decide +kernel), List.mem_of_getElem? (i := 1085) (by decide +kernel), List.mem_of_getElem? (i := 1086) (by decide +kernel)⟩
theorem lw_p55 : lw_okq (⟨"KnitRiverModel", "mNow", "()I"⟩, 27) := ⟨⟨by decide +kernel, by decide +kernel⟩, List.mem_of_getElem? (i := 730) (by decide +kernel), List.mem_of_getElem? (i := 1089) (by decide +kernel), List.mem_of_getElem? (i := 1090) (by decide +kernel)⟩
theorem lw_p56 : lw_okq (⟨"KnitRiverModel", "poolsAs", "(II)I"⟩, 27) := ⟨⟨by decide +kernel, by decide +kernel⟩, List.mem_of_getElem? (i := 730) (by decide +kernel), List.mem_of_getElem? (i := 1093) (by decide +kernel), List.mem_of_getElem? (i := 1094) (by decide +kernel)⟩
theorem lw_p57 : lw_okq (⟨"KnitRiverModel", "partsAs", "(II)I"⟩, 27) := ⟨⟨by decide +kernel, by decide +kernel⟩, List.mem_of_getElem? (i := 730) (by decide +kernel), List.mem_of_getElem? (i := 1097) (by decide +kernel), List.mem_of_getElem? (i := 1098) (by decide +kernel)⟩
def lw_privs_4 : List (MethodName × Nat) := [(⟨"KnitRiverModel", "step", "(II)V"⟩, 27), (⟨"KnitRiverModel", "leads", "(IIIII)Z"⟩, 27), (⟨"KnitRiverModel", "lacks", "(I)I"⟩, 27), (⟨"KnitRiverModel", "kindNow", "()I"⟩, 27), (⟨"KnitRiverModel", "runsAs", "(II)I"⟩, 27), (⟨"KnitRiverModel", "starts", "(I)V"⟩, 27), (⟨"KnitRiverModel", "turnsAs", "(II)I"⟩, 27), (⟨"KnitRiverModel", "mNow", "()I"⟩, 27), (⟨"KnitRiverModel", "poolsAs", "(II)I"⟩, 27), (⟨"KnitRiverModel", "partsAs", "(II)I"⟩, 27)]
theorem lw_r4 : ∀ q ∈ lw_privs_4, lw_okq q := List.forall_mem_cons.mpr ⟨lw_p48, List.forall_mem_cons.mpr ⟨lw_p49, List.forall_mem_cons.mpr ⟨lw_p50, List.forall_mem_cons.mpr ⟨lw_p51, List.forall_mem_cons.mpr ⟨lw_p52, List.forall_mem_cons.mpr ⟨lw_p53, List.forall_mem_cons.mpr ⟨lw_p54, List.forall_mem_cons.mpr ⟨lw_p55, List.forall_mem_cons.mpr ⟨lw_p56, List.forall_mem_cons.mpr ⟨lw_p57, fun _ h => absurd h List.not_mem_nil⟩⟩⟩⟩⟩⟩⟩⟩⟩⟩
def lw_privs : List (MethodName × Nat) := lw_privs_1 ++ (lw_privs_2 ++ (lw_privs_3 ++ (lw_privs_4)))
def lw_tbl : List Cond := k2_sels lw_privs ++ tables_1
theorem lw_privs_ok : ∀ q ∈ lw_privs, lw_okq q := by
  show ∀ q ∈ lw_privs_1 ++ (lw_privs_2 ++ (lw_privs_3 ++ (lw_privs_4))), lw_okq q
  exact List.forall_mem_append.mpr ⟨lw_r1, List.forall_mem_append.mpr ⟨lw_r2, List.forall_mem_append.mpr ⟨lw_r3, lw_r4⟩⟩⟩

/-! The walk of all methods by one pure state: a memory of numbers (object, place), the shape of the objects fixed; ZP: from here the method comes to its end. -/
abbrev Zmem : Type := Nat → Nat → Int32
abbrev Zent : Type := Nat × Nat × Instr × Nat × Nat × List Nat
abbrev Zmi : Type := MethodName × ByteArray × Nat × Option FieldType
/-- one place written -/
def Zu (M : Zmem) (o k : Nat) (v : Int32) : Zmem := fun a => if a = o then upd (M o) k v else M a
def Ztg : List Cond := lw_tbl.filter goodWord
def Zisn : Cond → Bool
  | .methodLinkNest .. => true
  | _ => false
def Znest : List Cond := lw_tbl.filter Zisn
def Zc0 : List Cond := [.selects "KnitRiver" ⟨"KnitRiver","refuse","(I)I"⟩ ⟨"KnitRiver","refuse","(I)I"⟩,
  .selects "KnitRiver$Text" ⟨"KnitRiver$Text","push","(I)V"⟩ ⟨"KnitRiver$Text","push","(I)V"⟩,
  .selects "KnitRiver$Text" ⟨"KnitRiver$Text","pop","()I"⟩ ⟨"KnitRiver$Text","pop","()I"⟩,
  .selects "KnitRiver" ⟨"KnitRiver","isRow","(I)Z"⟩ ⟨"KnitRiver","isRow","(I)Z"⟩,
  .selects "KnitRiver$Reader" ⟨"KnitRiver$Reader","part","(II)Z"⟩ ⟨"KnitRiver$Reader","part","(II)Z"⟩,
  .selects "KnitRiver$Reader" ⟨"KnitRiver$Reader","between","(II)Z"⟩ ⟨"KnitRiver$Reader","between","(II)Z"⟩,
  .selects "KnitRiver$Reader" ⟨"KnitRiver$Reader","piece","(I)Z"⟩ ⟨"KnitRiver$Reader","piece","(I)Z"⟩,
  .selects "KnitRiver$Reader" ⟨"KnitRiver$Reader","next","()I"⟩ ⟨"KnitRiver$Reader","next","()I"⟩,
  .selects "KnitRiver$Reader" ⟨"KnitRiver$Reader","number","()V"⟩ ⟨"KnitRiver$Reader","number","()V"⟩,
  .selects "KnitRiver$Reader" ⟨"KnitRiver$Reader","keep","(I)V"⟩ ⟨"KnitRiver$Reader","keep","(I)V"⟩,
  .selects "KnitRiver$Reader" ⟨"KnitRiver$Reader","opened","(II)Z"⟩ ⟨"KnitRiver$Reader","opened","(II)Z"⟩,
  .selects "KnitRiver$Reader" ⟨"KnitRiver$Reader","nameOf","(I)I"⟩ ⟨"KnitRiver$Reader","nameOf","(I)I"⟩,
  .selects "KnitRiver$Course" ⟨"KnitRiver$Course","wasAhead","(I)Z"⟩ ⟨"KnitRiver$Course","wasAhead","(I)Z"⟩,
  .selects "KnitRiver$Reach" ⟨"KnitRiver$Reach","leads","(ILKnitRiver$Course;II)Z"⟩ ⟨"KnitRiver$Reach","leads","(ILKnitRiver$Course;II)Z"⟩,
  .selects "KnitRiver$Reach" ⟨"KnitRiver$Reach","keepIfLess","(I)V"⟩ ⟨"KnitRiver$Reach","keepIfLess","(I)V"⟩,
  .selects "KnitRiver$Reach" ⟨"KnitRiver$Reach","yarnOf","(I)I"⟩ ⟨"KnitRiver$Reach","yarnOf","(I)I"⟩]
set_option maxRecDepth 100000 in
theorem Zcg0 : k2_sels lw_privs_1 = Zc0 := rfl
def Zc1 : List Cond := [.selects "KnitRiver" ⟨"KnitRiver","comesAsTold","(ILKnitRiver$Sheet;)Z"⟩ ⟨"KnitRiver","comesAsTold","(ILKnitRiver$Sheet;)Z"⟩,
  .selects "KnitRiver$Voices" ⟨"KnitRiver$Voices","spoken","(IIII)I"⟩ ⟨"KnitRiver$Voices","spoken","(IIII)I"⟩,
  .selects "KnitRiver$Voices" ⟨"KnitRiver$Voices","workedOut","(III)I"⟩ ⟨"KnitRiver$Voices","workedOut","(III)I"⟩,
  .selects "KnitRiver$Voices" ⟨"KnitRiver$Voices","partedBy","(II)I"⟩ ⟨"KnitRiver$Voices","partedBy","(II)I"⟩,
  .selects "KnitRiver" ⟨"KnitRiver","whyNoSheet","(I)I"⟩ ⟨"KnitRiver","whyNoSheet","(I)I"⟩,
  .selects "KnitRiverModel" ⟨"KnitRiverModel","error","(I)I"⟩ ⟨"KnitRiverModel","error","(I)I"⟩,
  .selects "KnitRiverModel" ⟨"KnitRiverModel","whole","()Z"⟩ ⟨"KnitRiverModel","whole","()Z"⟩,
  .selects "KnitRiverModel" ⟨"KnitRiverModel","both","()Z"⟩ ⟨"KnitRiverModel","both","()Z"⟩,
  .selects "KnitRiverModel" ⟨"KnitRiverModel","compared","()Z"⟩ ⟨"KnitRiverModel","compared","()Z"⟩,
  .selects "KnitRiverModel" ⟨"KnitRiverModel","sum","()Z"⟩ ⟨"KnitRiverModel","sum","()Z"⟩,
  .selects "KnitRiverModel" ⟨"KnitRiverModel","product","()Z"⟩ ⟨"KnitRiverModel","product","()Z"⟩,
  .selects "KnitRiverModel" ⟨"KnitRiverModel","one","()Z"⟩ ⟨"KnitRiverModel","one","()Z"⟩,
  .selects "KnitRiverModel" ⟨"KnitRiverModel","look","()I"⟩ ⟨"KnitRiverModel","look","()I"⟩,
  .selects "KnitRiverModel" ⟨"KnitRiverModel","isName","(I)Z"⟩ ⟨"KnitRiverModel","isName","(I)Z"⟩,
  .selects "KnitRiverModel" ⟨"KnitRiverModel","step1","(II)V"⟩ ⟨"KnitRiverModel","step1","(II)V"⟩,
  .selects "KnitRiverModel" ⟨"KnitRiverModel","opens","()Z"⟩ ⟨"KnitRiverModel","opens","()Z"⟩]
set_option maxRecDepth 100000 in
theorem Zcg1 : k2_sels lw_privs_2 = Zc1 := rfl
def Zc2 : List Cond := [.selects "KnitRiverModel" ⟨"KnitRiverModel","hasText","(I)Z"⟩ ⟨"KnitRiverModel","hasText","(I)Z"⟩,
  .selects "KnitRiverModel" ⟨"KnitRiverModel","yarnAs","(III)I"⟩ ⟨"KnitRiverModel","yarnAs","(III)I"⟩,
  .selects "KnitRiverModel" ⟨"KnitRiverModel","saidOf","(IIII)I"⟩ ⟨"KnitRiverModel","saidOf","(IIII)I"⟩,
  .selects "KnitRiverModel" ⟨"KnitRiverModel","yarnTold","(III)I"⟩ ⟨"KnitRiverModel","yarnTold","(III)I"⟩,
  .selects "KnitRiverModel" ⟨"KnitRiverModel","worked","(I)I"⟩ ⟨"KnitRiverModel","worked","(I)I"⟩,
  .selects "KnitRiverModel" ⟨"KnitRiverModel","lays1","(III)V"⟩ ⟨"KnitRiverModel","lays1","(III)V"⟩,
  .selects "KnitRiverModel" ⟨"KnitRiverModel","isRow","(I)Z"⟩ ⟨"KnitRiverModel","isRow","(I)Z"⟩,
  .selects "KnitRiverModel" ⟨"KnitRiverModel","its","(II)I"⟩ ⟨"KnitRiverModel","its","(II)I"⟩,
  .selects "KnitRiverModel" ⟨"KnitRiverModel","yarnOf","(I)I"⟩ ⟨"KnitRiverModel","yarnOf","(I)I"⟩,
  .selects "KnitRiverModel" ⟨"KnitRiverModel","holdsBy","(II)I"⟩ ⟨"KnitRiverModel","holdsBy","(II)I"⟩,
  .selects "KnitRiverModel" ⟨"KnitRiverModel","holdsTold","(III)I"⟩ ⟨"KnitRiverModel","holdsTold","(III)I"⟩,
  .selects "KnitRiverModel" ⟨"KnitRiverModel","change1","(II)I"⟩ ⟨"KnitRiverModel","change1","(II)I"⟩,
  .selects "KnitRiverModel" ⟨"KnitRiverModel","aSeason","(I)I"⟩ ⟨"KnitRiverModel","aSeason","(I)I"⟩,
  .selects "KnitRiverModel" ⟨"KnitRiverModel","letDown","(II)V"⟩ ⟨"KnitRiverModel","letDown","(II)V"⟩,
  .selects "KnitRiverModel" ⟨"KnitRiverModel","draw","()I"⟩ ⟨"KnitRiverModel","draw","()I"⟩,
  .selects "KnitRiverModel" ⟨"KnitRiverModel","findCourse","()V"⟩ ⟨"KnitRiverModel","findCourse","()V"⟩]
set_option maxRecDepth 100000 in
theorem Zcg2 : k2_sels lw_privs_3 = Zc2 := rfl
def Zc3 : List Cond := [.selects "KnitRiverModel" ⟨"KnitRiverModel","step","(II)V"⟩ ⟨"KnitRiverModel","step","(II)V"⟩,
  .selects "KnitRiverModel" ⟨"KnitRiverModel","leads","(IIIII)Z"⟩ ⟨"KnitRiverModel","leads","(IIIII)Z"⟩,
  .selects "KnitRiverModel" ⟨"KnitRiverModel","lacks","(I)I"⟩ ⟨"KnitRiverModel","lacks","(I)I"⟩,
  .selects "KnitRiverModel" ⟨"KnitRiverModel","kindNow","()I"⟩ ⟨"KnitRiverModel","kindNow","()I"⟩,
  .selects "KnitRiverModel" ⟨"KnitRiverModel","runsAs","(II)I"⟩ ⟨"KnitRiverModel","runsAs","(II)I"⟩,
  .selects "KnitRiverModel" ⟨"KnitRiverModel","starts","(I)V"⟩ ⟨"KnitRiverModel","starts","(I)V"⟩,
  .selects "KnitRiverModel" ⟨"KnitRiverModel","turnsAs","(II)I"⟩ ⟨"KnitRiverModel","turnsAs","(II)I"⟩,
  .selects "KnitRiverModel" ⟨"KnitRiverModel","mNow","()I"⟩ ⟨"KnitRiverModel","mNow","()I"⟩,
  .selects "KnitRiverModel" ⟨"KnitRiverModel","poolsAs","(II)I"⟩ ⟨"KnitRiverModel","poolsAs","(II)I"⟩,
  .selects "KnitRiverModel" ⟨"KnitRiverModel","partsAs","(II)I"⟩ ⟨"KnitRiverModel","partsAs","(II)I"⟩]
set_option maxRecDepth 100000 in
theorem Zcg3 : k2_sels lw_privs_4 = Zc3 := rfl
def Zc4 : List Cond := [.initialized "KnitRiverLaw",
  .initialized "KnitRiver",
  .initialized "KnitRiver$River",
  .initialized "KnitRiver$Text",
  .initialized "KnitRiver$Reader",
  .initialized "KnitRiver$Course",
  .initialized "KnitRiver$Reach",
  .initialized "KnitRiver$Voices",
  .initialized "KnitRiver$Sheet",
  .initialized "KnitRiverModel",
  .initialized "KnitRiver$Kinds",
  .initialized "java/lang/Math",
  .initialized "java/lang/System",
  .initialized "java/lang/Integer",
  .classLink "KnitRiverLaw" 7 "KnitRiver",
  .instantiable "KnitRiver" 9,
  .methodLink "KnitRiverLaw" 9 ⟨"KnitRiver","<init>","()V"⟩,
  .instanceMethod ⟨"KnitRiver","<init>","()V"⟩,
  .code ⟨"KnitRiver","<init>","()V"⟩ prog_1_method_1_code 2 none,
  .methodLink "KnitRiver" 1 ⟨"java/lang/Object","<init>","()V"⟩,
  .instanceMethod ⟨"java/lang/Object","<init>","()V"⟩,
  .code ⟨"java/lang/Object","<init>","()V"⟩ object_method_1_code 1 none,
  .classLink "KnitRiver" 7 "KnitRiver$River",
  .instantiable "KnitRiver$River" 17,
  .methodLink "KnitRiver" 9 ⟨"KnitRiver$River","<init>","()V"⟩,
  .instanceMethod ⟨"KnitRiver$River","<init>","()V"⟩,
  .code ⟨"KnitRiver$River","<init>","()V"⟩ prog_6_method_1_code 1 none,
  .methodLink "KnitRiver$River" 3 ⟨"java/lang/Object","<init>","()V"⟩,
  .classLink "KnitRiver$River" 59 "KnitRiver$Text",
  .arrayOver (.object "KnitRiver$Text"),
  .instantiable "KnitRiver$Text" 5,
  .methodLinkNest "KnitRiver$River" 68 ⟨"KnitRiver$Text","<init>","()V"⟩ "KnitRiver"]
def Zc5 : List Cond := [.instanceMethod ⟨"KnitRiver$Text","<init>","()V"⟩,
  .code ⟨"KnitRiver$Text","<init>","()V"⟩ prog_8_method_1_code 1 none,
  .methodLink "KnitRiver$Text" 3 ⟨"java/lang/Object","<init>","()V"⟩,
  .fieldLink "KnitRiver$Text" 9 "KnitRiver$Text" "known" "Z",
  .fieldLink "KnitRiver$River" 95 "KnitRiver$Text" "known" "Z",
  .fieldLink "KnitRiver" 163 "KnitRiver$Text" "known" "Z",
  .fieldLink "KnitRiver$Text" 15 "KnitRiver$Text" "code" "[I",
  .fieldLink "KnitRiver$Text" 19 "KnitRiver$Text" "size" "I",
  .fieldLink "KnitRiver$Text" 23 "KnitRiver$Text" "stack" "[I",
  .fieldLink "KnitRiver$Text" 26 "KnitRiver$Text" "top" "I",
  .lays "KnitRiver$Text" "KnitRiver$Text" "known" "Z",
  .soleField "KnitRiver$Text" "known",
  .laysFinal "KnitRiver$Text" "KnitRiver$Text" "code" "[I",
  .soleField "KnitRiver$Text" "code",
  .lays "KnitRiver$Text" "KnitRiver$Text" "size" "I",
  .soleField "KnitRiver$Text" "size",
  .laysFinal "KnitRiver$Text" "KnitRiver$Text" "stack" "[I",
  .soleField "KnitRiver$Text" "stack",
  .lays "KnitRiver$Text" "KnitRiver$Text" "top" "I",
  .soleField "KnitRiver$Text" "top",
  .superclass "KnitRiver$Text" "java/lang/Object",
  .arrayClass .int,
  .arrayClass .byte,
  .fieldLink "KnitRiver$River" 9 "KnitRiver$River" "kind" "[I",
  .fieldLink "KnitRiver$Voices" 39 "KnitRiver$River" "kind" "[I",
  .fieldLink "KnitRiver" 94 "KnitRiver$River" "kind" "[I",
  .fieldLink "KnitRiver$Course" 37 "KnitRiver$River" "kind" "[I",
  .fieldLink "KnitRiver$River" 15 "KnitRiver$River" "m" "[I",
  .fieldLink "KnitRiver$Voices" 43 "KnitRiver$River" "m" "[I",
  .fieldLink "KnitRiver" 97 "KnitRiver$River" "m" "[I",
  .fieldLink "KnitRiver$Course" 40 "KnitRiver$River" "m" "[I",
  .fieldLink "KnitRiver$River" 18 "KnitRiver$River" "wide" "[I"]
def Zc6 : List Cond := [.fieldLink "KnitRiver" 100 "KnitRiver$River" "wide" "[I",
  .fieldLink "KnitRiver$River" 21 "KnitRiver$River" "tension" "[I",
  .fieldLink "KnitRiver" 103 "KnitRiver$River" "tension" "[I",
  .fieldLink "KnitRiver$River" 24 "KnitRiver$River" "tied" "[I",
  .fieldLink "KnitRiver" 106 "KnitRiver$River" "tied" "[I",
  .fieldLink "KnitRiver$River" 27 "KnitRiver$River" "rows" "I",
  .fieldLink "KnitRiver" 77 "KnitRiver$River" "rows" "I",
  .fieldLink "KnitRiver$Course" 36 "KnitRiver$River" "rows" "I",
  .fieldLink "KnitRiver$River" 31 "KnitRiver$River" "thread" "I",
  .fieldLink "KnitRiver" 84 "KnitRiver$River" "thread" "I",
  .fieldLink "KnitRiver$River" 34 "KnitRiver$River" "way" "I",
  .fieldLink "KnitRiver$Course" 31 "KnitRiver$River" "way" "I",
  .fieldLink "KnitRiver" 128 "KnitRiver$River" "way" "I",
  .fieldLink "KnitRiver$River" 37 "KnitRiver$River" "season" "I",
  .fieldLink "KnitRiver" 174 "KnitRiver$River" "season" "I",
  .fieldLink "KnitRiver$River" 40 "KnitRiver$River" "sea" "I",
  .fieldLink "KnitRiver" 293 "KnitRiver$River" "sea" "I",
  .fieldLink "KnitRiver$River" 43 "KnitRiver$River" "z" "I",
  .fieldLink "KnitRiver" 187 "KnitRiver$River" "z" "I",
  .fieldLink "KnitRiver$River" 46 "KnitRiver$River" "tape" "[B",
  .fieldLink "KnitRiver" 133 "KnitRiver$River" "tape" "[B",
  .fieldLink "KnitRiver$River" 50 "KnitRiver$River" "bytes" "I",
  .fieldLink "KnitRiver" 130 "KnitRiver$River" "bytes" "I",
  .fieldLink "KnitRiver$River" 53 "KnitRiver$River" "waits" "[I",
  .fieldLink "KnitRiver" 290 "KnitRiver$River" "waits" "[I",
  .fieldLink "KnitRiver$River" 56 "KnitRiver$River" "waiting" "I",
  .fieldLink "KnitRiver" 287 "KnitRiver$River" "waiting" "I",
  .fieldLink "KnitRiver$River" 61 "KnitRiver$River" "texts" "[LKnitRiver$Text;",
  .fieldLink "KnitRiver" 147 "KnitRiver$River" "texts" "[LKnitRiver$Text;",
  .fieldLink "KnitRiver$River" 65 "KnitRiver$River" "comes" "[I",
  .fieldLink "KnitRiver" 193 "KnitRiver$River" "comes" "[I",
  .laysFinal "KnitRiver$River" "KnitRiver$River" "kind" "[I"]
def Zc7 : List Cond := [.soleField "KnitRiver$River" "kind",
  .laysFinal "KnitRiver$River" "KnitRiver$River" "m" "[I",
  .soleField "KnitRiver$River" "m",
  .laysFinal "KnitRiver$River" "KnitRiver$River" "wide" "[I",
  .soleField "KnitRiver$River" "wide",
  .laysFinal "KnitRiver$River" "KnitRiver$River" "tension" "[I",
  .soleField "KnitRiver$River" "tension",
  .laysFinal "KnitRiver$River" "KnitRiver$River" "tied" "[I",
  .soleField "KnitRiver$River" "tied",
  .lays "KnitRiver$River" "KnitRiver$River" "rows" "I",
  .soleField "KnitRiver$River" "rows",
  .lays "KnitRiver$River" "KnitRiver$River" "thread" "I",
  .soleField "KnitRiver$River" "thread",
  .lays "KnitRiver$River" "KnitRiver$River" "way" "I",
  .soleField "KnitRiver$River" "way",
  .lays "KnitRiver$River" "KnitRiver$River" "season" "I",
  .soleField "KnitRiver$River" "season",
  .lays "KnitRiver$River" "KnitRiver$River" "sea" "I",
  .soleField "KnitRiver$River" "sea",
  .lays "KnitRiver$River" "KnitRiver$River" "z" "I",
  .soleField "KnitRiver$River" "z",
  .laysFinal "KnitRiver$River" "KnitRiver$River" "tape" "[B",
  .soleField "KnitRiver$River" "tape",
  .lays "KnitRiver$River" "KnitRiver$River" "bytes" "I",
  .soleField "KnitRiver$River" "bytes",
  .laysFinal "KnitRiver$River" "KnitRiver$River" "waits" "[I",
  .soleField "KnitRiver$River" "waits",
  .lays "KnitRiver$River" "KnitRiver$River" "waiting" "I",
  .soleField "KnitRiver$River" "waiting",
  .laysFinal "KnitRiver$River" "KnitRiver$River" "texts" "[LKnitRiver$Text;",
  .soleField "KnitRiver$River" "texts",
  .laysFinal "KnitRiver$River" "KnitRiver$River" "comes" "[I"]
def Zc8 : List Cond := [.soleField "KnitRiver$River" "comes",
  .superclass "KnitRiver$River" "java/lang/Object",
  .classLink "KnitRiver" 19 "KnitRiver$Reader",
  .instantiable "KnitRiver$Reader" 6,
  .methodLinkNest "KnitRiver" 21 ⟨"KnitRiver$Reader","<init>","()V"⟩ "KnitRiver",
  .instanceMethod ⟨"KnitRiver$Reader","<init>","()V"⟩,
  .code ⟨"KnitRiver$Reader","<init>","()V"⟩ prog_5_method_1_code 1 none,
  .methodLink "KnitRiver$Reader" 3 ⟨"java/lang/Object","<init>","()V"⟩,
  .fieldLink "KnitRiver$Reader" 9 "KnitRiver$Reader" "code" "[I",
  .fieldLink "KnitRiver" 151 "KnitRiver$Reader" "code" "[I",
  .fieldLink "KnitRiver$Reader" 15 "KnitRiver$Reader" "size" "I",
  .fieldLink "KnitRiver" 154 "KnitRiver$Reader" "size" "I",
  .fieldLink "KnitRiver$Reader" 19 "KnitRiver$Reader" "at" "I",
  .fieldLink "KnitRiver" 144 "KnitRiver$Reader" "at" "I",
  .fieldLink "KnitRiver$Reader" 22 "KnitRiver$Reader" "tape" "[B",
  .fieldLink "KnitRiver$Reader" 26 "KnitRiver$Reader" "bytes" "I",
  .fieldLink "KnitRiver$Reader" 29 "KnitRiver$Reader" "use" "I",
  .laysFinal "KnitRiver$Reader" "KnitRiver$Reader" "code" "[I",
  .soleField "KnitRiver$Reader" "code",
  .lays "KnitRiver$Reader" "KnitRiver$Reader" "size" "I",
  .soleField "KnitRiver$Reader" "size",
  .lays "KnitRiver$Reader" "KnitRiver$Reader" "at" "I",
  .soleField "KnitRiver$Reader" "at",
  .lays "KnitRiver$Reader" "KnitRiver$Reader" "tape" "[B",
  .soleField "KnitRiver$Reader" "tape",
  .lays "KnitRiver$Reader" "KnitRiver$Reader" "bytes" "I",
  .soleField "KnitRiver$Reader" "bytes",
  .lays "KnitRiver$Reader" "KnitRiver$Reader" "use" "I",
  .soleField "KnitRiver$Reader" "use",
  .superclass "KnitRiver$Reader" "java/lang/Object",
  .classLink "KnitRiver" 26 "KnitRiver$Course",
  .instantiable "KnitRiver$Course" 4]
def Zc9 : List Cond := [.methodLinkNest "KnitRiver" 28 ⟨"KnitRiver$Course","<init>","()V"⟩ "KnitRiver",
  .instanceMethod ⟨"KnitRiver$Course","<init>","()V"⟩,
  .code ⟨"KnitRiver$Course","<init>","()V"⟩ prog_2_method_1_code 1 none,
  .methodLink "KnitRiver$Course" 3 ⟨"java/lang/Object","<init>","()V"⟩,
  .fieldLink "KnitRiver$Course" 9 "KnitRiver$Course" "across" "[I",
  .fieldLink "KnitRiver$Reach" 32 "KnitRiver$Course" "across" "[I",
  .fieldLink "KnitRiver" 200 "KnitRiver$Course" "across" "[I",
  .fieldLink "KnitRiver$Course" 15 "KnitRiver$Course" "down" "[I",
  .fieldLink "KnitRiver$Reach" 46 "KnitRiver$Course" "down" "[I",
  .fieldLink "KnitRiver" 203 "KnitRiver$Course" "down" "[I",
  .fieldLink "KnitRiver$Course" 18 "KnitRiver$Course" "rows" "I",
  .fieldLink "KnitRiver$Reach" 37 "KnitRiver$Course" "rows" "I",
  .fieldLink "KnitRiver$Course" 22 "KnitRiver$Course" "goes" "I",
  .fieldLink "KnitRiver$Reach" 69 "KnitRiver$Course" "goes" "I",
  .laysFinal "KnitRiver$Course" "KnitRiver$Course" "across" "[I",
  .soleField "KnitRiver$Course" "across",
  .laysFinal "KnitRiver$Course" "KnitRiver$Course" "down" "[I",
  .soleField "KnitRiver$Course" "down",
  .lays "KnitRiver$Course" "KnitRiver$Course" "rows" "I",
  .soleField "KnitRiver$Course" "rows",
  .lays "KnitRiver$Course" "KnitRiver$Course" "goes" "I",
  .soleField "KnitRiver$Course" "goes",
  .superclass "KnitRiver$Course" "java/lang/Object",
  .classLink "KnitRiver" 33 "KnitRiver$Reach",
  .instantiable "KnitRiver$Reach" 4,
  .methodLinkNest "KnitRiver" 35 ⟨"KnitRiver$Reach","<init>","()V"⟩ "KnitRiver",
  .instanceMethod ⟨"KnitRiver$Reach","<init>","()V"⟩,
  .code ⟨"KnitRiver$Reach","<init>","()V"⟩ prog_4_method_1_code 1 none,
  .methodLink "KnitRiver$Reach" 3 ⟨"java/lang/Object","<init>","()V"⟩,
  .fieldLink "KnitRiver$Reach" 9 "KnitRiver$Reach" "STITCHES" "[I",
  .laysStatic "KnitRiver$Reach" "STITCHES" "[I",
  .fieldLink "KnitRiver$Reach" 15 "KnitRiver$Reach" "yarns" "[I"]
def Zc10 : List Cond := [.fieldLink "KnitRiver$Reach" 18 "KnitRiver$Reach" "many" "I",
  .fieldLink "KnitRiver" 213 "KnitRiver$Reach" "many" "I",
  .fieldLink "KnitRiver$Reach" 22 "KnitRiver$Reach" "yarn" "I",
  .fieldLink "KnitRiver" 216 "KnitRiver$Reach" "yarn" "I",
  .fieldLink "KnitRiver$Reach" 25 "KnitRiver$Reach" "found" "I",
  .laysFinal "KnitRiver$Reach" "KnitRiver$Reach" "yarns" "[I",
  .soleField "KnitRiver$Reach" "yarns",
  .lays "KnitRiver$Reach" "KnitRiver$Reach" "many" "I",
  .soleField "KnitRiver$Reach" "many",
  .lays "KnitRiver$Reach" "KnitRiver$Reach" "yarn" "I",
  .soleField "KnitRiver$Reach" "yarn",
  .lays "KnitRiver$Reach" "KnitRiver$Reach" "found" "I",
  .soleField "KnitRiver$Reach" "found",
  .superclass "KnitRiver$Reach" "java/lang/Object",
  .classLink "KnitRiver" 40 "KnitRiver$Voices",
  .instantiable "KnitRiver$Voices" 9,
  .methodLinkNest "KnitRiver" 42 ⟨"KnitRiver$Voices","<init>","()V"⟩ "KnitRiver",
  .instanceMethod ⟨"KnitRiver$Voices","<init>","()V"⟩,
  .code ⟨"KnitRiver$Voices","<init>","()V"⟩ prog_9_method_1_code 1 none,
  .methodLink "KnitRiver$Voices" 1 ⟨"java/lang/Object","<init>","()V"⟩,
  .fieldLink "KnitRiver$Voices" 9 "KnitRiver$Voices" "trace" "[I",
  .fieldLink "KnitRiver" 262 "KnitRiver$Voices" "trace" "[I",
  .fieldLink "KnitRiver$Voices" 13 "KnitRiver$Voices" "traced" "I",
  .fieldLink "KnitRiver" 259 "KnitRiver$Voices" "traced" "I",
  .fieldLink "KnitRiver$Voices" 17 "KnitRiver$Voices" "answer" "I",
  .fieldLink "KnitRiver" 256 "KnitRiver$Voices" "answer" "I",
  .fieldLink "KnitRiver$Voices" 20 "KnitRiver$Voices" "begun" "[I",
  .fieldLink "KnitRiver$Voices" 23 "KnitRiver$Voices" "began" "I",
  .fieldLink "KnitRiver$Voices" 26 "KnitRiver$Voices" "parted" "Z",
  .fieldLink "KnitRiver$Voices" 30 "KnitRiver$Voices" "kind" "I",
  .fieldLink "KnitRiver$Voices" 33 "KnitRiver$Voices" "k" "I",
  .fieldLink "KnitRiver$Voices" 36 "KnitRiver$Voices" "m" "I"]
def Zc11 : List Cond := [.laysFinal "KnitRiver$Voices" "KnitRiver$Voices" "trace" "[I",
  .soleField "KnitRiver$Voices" "trace",
  .lays "KnitRiver$Voices" "KnitRiver$Voices" "traced" "I",
  .soleField "KnitRiver$Voices" "traced",
  .lays "KnitRiver$Voices" "KnitRiver$Voices" "answer" "I",
  .soleField "KnitRiver$Voices" "answer",
  .laysFinal "KnitRiver$Voices" "KnitRiver$Voices" "begun" "[I",
  .soleField "KnitRiver$Voices" "begun",
  .lays "KnitRiver$Voices" "KnitRiver$Voices" "began" "I",
  .soleField "KnitRiver$Voices" "began",
  .lays "KnitRiver$Voices" "KnitRiver$Voices" "parted" "Z",
  .soleField "KnitRiver$Voices" "parted",
  .lays "KnitRiver$Voices" "KnitRiver$Voices" "kind" "I",
  .soleField "KnitRiver$Voices" "kind",
  .lays "KnitRiver$Voices" "KnitRiver$Voices" "k" "I",
  .soleField "KnitRiver$Voices" "k"]
set_option maxRecDepth 100000 in
theorem Zcg4 : tables_1_1 = Zc4 ++ (Zc5 ++ (Zc6 ++ (Zc7 ++ (Zc8 ++ (Zc9 ++ (Zc10 ++ (Zc11))))))) := rfl
def Zc12 : List Cond := [.lays "KnitRiver$Voices" "KnitRiver$Voices" "m" "I",
  .soleField "KnitRiver$Voices" "m",
  .superclass "KnitRiver$Voices" "java/lang/Object",
  .classLink "KnitRiver" 47 "KnitRiver$Sheet",
  .arrayOver (.object "KnitRiver$Sheet"),
  .instantiable "KnitRiver$Sheet" 3,
  .methodLinkNest "KnitRiver" 61 ⟨"KnitRiver$Sheet","<init>","()V"⟩ "KnitRiver",
  .instanceMethod ⟨"KnitRiver$Sheet","<init>","()V"⟩,
  .code ⟨"KnitRiver$Sheet","<init>","()V"⟩ prog_7_method_1_code 1 none,
  .methodLink "KnitRiver$Sheet" 3 ⟨"java/lang/Object","<init>","()V"⟩,
  .fieldLink "KnitRiver$Sheet" 9 "KnitRiver$Sheet" "numbers" "[I",
  .fieldLink "KnitRiver" 245 "KnitRiver$Sheet" "numbers" "[I",
  .fieldLink "KnitRiver$Sheet" 15 "KnitRiver$Sheet" "bits" "I",
  .fieldLink "KnitRiver" 241 "KnitRiver$Sheet" "bits" "I",
  .fieldLink "KnitRiver$Sheet" 19 "KnitRiver$Sheet" "size" "I",
  .fieldLink "KnitRiver" 244 "KnitRiver$Sheet" "size" "I",
  .laysFinal "KnitRiver$Sheet" "KnitRiver$Sheet" "numbers" "[I",
  .soleField "KnitRiver$Sheet" "numbers",
  .lays "KnitRiver$Sheet" "KnitRiver$Sheet" "bits" "I",
  .soleField "KnitRiver$Sheet" "bits",
  .lays "KnitRiver$Sheet" "KnitRiver$Sheet" "size" "I",
  .soleField "KnitRiver$Sheet" "size",
  .superclass "KnitRiver$Sheet" "java/lang/Object",
  .fieldLink "KnitRiver" 10 "KnitRiver" "now" "LKnitRiver$River;",
  .fieldLink "KnitRiver" 16 "KnitRiver" "kept" "LKnitRiver$River;",
  .fieldLink "KnitRiver" 22 "KnitRiver" "reader" "LKnitRiver$Reader;",
  .fieldLink "KnitRiver" 29 "KnitRiver" "path" "LKnitRiver$Course;",
  .fieldLink "KnitRiver" 36 "KnitRiver" "way" "LKnitRiver$Reach;",
  .fieldLink "KnitRiver" 43 "KnitRiver" "voices" "LKnitRiver$Voices;",
  .fieldLink "KnitRiver" 49 "KnitRiver" "sheets" "[LKnitRiver$Sheet;",
  .fieldLink "KnitRiver" 53 "KnitRiver" "errors" "[I",
  .fieldLink "KnitRiver" 57 "KnitRiver" "images" "I"]
def Zc13 : List Cond := [.laysFinal "KnitRiver" "KnitRiver" "now" "LKnitRiver$River;",
  .soleField "KnitRiver" "now",
  .laysFinal "KnitRiver" "KnitRiver" "kept" "LKnitRiver$River;",
  .soleField "KnitRiver" "kept",
  .laysFinal "KnitRiver" "KnitRiver" "reader" "LKnitRiver$Reader;",
  .soleField "KnitRiver" "reader",
  .laysFinal "KnitRiver" "KnitRiver" "path" "LKnitRiver$Course;",
  .soleField "KnitRiver" "path",
  .laysFinal "KnitRiver" "KnitRiver" "way" "LKnitRiver$Reach;",
  .soleField "KnitRiver" "way",
  .laysFinal "KnitRiver" "KnitRiver" "voices" "LKnitRiver$Voices;",
  .soleField "KnitRiver" "voices",
  .laysFinal "KnitRiver" "KnitRiver" "sheets" "[LKnitRiver$Sheet;",
  .soleField "KnitRiver" "sheets",
  .laysFinal "KnitRiver" "KnitRiver" "errors" "[I",
  .soleField "KnitRiver" "errors",
  .lays "KnitRiver" "KnitRiver" "images" "I",
  .soleField "KnitRiver" "images",
  .superclass "KnitRiver" "java/lang/Object",
  .methodLink "KnitRiverLaw" 13 ⟨"KnitRiver","knit","(III)I"⟩,
  .instanceMethod ⟨"KnitRiver","knit","(III)I"⟩,
  .selects "KnitRiver" ⟨"KnitRiver","knit","(III)I"⟩ ⟨"KnitRiver","knit","(III)I"⟩,
  .code ⟨"KnitRiver","knit","(III)I"⟩ prog_1_method_2_code 5 (some .int),
  .methodLink "KnitRiver" 62 ⟨"KnitRiver","isStitch","(I)Z"⟩,
  .static ⟨"KnitRiver","isStitch","(I)Z"⟩,
  .code ⟨"KnitRiver","isStitch","(I)Z"⟩ prog_1_method_40_code 1 (some .boolean),
  .methodLink "KnitRiver" 66 ⟨"KnitRiver","within","(III)Z"⟩,
  .static ⟨"KnitRiver","within","(III)Z"⟩,
  .code ⟨"KnitRiver","within","(III)Z"⟩ prog_1_method_47_code 3 (some .boolean),
  .methodLink "KnitRiver" 70 ⟨"KnitRiver","isTension","(I)Z"⟩,
  .static ⟨"KnitRiver","isTension","(I)Z"⟩,
  .code ⟨"KnitRiver","isTension","(I)Z"⟩ prog_1_method_41_code 1 (some .boolean)]
def Zc14 : List Cond := [.methodLink "KnitRiver" 73 ⟨"KnitRiver","refuse","(I)I"⟩,
  .privateMethod ⟨"KnitRiver","refuse","(I)I"⟩,
  .instanceMethod ⟨"KnitRiver","refuse","(I)I"⟩,
  .code ⟨"KnitRiver","refuse","(I)I"⟩ prog_1_method_38_code 2 (some .int),
  .constant "KnitRiver" 296 (-1000000000),
  .methodLink "KnitRiver" 80 ⟨"KnitRiver$River","yarnFor","(III)I"⟩,
  .instanceMethod ⟨"KnitRiver$River","yarnFor","(III)I"⟩,
  .selects "KnitRiver$River" ⟨"KnitRiver$River","yarnFor","(III)I"⟩ ⟨"KnitRiver$River","yarnFor","(III)I"⟩,
  .code ⟨"KnitRiver$River","yarnFor","(III)I"⟩ prog_6_method_4_code 4 (some .int),
  .methodLink "KnitRiver$River" 79 ⟨"KnitRiver$Kinds","yarn","(IIII)I"⟩,
  .static ⟨"KnitRiver$Kinds","yarn","(IIII)I"⟩,
  .code ⟨"KnitRiver$Kinds","yarn","(IIII)I"⟩ prog_3_method_4_code 6 (some .int),
  .methodLink "KnitRiver$River" 85 ⟨"KnitRiver$River","given","(IIII)I"⟩,
  .instanceMethod ⟨"KnitRiver$River","given","(IIII)I"⟩,
  .selects "KnitRiver$River" ⟨"KnitRiver$River","given","(IIII)I"⟩ ⟨"KnitRiver$River","given","(IIII)I"⟩,
  .code ⟨"KnitRiver$River","given","(IIII)I"⟩ prog_6_method_7_code 6 (some .int),
  .methodLink "KnitRiver$River" 99 ⟨"KnitRiver$Text","workedOut","(III)I"⟩,
  .instanceMethod ⟨"KnitRiver$Text","workedOut","(III)I"⟩,
  .selects "KnitRiver$Text" ⟨"KnitRiver$Text","workedOut","(III)I"⟩ ⟨"KnitRiver$Text","workedOut","(III)I"⟩,
  .code ⟨"KnitRiver$Text","workedOut","(III)I"⟩ prog_8_method_4_code 8 (some .int),
  .methodLink "KnitRiver$Text" 49 ⟨"KnitRiver$Text","push","(I)V"⟩,
  .privateMethod ⟨"KnitRiver$Text","push","(I)V"⟩,
  .instanceMethod ⟨"KnitRiver$Text","push","(I)V"⟩,
  .code ⟨"KnitRiver$Text","push","(I)V"⟩ prog_8_method_5_code 2 none,
  .methodLink "KnitRiver$Text" 53 ⟨"KnitRiver$Text","pop","()I"⟩,
  .privateMethod ⟨"KnitRiver$Text","pop","()I"⟩,
  .instanceMethod ⟨"KnitRiver$Text","pop","()I"⟩,
  .code ⟨"KnitRiver$Text","pop","()I"⟩ prog_8_method_6_code 1 (some .int),
  .methodLink "KnitRiver$Text" 57 ⟨"KnitRiver$Text","joined","(III)I"⟩,
  .static ⟨"KnitRiver$Text","joined","(III)I"⟩,
  .code ⟨"KnitRiver$Text","joined","(III)I"⟩ prog_8_method_7_code 3 (some .int),
  .methodLinkNest "KnitRiver$River" 92 ⟨"KnitRiver","held","(III)I"⟩ "KnitRiver"]
def Zc15 : List Cond := [.static ⟨"KnitRiver","held","(III)I"⟩,
  .code ⟨"KnitRiver","held","(III)I"⟩ prog_1_method_48_code 3 (some .int),
  .methodLink "KnitRiver" 230 ⟨"java/lang/Math","min","(II)I"⟩,
  .static ⟨"java/lang/Math","min","(II)I"⟩,
  .code ⟨"java/lang/Math","min","(II)I"⟩ prog_13_method_69_code 2 (some .int),
  .methodLink "KnitRiver" 297 ⟨"java/lang/Math","max","(II)I"⟩,
  .static ⟨"java/lang/Math","max","(II)I"⟩,
  .code ⟨"java/lang/Math","max","(II)I"⟩ prog_13_method_65_code 2 (some .int),
  .methodLink "KnitRiver" 87 ⟨"KnitRiver$River","addRow","(III)V"⟩,
  .instanceMethod ⟨"KnitRiver$River","addRow","(III)V"⟩,
  .selects "KnitRiver$River" ⟨"KnitRiver$River","addRow","(III)V"⟩ ⟨"KnitRiver$River","addRow","(III)V"⟩,
  .code ⟨"KnitRiver$River","addRow","(III)V"⟩ prog_6_method_3_code 4 none,
  .methodLink "KnitRiverLaw" 18 ⟨"KnitRiver","rowIs","(II)I"⟩,
  .instanceMethod ⟨"KnitRiver","rowIs","(II)I"⟩,
  .selects "KnitRiver" ⟨"KnitRiver","rowIs","(II)I"⟩ ⟨"KnitRiver","rowIs","(II)I"⟩,
  .code ⟨"KnitRiver","rowIs","(II)I"⟩ prog_1_method_3_code 3 (some .int),
  .methodLink "KnitRiver" 91 ⟨"KnitRiver","isRow","(I)Z"⟩,
  .privateMethod ⟨"KnitRiver","isRow","(I)Z"⟩,
  .instanceMethod ⟨"KnitRiver","isRow","(I)Z"⟩,
  .code ⟨"KnitRiver","isRow","(I)Z"⟩ prog_1_method_39_code 2 (some .boolean),
  .methodLink "KnitRiver" 109 ⟨"KnitRiver$River","yarnOf","(I)I"⟩,
  .instanceMethod ⟨"KnitRiver$River","yarnOf","(I)I"⟩,
  .selects "KnitRiver$River" ⟨"KnitRiver$River","yarnOf","(I)I"⟩ ⟨"KnitRiver$River","yarnOf","(I)I"⟩,
  .code ⟨"KnitRiver$River","yarnOf","(I)I"⟩ prog_6_method_5_code 2 (some .int),
  .methodLink "KnitRiver$River" 88 ⟨"KnitRiver$River","yarnFor","(III)I"⟩,
  .methodLink "KnitRiver" 112 ⟨"KnitRiver$River","holdsOf","(II)I"⟩,
  .instanceMethod ⟨"KnitRiver$River","holdsOf","(II)I"⟩,
  .selects "KnitRiver$River" ⟨"KnitRiver$River","holdsOf","(II)I"⟩ ⟨"KnitRiver$River","holdsOf","(II)I"⟩,
  .code ⟨"KnitRiver$River","holdsOf","(II)I"⟩ prog_6_method_6_code 4 (some .int),
  .methodLink "KnitRiver" 116 ⟨"KnitRiver$Kinds","bends","(II)I"⟩,
  .static ⟨"KnitRiver$Kinds","bends","(II)I"⟩,
  .code ⟨"KnitRiver$Kinds","bends","(II)I"⟩ prog_3_method_5_code 3 (some .int)]
def Zc16 : List Cond := [.methodLink "KnitRiverLaw" 23 ⟨"KnitRiver","become","(II)I"⟩,
  .instanceMethod ⟨"KnitRiver","become","(II)I"⟩,
  .selects "KnitRiver" ⟨"KnitRiver","become","(II)I"⟩ ⟨"KnitRiver","become","(II)I"⟩,
  .code ⟨"KnitRiver","become","(II)I"⟩ prog_1_method_4_code 4 (some .int),
  .methodLink "KnitRiverLaw" 27 ⟨"KnitRiver","as","(II)I"⟩,
  .instanceMethod ⟨"KnitRiver","as","(II)I"⟩,
  .selects "KnitRiver" ⟨"KnitRiver","as","(II)I"⟩ ⟨"KnitRiver","as","(II)I"⟩,
  .code ⟨"KnitRiver","as","(II)I"⟩ prog_1_method_5_code 3 (some .int),
  .methodLink "KnitRiver" 121 ⟨"KnitRiver$Kinds","isOrIsUnder","(II)Z"⟩,
  .static ⟨"KnitRiver$Kinds","isOrIsUnder","(II)Z"⟩,
  .code ⟨"KnitRiver$Kinds","isOrIsUnder","(II)Z"⟩ prog_3_method_3_code 4 (some .boolean),
  .methodLink "KnitRiver$Kinds" 19 ⟨"KnitRiver$Kinds","above","(I)I"⟩,
  .static ⟨"KnitRiver$Kinds","above","(I)I"⟩,
  .code ⟨"KnitRiver$Kinds","above","(I)I"⟩ prog_3_method_2_code 1 (some .int),
  .methodLinkNest "KnitRiver$Kinds" 9 ⟨"KnitRiver","within","(III)Z"⟩ "KnitRiver",
  .fieldLink "KnitRiver$Kinds" 15 "KnitRiver$Kinds" "ABOVE" "[I",
  .laysStatic "KnitRiver$Kinds" "ABOVE" "[I",
  .methodLink "KnitRiverLaw" 31 ⟨"KnitRiver","tie","(II)I"⟩,
  .instanceMethod ⟨"KnitRiver","tie","(II)I"⟩,
  .selects "KnitRiver" ⟨"KnitRiver","tie","(II)I"⟩ ⟨"KnitRiver","tie","(II)I"⟩,
  .code ⟨"KnitRiver","tie","(II)I"⟩ prog_1_method_6_code 4 (some .int),
  .methodLink "KnitRiverLaw" 35 ⟨"KnitRiver","drop","(I)I"⟩,
  .instanceMethod ⟨"KnitRiver","drop","(I)I"⟩,
  .selects "KnitRiver" ⟨"KnitRiver","drop","(I)I"⟩ ⟨"KnitRiver","drop","(I)I"⟩,
  .code ⟨"KnitRiver","drop","(I)I"⟩ prog_1_method_7_code 2 (some .int),
  .methodLink "KnitRiverLaw" 40 ⟨"KnitRiver","tense","(II)I"⟩,
  .instanceMethod ⟨"KnitRiver","tense","(II)I"⟩,
  .selects "KnitRiver" ⟨"KnitRiver","tense","(II)I"⟩ ⟨"KnitRiver","tense","(II)I"⟩,
  .code ⟨"KnitRiver","tense","(II)I"⟩ prog_1_method_8_code 4 (some .int),
  .methodLink "KnitRiverLaw" 44 ⟨"KnitRiver","pull","(I)I"⟩,
  .instanceMethod ⟨"KnitRiver","pull","(I)I"⟩,
  .selects "KnitRiver" ⟨"KnitRiver","pull","(I)I"⟩ ⟨"KnitRiver","pull","(I)I"⟩]
def Zc17 : List Cond := [.code ⟨"KnitRiver","pull","(I)I"⟩ prog_1_method_9_code 2 (some .int),
  .methodLink "KnitRiver" 125 ⟨"KnitRiver$River","undo","(I)I"⟩,
  .instanceMethod ⟨"KnitRiver$River","undo","(I)I"⟩,
  .selects "KnitRiver$River" ⟨"KnitRiver$River","undo","(I)I"⟩ ⟨"KnitRiver$River","undo","(I)I"⟩,
  .code ⟨"KnitRiver$River","undo","(I)I"⟩ prog_6_method_9_code 4 (some .int),
  .methodLink "KnitRiver$River" 111 ⟨"KnitRiver$River","yarnOf","(I)I"⟩,
  .methodLink "KnitRiver$River" 106 ⟨"java/lang/Math","min","(II)I"⟩,
  .methodLink "KnitRiverLaw" 48 ⟨"KnitRiver","wind","(II)I"⟩,
  .instanceMethod ⟨"KnitRiver","wind","(II)I"⟩,
  .selects "KnitRiver" ⟨"KnitRiver","wind","(II)I"⟩ ⟨"KnitRiver","wind","(II)I"⟩,
  .code ⟨"KnitRiver","wind","(II)I"⟩ prog_1_method_10_code 4 (some .int),
  .methodLink "KnitRiverLaw" 54 ⟨"KnitRiver","feed","(JI)I"⟩,
  .instanceMethod ⟨"KnitRiver","feed","(JI)I"⟩,
  .selects "KnitRiver" ⟨"KnitRiver","feed","(JI)I"⟩ ⟨"KnitRiver","feed","(JI)I"⟩,
  .code ⟨"KnitRiver","feed","(JI)I"⟩ prog_1_method_11_code 5 (some .int),
  .methodLink "KnitRiverLaw" 59 ⟨"KnitRiver","text","(I)I"⟩,
  .instanceMethod ⟨"KnitRiver","text","(I)I"⟩,
  .selects "KnitRiver" ⟨"KnitRiver","text","(I)I"⟩ ⟨"KnitRiver","text","(I)I"⟩,
  .code ⟨"KnitRiver","text","(I)I"⟩ prog_1_method_12_code 3 (some .int),
  .methodLink "KnitRiver" 137 ⟨"KnitRiver","isUse","(I)Z"⟩,
  .static ⟨"KnitRiver","isUse","(I)Z"⟩,
  .code ⟨"KnitRiver","isUse","(I)Z"⟩ prog_1_method_43_code 1 (some .boolean),
  .methodLink "KnitRiver" 140 ⟨"KnitRiver$Reader","reads","([BII)Z"⟩,
  .instanceMethod ⟨"KnitRiver$Reader","reads","([BII)Z"⟩,
  .selects "KnitRiver$Reader" ⟨"KnitRiver$Reader","reads","([BII)Z"⟩ ⟨"KnitRiver$Reader","reads","([BII)Z"⟩,
  .code ⟨"KnitRiver$Reader","reads","([BII)Z"⟩ prog_5_method_2_code 4 (some .boolean),
  .methodLinkNest "KnitRiver$Reader" 32 ⟨"KnitRiver","held","(III)I"⟩ "KnitRiver",
  .methodLink "KnitRiver$Reader" 36 ⟨"KnitRiver$Reader","part","(II)Z"⟩,
  .privateMethod ⟨"KnitRiver$Reader","part","(II)Z"⟩,
  .instanceMethod ⟨"KnitRiver$Reader","part","(II)Z"⟩,
  .code ⟨"KnitRiver$Reader","part","(II)Z"⟩ prog_5_method_5_code 6 (some .boolean),
  .methodLink "KnitRiver$Reader" 40 ⟨"KnitRiver$Reader","between","(II)Z"⟩]
def Zc18 : List Cond := [.privateMethod ⟨"KnitRiver$Reader","between","(II)Z"⟩,
  .instanceMethod ⟨"KnitRiver$Reader","between","(II)Z"⟩,
  .code ⟨"KnitRiver$Reader","between","(II)Z"⟩ prog_5_method_6_code 3 (some .boolean),
  .methodLink "KnitRiver$Reader" 55 ⟨"KnitRiver$Reader","piece","(I)Z"⟩,
  .privateMethod ⟨"KnitRiver$Reader","piece","(I)Z"⟩,
  .instanceMethod ⟨"KnitRiver$Reader","piece","(I)Z"⟩,
  .code ⟨"KnitRiver$Reader","piece","(I)Z"⟩ prog_5_method_8_code 4 (some .boolean),
  .methodLink "KnitRiver$Reader" 43 ⟨"KnitRiver$Reader","next","()I"⟩,
  .privateMethod ⟨"KnitRiver$Reader","next","()I"⟩,
  .instanceMethod ⟨"KnitRiver$Reader","next","()I"⟩,
  .code ⟨"KnitRiver$Reader","next","()I"⟩ prog_5_method_3_code 1 (some .int),
  .methodLink "KnitRiver$Reader" 59 ⟨"KnitRiver$Reader","isDigit","(I)Z"⟩,
  .static ⟨"KnitRiver$Reader","isDigit","(I)Z"⟩,
  .code ⟨"KnitRiver$Reader","isDigit","(I)Z"⟩ prog_5_method_11_code 1 (some .boolean),
  .methodLink "KnitRiver$Reader" 62 ⟨"KnitRiver$Reader","number","()V"⟩,
  .privateMethod ⟨"KnitRiver$Reader","number","()V"⟩,
  .instanceMethod ⟨"KnitRiver$Reader","number","()V"⟩,
  .code ⟨"KnitRiver$Reader","number","()V"⟩ prog_5_method_10_code 3 none,
  .methodLink "KnitRiver$Reader" 51 ⟨"KnitRiver$Reader","keep","(I)V"⟩,
  .privateMethod ⟨"KnitRiver$Reader","keep","(I)V"⟩,
  .instanceMethod ⟨"KnitRiver$Reader","keep","(I)V"⟩,
  .code ⟨"KnitRiver$Reader","keep","(I)V"⟩ prog_5_method_4_code 2 none,
  .methodLink "KnitRiver$Reader" 65 ⟨"KnitRiver$Reader","opened","(II)Z"⟩,
  .privateMethod ⟨"KnitRiver$Reader","opened","(II)Z"⟩,
  .instanceMethod ⟨"KnitRiver$Reader","opened","(II)Z"⟩,
  .code ⟨"KnitRiver$Reader","opened","(II)Z"⟩ prog_5_method_9_code 4 (some .boolean),
  .methodLink "KnitRiver$Reader" 68 ⟨"KnitRiver$Reader","nameOf","(I)I"⟩,
  .privateMethod ⟨"KnitRiver$Reader","nameOf","(I)I"⟩,
  .instanceMethod ⟨"KnitRiver$Reader","nameOf","(I)I"⟩,
  .code ⟨"KnitRiver$Reader","nameOf","(I)I"⟩ prog_5_method_12_code 4 (some .int),
  .fieldLink "KnitRiver$Reader" 71 "KnitRiver$Reader" "NAMES" "[C",
  .laysStatic "KnitRiver$Reader" "NAMES" "[C"]
def Zc19 : List Cond := [.methodLink "KnitRiver$Reader" 47 ⟨"KnitRiver$Reader","levelOf","(I)I"⟩,
  .static ⟨"KnitRiver$Reader","levelOf","(I)I"⟩,
  .code ⟨"KnitRiver$Reader","levelOf","(I)I"⟩ prog_5_method_7_code 1 (some .int),
  .methodLink "KnitRiver" 157 ⟨"KnitRiver$Text","take","([II)V"⟩,
  .instanceMethod ⟨"KnitRiver$Text","take","([II)V"⟩,
  .selects "KnitRiver$Text" ⟨"KnitRiver$Text","take","([II)V"⟩ ⟨"KnitRiver$Text","take","([II)V"⟩,
  .code ⟨"KnitRiver$Text","take","([II)V"⟩ prog_8_method_2_code 3 none,
  .methodLink "KnitRiver$Text" 29 ⟨"java/lang/Math","min","(II)I"⟩,
  .methodLinkNest "KnitRiver$Text" 35 ⟨"KnitRiver","held","(III)I"⟩ "KnitRiver",
  .methodLink "KnitRiver$Text" 39 ⟨"java/lang/System","arraycopy","(Ljava/lang/Object;ILjava/lang/Object;II)V"⟩,
  .static ⟨"java/lang/System","arraycopy","(Ljava/lang/Object;ILjava/lang/Object;II)V"⟩,
  .native ⟨"java/lang/System","arraycopy","(Ljava/lang/Object;ILjava/lang/Object;II)V"⟩,
  .methodLink "KnitRiverLaw" 63 ⟨"KnitRiver","untell","(I)I"⟩,
  .instanceMethod ⟨"KnitRiver","untell","(I)I"⟩,
  .selects "KnitRiver" ⟨"KnitRiver","untell","(I)I"⟩ ⟨"KnitRiver","untell","(I)I"⟩,
  .code ⟨"KnitRiver","untell","(I)I"⟩ prog_1_method_13_code 3 (some .int)]
set_option maxRecDepth 100000 in
theorem Zcg5 : tables_1_2 = Zc12 ++ (Zc13 ++ (Zc14 ++ (Zc15 ++ (Zc16 ++ (Zc17 ++ (Zc18 ++ (Zc19))))))) := rfl
def Zc20 : List Cond := [.methodLink "KnitRiverLaw" 67 ⟨"KnitRiver","law","(IIII)I"⟩,
  .instanceMethod ⟨"KnitRiver","law","(IIII)I"⟩,
  .selects "KnitRiver" ⟨"KnitRiver","law","(IIII)I"⟩ ⟨"KnitRiver","law","(IIII)I"⟩,
  .code ⟨"KnitRiver","law","(IIII)I"⟩ prog_1_method_14_code 5 (some .int),
  .methodLink "KnitRiver" 167 ⟨"KnitRiver$River","given","(IIII)I"⟩,
  .methodLink "KnitRiverLaw" 72 ⟨"KnitRiver","season","(I)I"⟩,
  .instanceMethod ⟨"KnitRiver","season","(I)I"⟩,
  .selects "KnitRiver" ⟨"KnitRiver","season","(I)I"⟩ ⟨"KnitRiver","season","(I)I"⟩,
  .code ⟨"KnitRiver","season","(I)I"⟩ prog_1_method_15_code 2 (some .int),
  .methodLink "KnitRiver" 171 ⟨"KnitRiver","isWater","(I)Z"⟩,
  .static ⟨"KnitRiver","isWater","(I)Z"⟩,
  .code ⟨"KnitRiver","isWater","(I)Z"⟩ prog_1_method_42_code 1 (some .boolean),
  .methodLink "KnitRiver" 177 ⟨"KnitRiver$River","pass","(I)I"⟩,
  .instanceMethod ⟨"KnitRiver$River","pass","(I)I"⟩,
  .selects "KnitRiver$River" ⟨"KnitRiver$River","pass","(I)I"⟩ ⟨"KnitRiver$River","pass","(I)I"⟩,
  .code ⟨"KnitRiver$River","pass","(I)I"⟩ prog_6_method_11_code 4 (some .int),
  .methodLink "KnitRiver$River" 115 ⟨"KnitRiver$River","waters","(II)I"⟩,
  .instanceMethod ⟨"KnitRiver$River","waters","(II)I"⟩,
  .selects "KnitRiver$River" ⟨"KnitRiver$River","waters","(II)I"⟩ ⟨"KnitRiver$River","waters","(II)I"⟩,
  .code ⟨"KnitRiver$River","waters","(II)I"⟩ prog_6_method_10_code 6 (some .int),
  .methodLink "KnitRiver$River" 102 ⟨"KnitRiver$River","holdsOf","(II)I"⟩,
  .methodLink "KnitRiver$River" 118 ⟨"java/lang/Math","max","(II)I"⟩,
  .methodLink "KnitRiverLaw" 76 ⟨"KnitRiver","loose","(I)I"⟩,
  .instanceMethod ⟨"KnitRiver","loose","(I)I"⟩,
  .selects "KnitRiver" ⟨"KnitRiver","loose","(I)I"⟩ ⟨"KnitRiver","loose","(I)I"⟩,
  .code ⟨"KnitRiver","loose","(I)I"⟩ prog_1_method_16_code 4 (some .int),
  .methodLink "KnitRiver" 180 ⟨"KnitRiver$River","draw","()I"⟩,
  .instanceMethod ⟨"KnitRiver$River","draw","()I"⟩,
  .selects "KnitRiver$River" ⟨"KnitRiver$River","draw","()I"⟩ ⟨"KnitRiver$River","draw","()I"⟩,
  .code ⟨"KnitRiver$River","draw","()I"⟩ prog_6_method_13_code 1 (some .int),
  .constant "KnitRiver$River" 125 1103515245,
  .methodLink "KnitRiver" 184 ⟨"KnitRiver$River","wear","()V"⟩]
def Zc21 : List Cond := [.instanceMethod ⟨"KnitRiver$River","wear","()V"⟩,
  .selects "KnitRiver$River" ⟨"KnitRiver$River","wear","()V"⟩ ⟨"KnitRiver$River","wear","()V"⟩,
  .code ⟨"KnitRiver$River","wear","()V"⟩ prog_6_method_12_code 3 none,
  .methodLink "KnitRiver$River" 121 ⟨"KnitRiver$River","draw","()I"⟩,
  .methodLink "KnitRiverLaw" 80 ⟨"KnitRiver","seed","(I)I"⟩,
  .instanceMethod ⟨"KnitRiver","seed","(I)I"⟩,
  .selects "KnitRiver" ⟨"KnitRiver","seed","(I)I"⟩ ⟨"KnitRiver","seed","(I)I"⟩,
  .code ⟨"KnitRiver","seed","(I)I"⟩ prog_1_method_17_code 3 (some .int),
  .methodLink "KnitRiverLaw" 84 ⟨"KnitRiver","flow","(III)I"⟩,
  .instanceMethod ⟨"KnitRiver","flow","(III)I"⟩,
  .selects "KnitRiver" ⟨"KnitRiver","flow","(III)I"⟩ ⟨"KnitRiver","flow","(III)I"⟩,
  .code ⟨"KnitRiver","flow","(III)I"⟩ prog_1_method_18_code 5 (some .int),
  .methodLink "KnitRiver" 190 ⟨"KnitRiver$River","waters","(II)I"⟩,
  .methodLink "KnitRiverLaw" 88 ⟨"KnitRiver","course","(II)I"⟩,
  .instanceMethod ⟨"KnitRiver","course","(II)I"⟩,
  .selects "KnitRiver" ⟨"KnitRiver","course","(II)I"⟩ ⟨"KnitRiver","course","(II)I"⟩,
  .code ⟨"KnitRiver","course","(II)I"⟩ prog_1_method_19_code 3 (some .int),
  .methodLink "KnitRiver" 196 ⟨"KnitRiver$Course","follow","(LKnitRiver$River;)V"⟩,
  .instanceMethod ⟨"KnitRiver$Course","follow","(LKnitRiver$River;)V"⟩,
  .selects "KnitRiver$Course" ⟨"KnitRiver$Course","follow","(LKnitRiver$River;)V"⟩ ⟨"KnitRiver$Course","follow","(LKnitRiver$River;)V"⟩,
  .code ⟨"KnitRiver$Course","follow","(LKnitRiver$River;)V"⟩ prog_2_method_5_code 3 none,
  .methodLink "KnitRiver$Course" 43 ⟨"KnitRiver$Kinds","bends","(II)I"⟩,
  .methodLink "KnitRiver$Course" 48 ⟨"KnitRiver$Course","turned","(II)I"⟩,
  .static ⟨"KnitRiver$Course","turned","(II)I"⟩,
  .code ⟨"KnitRiver$Course","turned","(II)I"⟩ prog_2_method_2_code 2 (some .int),
  .methodLink "KnitRiver$Course" 25 ⟨"java/lang/Math","floorMod","(II)I"⟩,
  .static ⟨"java/lang/Math","floorMod","(II)I"⟩,
  .code ⟨"java/lang/Math","floorMod","(II)I"⟩ prog_13_method_50_code 3 (some .int),
  .methodLink "KnitRiver$Course" 51 ⟨"KnitRiver$Course","acrossMore","(I)I"⟩,
  .static ⟨"KnitRiver$Course","acrossMore","(I)I"⟩,
  .code ⟨"KnitRiver$Course","acrossMore","(I)I"⟩ prog_2_method_3_code 1 (some .int),
  .methodLink "KnitRiver$Course" 55 ⟨"KnitRiver$Course","downMore","(I)I"⟩]
def Zc22 : List Cond := [.static ⟨"KnitRiver$Course","downMore","(I)I"⟩,
  .code ⟨"KnitRiver$Course","downMore","(I)I"⟩ prog_2_method_4_code 1 (some .int),
  .methodLink "KnitRiverLaw" 92 ⟨"KnitRiver","crosses","()I"⟩,
  .instanceMethod ⟨"KnitRiver","crosses","()I"⟩,
  .selects "KnitRiver" ⟨"KnitRiver","crosses","()I"⟩ ⟨"KnitRiver","crosses","()I"⟩,
  .code ⟨"KnitRiver","crosses","()I"⟩ prog_1_method_20_code 1 (some .int),
  .methodLink "KnitRiver" 206 ⟨"KnitRiver$Course","crossings","()I"⟩,
  .instanceMethod ⟨"KnitRiver$Course","crossings","()I"⟩,
  .selects "KnitRiver$Course" ⟨"KnitRiver$Course","crossings","()I"⟩ ⟨"KnitRiver$Course","crossings","()I"⟩,
  .code ⟨"KnitRiver$Course","crossings","()I"⟩ prog_2_method_6_code 3 (some .int),
  .methodLink "KnitRiver$Course" 58 ⟨"KnitRiver$Course","wasAhead","(I)Z"⟩,
  .privateMethod ⟨"KnitRiver$Course","wasAhead","(I)Z"⟩,
  .instanceMethod ⟨"KnitRiver$Course","wasAhead","(I)Z"⟩,
  .code ⟨"KnitRiver$Course","wasAhead","(I)Z"⟩ prog_2_method_7_code 3 (some .boolean),
  .methodLink "KnitRiverLaw" 97 ⟨"KnitRiver","reach","(III)I"⟩,
  .instanceMethod ⟨"KnitRiver","reach","(III)I"⟩,
  .selects "KnitRiver" ⟨"KnitRiver","reach","(III)I"⟩ ⟨"KnitRiver","reach","(III)I"⟩,
  .code ⟨"KnitRiver","reach","(III)I"⟩ prog_1_method_21_code 4 (some .int),
  .methodLink "KnitRiver" 209 ⟨"KnitRiver$Reach","finds","(LKnitRiver$River;LKnitRiver$Course;II)Z"⟩,
  .instanceMethod ⟨"KnitRiver$Reach","finds","(LKnitRiver$River;LKnitRiver$Course;II)Z"⟩,
  .selects "KnitRiver$Reach" ⟨"KnitRiver$Reach","finds","(LKnitRiver$River;LKnitRiver$Course;II)Z"⟩ ⟨"KnitRiver$Reach","finds","(LKnitRiver$River;LKnitRiver$Course;II)Z"⟩,
  .code ⟨"KnitRiver$Reach","finds","(LKnitRiver$River;LKnitRiver$Course;II)Z"⟩ prog_4_method_3_code 7 (some .boolean),
  .methodLink "KnitRiver$Reach" 40 ⟨"java/lang/Math","abs","(I)I"⟩,
  .static ⟨"java/lang/Math","abs","(I)I"⟩,
  .code ⟨"java/lang/Math","abs","(I)I"⟩ prog_13_method_59_code 1 (some .int),
  .methodLink "KnitRiver$Reach" 49 ⟨"java/lang/Math","min","(II)I"⟩,
  .methodLink "KnitRiver$Reach" 53 ⟨"KnitRiver$River","yarnFor","(III)I"⟩,
  .methodLink "KnitRiver$Reach" 58 ⟨"KnitRiver$Reach","leads","(ILKnitRiver$Course;II)Z"⟩,
  .privateMethod ⟨"KnitRiver$Reach","leads","(ILKnitRiver$Course;II)Z"⟩,
  .instanceMethod ⟨"KnitRiver$Reach","leads","(ILKnitRiver$Course;II)Z"⟩,
  .code ⟨"KnitRiver$Reach","leads","(ILKnitRiver$Course;II)Z"⟩ prog_4_method_5_code 10 (some .boolean),
  .methodLink "KnitRiver$Reach" 28 ⟨"KnitRiver$Reach","digit","(III)I"⟩]
def Zc23 : List Cond := [.static ⟨"KnitRiver$Reach","digit","(III)I"⟩,
  .code ⟨"KnitRiver$Reach","digit","(III)I"⟩ prog_4_method_7_code 3 (some .int),
  .methodLink "KnitRiver$Reach" 72 ⟨"KnitRiver$Kinds","bends","(II)I"⟩,
  .methodLink "KnitRiver$Reach" 77 ⟨"KnitRiver$Course","turned","(II)I"⟩,
  .methodLink "KnitRiver$Reach" 80 ⟨"KnitRiver$Course","acrossMore","(I)I"⟩,
  .methodLink "KnitRiver$Reach" 83 ⟨"KnitRiver$Course","downMore","(I)I"⟩,
  .methodLink "KnitRiver$Reach" 62 ⟨"KnitRiver$Reach","keepIfLess","(I)V"⟩,
  .privateMethod ⟨"KnitRiver$Reach","keepIfLess","(I)V"⟩,
  .instanceMethod ⟨"KnitRiver$Reach","keepIfLess","(I)V"⟩,
  .code ⟨"KnitRiver$Reach","keepIfLess","(I)V"⟩ prog_4_method_4_code 3 none,
  .methodLink "KnitRiver$Reach" 66 ⟨"KnitRiver$Reach","yarnOf","(I)I"⟩,
  .privateMethod ⟨"KnitRiver$Reach","yarnOf","(I)I"⟩,
  .instanceMethod ⟨"KnitRiver$Reach","yarnOf","(I)I"⟩,
  .code ⟨"KnitRiver$Reach","yarnOf","(I)I"⟩ prog_4_method_6_code 4 (some .int),
  .methodLink "KnitRiver" 219 ⟨"KnitRiver$Reach","stitch","(I)I"⟩,
  .instanceMethod ⟨"KnitRiver$Reach","stitch","(I)I"⟩,
  .selects "KnitRiver$Reach" ⟨"KnitRiver$Reach","stitch","(I)I"⟩ ⟨"KnitRiver$Reach","stitch","(I)I"⟩,
  .code ⟨"KnitRiver$Reach","stitch","(I)I"⟩ prog_4_method_2_code 2 (some .int),
  .methodLink "KnitRiverLaw" 101 ⟨"KnitRiver","ease","(II)I"⟩,
  .instanceMethod ⟨"KnitRiver","ease","(II)I"⟩,
  .selects "KnitRiver" ⟨"KnitRiver","ease","(II)I"⟩ ⟨"KnitRiver","ease","(II)I"⟩,
  .code ⟨"KnitRiver","ease","(II)I"⟩ prog_1_method_22_code 7 (some .int),
  .methodLink "KnitRiver" 222 ⟨"java/lang/Integer","bitCount","(I)I"⟩,
  .static ⟨"java/lang/Integer","bitCount","(I)I"⟩,
  .code ⟨"java/lang/Integer","bitCount","(I)I"⟩ prog_12_method_49_code 1 (some .int),
  .constant "java/lang/Integer" 265 1431655765,
  .constant "java/lang/Integer" 266 858993459,
  .constant "java/lang/Integer" 267 252645135,
  .methodLink "KnitRiverLaw" 105 ⟨"KnitRiver","odds","(I)I"⟩,
  .instanceMethod ⟨"KnitRiver","odds","(I)I"⟩,
  .selects "KnitRiver" ⟨"KnitRiver","odds","(I)I"⟩ ⟨"KnitRiver","odds","(I)I"⟩,
  .code ⟨"KnitRiver","odds","(I)I"⟩ prog_1_method_23_code 5 (some .int)]
def Zc24 : List Cond := [.methodLink "KnitRiver" 227 ⟨"KnitRiver$River","leastHolds","()I"⟩,
  .instanceMethod ⟨"KnitRiver$River","leastHolds","()I"⟩,
  .selects "KnitRiver$River" ⟨"KnitRiver$River","leastHolds","()I"⟩ ⟨"KnitRiver$River","leastHolds","()I"⟩,
  .code ⟨"KnitRiver$River","leastHolds","()I"⟩ prog_6_method_8_code 3 (some .int),
  .methodLink "KnitRiver" 235 ⟨"KnitRiver","commonDivisor","(II)I"⟩,
  .static ⟨"KnitRiver","commonDivisor","(II)I"⟩,
  .code ⟨"KnitRiver","commonDivisor","(II)I"⟩ prog_1_method_49_code 6 (some .int),
  .methodLink "KnitRiverLaw" 109 ⟨"KnitRiver","fits","(II)I"⟩,
  .instanceMethod ⟨"KnitRiver","fits","(II)I"⟩,
  .selects "KnitRiver" ⟨"KnitRiver","fits","(II)I"⟩ ⟨"KnitRiver","fits","(II)I"⟩,
  .code ⟨"KnitRiver","fits","(II)I"⟩ prog_1_method_24_code 6 (some .int),
  .methodLink "KnitRiver" 238 ⟨"KnitRiver","isSheet","(I)Z"⟩,
  .static ⟨"KnitRiver","isSheet","(I)Z"⟩,
  .code ⟨"KnitRiver","isSheet","(I)Z"⟩ prog_1_method_44_code 1 (some .boolean),
  .methodLink "KnitRiver" 248 ⟨"KnitRiver","comesAsTold","(ILKnitRiver$Sheet;)Z"⟩,
  .privateMethod ⟨"KnitRiver","comesAsTold","(ILKnitRiver$Sheet;)Z"⟩,
  .instanceMethod ⟨"KnitRiver","comesAsTold","(ILKnitRiver$Sheet;)Z"⟩,
  .code ⟨"KnitRiver","comesAsTold","(ILKnitRiver$Sheet;)Z"⟩ prog_1_method_46_code 4 (some .boolean),
  .methodLink "KnitRiverLaw" 113 ⟨"KnitRiver","voice","(III)I"⟩,
  .instanceMethod ⟨"KnitRiver","voice","(III)I"⟩,
  .selects "KnitRiver" ⟨"KnitRiver","voice","(III)I"⟩ ⟨"KnitRiver","voice","(III)I"⟩,
  .code ⟨"KnitRiver","voice","(III)I"⟩ prog_1_method_25_code 4 (some .int),
  .methodLink "KnitRiver" 252 ⟨"KnitRiver$Voices","utters","(LKnitRiver$River;III)Z"⟩,
  .instanceMethod ⟨"KnitRiver$Voices","utters","(LKnitRiver$River;III)Z"⟩,
  .selects "KnitRiver$Voices" ⟨"KnitRiver$Voices","utters","(LKnitRiver$River;III)Z"⟩ ⟨"KnitRiver$Voices","utters","(LKnitRiver$River;III)Z"⟩,
  .code ⟨"KnitRiver$Voices","utters","(LKnitRiver$River;III)Z"⟩ prog_9_method_2_code 6 (some .boolean),
  .methodLink "KnitRiver$Voices" 45 ⟨"KnitRiver$Voices","spoken","(IIII)I"⟩,
  .privateMethod ⟨"KnitRiver$Voices","spoken","(IIII)I"⟩,
  .instanceMethod ⟨"KnitRiver$Voices","spoken","(IIII)I"⟩,
  .code ⟨"KnitRiver$Voices","spoken","(IIII)I"⟩ prog_9_method_3_code 6 (some .int),
  .methodLink "KnitRiver$Voices" 55 ⟨"KnitRiver$Voices","bodyOf","(II)I"⟩,
  .static ⟨"KnitRiver$Voices","bodyOf","(II)I"⟩]
def Zc25 : List Cond := [.code ⟨"KnitRiver$Voices","bodyOf","(II)I"⟩ prog_9_method_4_code 5 (some .int),
  .fieldLink "KnitRiver$Voices" 65 "KnitRiver$Voices" "BODIES" "[I",
  .laysStatic "KnitRiver$Voices" "BODIES" "[I",
  .methodLink "KnitRiver$Voices" 68 ⟨"KnitRiver$Kinds","above","(I)I"⟩,
  .methodLink "KnitRiver$Voices" 59 ⟨"KnitRiver$Voices","workedOut","(III)I"⟩,
  .privateMethod ⟨"KnitRiver$Voices","workedOut","(III)I"⟩,
  .instanceMethod ⟨"KnitRiver$Voices","workedOut","(III)I"⟩,
  .code ⟨"KnitRiver$Voices","workedOut","(III)I"⟩ prog_9_method_5_code 5 (some .int),
  .methodLink "KnitRiver$Voices" 72 ⟨"KnitRiver$Voices","partedBy","(II)I"⟩,
  .privateMethod ⟨"KnitRiver$Voices","partedBy","(II)I"⟩,
  .instanceMethod ⟨"KnitRiver$Voices","partedBy","(II)I"⟩,
  .code ⟨"KnitRiver$Voices","partedBy","(II)I"⟩ prog_9_method_6_code 3 (some .int),
  .methodLink "KnitRiver$Voices" 49 ⟨"java/lang/System","arraycopy","(Ljava/lang/Object;ILjava/lang/Object;II)V"⟩,
  .methodLink "KnitRiverLaw" 117 ⟨"KnitRiver","body","(I)I"⟩,
  .instanceMethod ⟨"KnitRiver","body","(I)I"⟩,
  .selects "KnitRiver" ⟨"KnitRiver","body","(I)I"⟩ ⟨"KnitRiver","body","(I)I"⟩,
  .code ⟨"KnitRiver","body","(I)I"⟩ prog_1_method_26_code 2 (some .int),
  .methodLink "KnitRiverLaw" 121 ⟨"KnitRiver","sheet","(III)I"⟩,
  .instanceMethod ⟨"KnitRiver","sheet","(III)I"⟩,
  .selects "KnitRiver" ⟨"KnitRiver","sheet","(III)I"⟩ ⟨"KnitRiver","sheet","(III)I"⟩,
  .code ⟨"KnitRiver","sheet","(III)I"⟩ prog_1_method_27_code 4 (some .int),
  .methodLink "KnitRiver" 265 ⟨"KnitRiver$Sheet","make","(II)V"⟩,
  .instanceMethod ⟨"KnitRiver$Sheet","make","(II)V"⟩,
  .selects "KnitRiver$Sheet" ⟨"KnitRiver$Sheet","make","(II)V"⟩ ⟨"KnitRiver$Sheet","make","(II)V"⟩,
  .code ⟨"KnitRiver$Sheet","make","(II)V"⟩ prog_7_method_2_code 4 none,
  .methodLinkNest "KnitRiver$Sheet" 22 ⟨"KnitRiver","held","(III)I"⟩ "KnitRiver",
  .methodLink "KnitRiverLaw" 125 ⟨"KnitRiver","put","(III)I"⟩,
  .instanceMethod ⟨"KnitRiver","put","(III)I"⟩,
  .selects "KnitRiver" ⟨"KnitRiver","put","(III)I"⟩ ⟨"KnitRiver","put","(III)I"⟩,
  .code ⟨"KnitRiver","put","(III)I"⟩ prog_1_method_28_code 5 (some .int),
  .methodLink "KnitRiver" 269 ⟨"KnitRiver","whyNoSheet","(I)I"⟩,
  .privateMethod ⟨"KnitRiver","whyNoSheet","(I)I"⟩]
def Zc26 : List Cond := [.instanceMethod ⟨"KnitRiver","whyNoSheet","(I)I"⟩,
  .code ⟨"KnitRiver","whyNoSheet","(I)I"⟩ prog_1_method_45_code 2 (some .int),
  .methodLink "KnitRiver" 272 ⟨"KnitRiver$Sheet","write","(II)V"⟩,
  .instanceMethod ⟨"KnitRiver$Sheet","write","(II)V"⟩,
  .selects "KnitRiver$Sheet" ⟨"KnitRiver$Sheet","write","(II)V"⟩ ⟨"KnitRiver$Sheet","write","(II)V"⟩,
  .code ⟨"KnitRiver$Sheet","write","(II)V"⟩ prog_7_method_3_code 3 none,
  .methodLink "KnitRiverLaw" 129 ⟨"KnitRiver","move","(IIIII)I"⟩,
  .instanceMethod ⟨"KnitRiver","move","(IIIII)I"⟩,
  .selects "KnitRiver" ⟨"KnitRiver","move","(IIIII)I"⟩ ⟨"KnitRiver","move","(IIIII)I"⟩,
  .code ⟨"KnitRiver","move","(IIIII)I"⟩ prog_1_method_29_code 8 (some .int),
  .methodLink "KnitRiver" 275 ⟨"KnitRiver$Sheet","has","(II)Z"⟩,
  .instanceMethod ⟨"KnitRiver$Sheet","has","(II)Z"⟩,
  .selects "KnitRiver$Sheet" ⟨"KnitRiver$Sheet","has","(II)Z"⟩ ⟨"KnitRiver$Sheet","has","(II)Z"⟩,
  .code ⟨"KnitRiver$Sheet","has","(II)Z"⟩ prog_7_method_4_code 3 (some .boolean),
  .methodLink "KnitRiver" 278 ⟨"java/lang/System","arraycopy","(Ljava/lang/Object;ILjava/lang/Object;II)V"⟩,
  .methodLink "KnitRiverLaw" 134 ⟨"KnitRiver","tensions","(I)I"⟩,
  .instanceMethod ⟨"KnitRiver","tensions","(I)I"⟩,
  .selects "KnitRiver" ⟨"KnitRiver","tensions","(I)I"⟩ ⟨"KnitRiver","tensions","(I)I"⟩,
  .code ⟨"KnitRiver","tensions","(I)I"⟩ prog_1_method_30_code 5 (some .int),
  .methodLink "KnitRiverLaw" 138 ⟨"KnitRiver","judge","(I)I"⟩,
  .instanceMethod ⟨"KnitRiver","judge","(I)I"⟩,
  .selects "KnitRiver" ⟨"KnitRiver","judge","(I)I"⟩ ⟨"KnitRiver","judge","(I)I"⟩,
  .code ⟨"KnitRiver","judge","(I)I"⟩ prog_1_method_31_code 5 (some .int),
  .methodLink "KnitRiverLaw" 142 ⟨"KnitRiver","image","()I"⟩,
  .instanceMethod ⟨"KnitRiver","image","()I"⟩,
  .selects "KnitRiver" ⟨"KnitRiver","image","()I"⟩ ⟨"KnitRiver","image","()I"⟩,
  .code ⟨"KnitRiver","image","()I"⟩ prog_1_method_32_code 1 (some .int),
  .methodLink "KnitRiver" 284 ⟨"KnitRiver$River","copy","(LKnitRiver$River;)V"⟩,
  .instanceMethod ⟨"KnitRiver$River","copy","(LKnitRiver$River;)V"⟩,
  .selects "KnitRiver$River" ⟨"KnitRiver$River","copy","(LKnitRiver$River;)V"⟩ ⟨"KnitRiver$River","copy","(LKnitRiver$River;)V"⟩,
  .code ⟨"KnitRiver$River","copy","(LKnitRiver$River;)V"⟩ prog_6_method_2_code 2 none,
  .methodLink "KnitRiver$River" 69 ⟨"java/lang/System","arraycopy","(Ljava/lang/Object;ILjava/lang/Object;II)V"⟩]
def Zc27 : List Cond := [.methodLink "KnitRiver$River" 75 ⟨"KnitRiver$Text","copy","(LKnitRiver$Text;)V"⟩,
  .instanceMethod ⟨"KnitRiver$Text","copy","(LKnitRiver$Text;)V"⟩,
  .selects "KnitRiver$Text" ⟨"KnitRiver$Text","copy","(LKnitRiver$Text;)V"⟩ ⟨"KnitRiver$Text","copy","(LKnitRiver$Text;)V"⟩,
  .code ⟨"KnitRiver$Text","copy","(LKnitRiver$Text;)V"⟩ prog_8_method_3_code 2 none,
  .methodLink "KnitRiver$Text" 45 ⟨"KnitRiver$Text","take","([II)V"⟩,
  .methodLink "KnitRiverLaw" 146 ⟨"KnitRiver","restore","()I"⟩,
  .instanceMethod ⟨"KnitRiver","restore","()I"⟩,
  .selects "KnitRiver" ⟨"KnitRiver","restore","()I"⟩ ⟨"KnitRiver","restore","()I"⟩,
  .code ⟨"KnitRiver","restore","()I"⟩ prog_1_method_33_code 1 (some .int),
  .methodLink "KnitRiverLaw" 150 ⟨"KnitRiver","tell","(I)I"⟩,
  .instanceMethod ⟨"KnitRiver","tell","(I)I"⟩,
  .selects "KnitRiver" ⟨"KnitRiver","tell","(I)I"⟩ ⟨"KnitRiver","tell","(I)I"⟩,
  .code ⟨"KnitRiver","tell","(I)I"⟩ prog_1_method_34_code 2 (some .int),
  .methodLink "KnitRiverLaw" 154 ⟨"KnitRiver","check","()I"⟩,
  .instanceMethod ⟨"KnitRiver","check","()I"⟩,
  .selects "KnitRiver" ⟨"KnitRiver","check","()I"⟩ ⟨"KnitRiver","check","()I"⟩]
set_option maxRecDepth 100000 in
theorem Zcg6 : tables_1_3 = Zc20 ++ (Zc21 ++ (Zc22 ++ (Zc23 ++ (Zc24 ++ (Zc25 ++ (Zc26 ++ (Zc27))))))) := rfl
def Zc28 : List Cond := [.code ⟨"KnitRiver","check","()I"⟩ prog_1_method_35_code 3 (some .int),
  .methodLink "KnitRiverLaw" 158 ⟨"KnitRiver","count","(I)I"⟩,
  .instanceMethod ⟨"KnitRiver","count","(I)I"⟩,
  .selects "KnitRiver" ⟨"KnitRiver","count","(I)I"⟩ ⟨"KnitRiver","count","(I)I"⟩,
  .code ⟨"KnitRiver","count","(I)I"⟩ prog_1_method_36_code 2 (some .int),
  .methodLink "KnitRiverLaw" 162 ⟨"KnitRiver","told","(I)I"⟩,
  .instanceMethod ⟨"KnitRiver","told","(I)I"⟩,
  .selects "KnitRiver" ⟨"KnitRiver","told","(I)I"⟩ ⟨"KnitRiver","told","(I)I"⟩,
  .code ⟨"KnitRiver","told","(I)I"⟩ prog_1_method_37_code 2 (some .int),
  .classLink "KnitRiverLaw" 10 "KnitRiverModel",
  .instantiable "KnitRiverModel" 27,
  .methodLink "KnitRiverLaw" 12 ⟨"KnitRiverModel","<init>","()V"⟩,
  .instanceMethod ⟨"KnitRiverModel","<init>","()V"⟩,
  .code ⟨"KnitRiverModel","<init>","()V"⟩ prog_11_method_1_code 1 none,
  .methodLink "KnitRiverModel" 1 ⟨"java/lang/Object","<init>","()V"⟩,
  .fieldLink "KnitRiverModel" 7 "KnitRiverModel" "s" "[I",
  .fieldLink "KnitRiverModel" 13 "KnitRiverModel" "kept" "[I",
  .fieldLink "KnitRiverModel" 256 "KnitRiverModel" "images" "I",
  .fieldLink "KnitRiverModel" 16 "KnitRiverModel" "errors" "[I",
  .fieldLink "KnitRiverModel" 69 "KnitRiverModel" "at" "I",
  .fieldLink "KnitRiverModel" 103 "KnitRiverModel" "open" "I",
  .fieldLink "KnitRiverModel" 76 "KnitRiverModel" "steps" "I",
  .fieldLink "KnitRiverModel" 73 "KnitRiverModel" "use" "I",
  .fieldLink "KnitRiverModel" 19 "KnitRiverModel" "step" "[I",
  .fieldLink "KnitRiverModel" 22 "KnitRiverModel" "named" "[I",
  .fieldLink "KnitRiverModel" 25 "KnitRiverModel" "pile" "[I",
  .fieldLink "KnitRiverModel" 28 "KnitRiverModel" "comes" "[I",
  .fieldLink "KnitRiverModel" 146 "KnitRiverModel" "floods" "I",
  .fieldLink "KnitRiverModel" 31 "KnitRiverModel" "across" "[I",
  .fieldLink "KnitRiverModel" 34 "KnitRiverModel" "down" "[I",
  .fieldLink "KnitRiverModel" 160 "KnitRiverModel" "goesNow" "I",
  .fieldLink "KnitRiverModel" 37 "KnitRiverModel" "stitch" "[I"]
def Zc29 : List Cond := [.fieldLink "KnitRiverModel" 40 "KnitRiverModel" "bestStitch" "[I",
  .fieldLink "KnitRiverModel" 198 "KnitRiverModel" "bestYarn" "I",
  .fieldLink "KnitRiverModel" 217 "KnitRiverModel" "traced" "I",
  .fieldLink "KnitRiverModel" 43 "KnitRiverModel" "trace" "[I",
  .fieldLink "KnitRiverModel" 220 "KnitRiverModel" "speaks" "I",
  .fieldLink "KnitRiverModel" 242 "KnitRiverModel" "isParted" "Z",
  .fieldLink "KnitRiverModel" 46 "KnitRiverModel" "bits" "[I",
  .fieldLink "KnitRiverModel" 49 "KnitRiverModel" "sizes" "[I",
  .fieldLink "KnitRiverModel" 52 "KnitRiverModel" "number" "[I",
  .fieldLink "KnitRiverModel" 55 "KnitRiverModel" "aside" "[I",
  .laysFinal "KnitRiverModel" "KnitRiverModel" "s" "[I",
  .soleField "KnitRiverModel" "s",
  .laysFinal "KnitRiverModel" "KnitRiverModel" "kept" "[I",
  .soleField "KnitRiverModel" "kept",
  .lays "KnitRiverModel" "KnitRiverModel" "images" "I",
  .soleField "KnitRiverModel" "images",
  .laysFinal "KnitRiverModel" "KnitRiverModel" "errors" "[I",
  .soleField "KnitRiverModel" "errors",
  .lays "KnitRiverModel" "KnitRiverModel" "at" "I",
  .soleField "KnitRiverModel" "at",
  .lays "KnitRiverModel" "KnitRiverModel" "open" "I",
  .soleField "KnitRiverModel" "open",
  .lays "KnitRiverModel" "KnitRiverModel" "steps" "I",
  .soleField "KnitRiverModel" "steps",
  .lays "KnitRiverModel" "KnitRiverModel" "use" "I",
  .soleField "KnitRiverModel" "use",
  .laysFinal "KnitRiverModel" "KnitRiverModel" "step" "[I",
  .soleField "KnitRiverModel" "step",
  .laysFinal "KnitRiverModel" "KnitRiverModel" "named" "[I",
  .soleField "KnitRiverModel" "named",
  .laysFinal "KnitRiverModel" "KnitRiverModel" "pile" "[I",
  .soleField "KnitRiverModel" "pile"]
def Zc30 : List Cond := [.laysFinal "KnitRiverModel" "KnitRiverModel" "comes" "[I",
  .soleField "KnitRiverModel" "comes",
  .lays "KnitRiverModel" "KnitRiverModel" "floods" "I",
  .soleField "KnitRiverModel" "floods",
  .laysFinal "KnitRiverModel" "KnitRiverModel" "across" "[I",
  .soleField "KnitRiverModel" "across",
  .laysFinal "KnitRiverModel" "KnitRiverModel" "down" "[I",
  .soleField "KnitRiverModel" "down",
  .lays "KnitRiverModel" "KnitRiverModel" "goesNow" "I",
  .soleField "KnitRiverModel" "goesNow",
  .laysFinal "KnitRiverModel" "KnitRiverModel" "stitch" "[I",
  .soleField "KnitRiverModel" "stitch",
  .laysFinal "KnitRiverModel" "KnitRiverModel" "bestStitch" "[I",
  .soleField "KnitRiverModel" "bestStitch",
  .lays "KnitRiverModel" "KnitRiverModel" "bestYarn" "I",
  .soleField "KnitRiverModel" "bestYarn",
  .lays "KnitRiverModel" "KnitRiverModel" "traced" "I",
  .soleField "KnitRiverModel" "traced",
  .laysFinal "KnitRiverModel" "KnitRiverModel" "trace" "[I",
  .soleField "KnitRiverModel" "trace",
  .lays "KnitRiverModel" "KnitRiverModel" "speaks" "I",
  .soleField "KnitRiverModel" "speaks",
  .lays "KnitRiverModel" "KnitRiverModel" "isParted" "Z",
  .soleField "KnitRiverModel" "isParted",
  .laysFinal "KnitRiverModel" "KnitRiverModel" "bits" "[I",
  .soleField "KnitRiverModel" "bits",
  .laysFinal "KnitRiverModel" "KnitRiverModel" "sizes" "[I",
  .soleField "KnitRiverModel" "sizes",
  .laysFinal "KnitRiverModel" "KnitRiverModel" "number" "[I",
  .soleField "KnitRiverModel" "number",
  .laysFinal "KnitRiverModel" "KnitRiverModel" "aside" "[I",
  .soleField "KnitRiverModel" "aside"]
def Zc31 : List Cond := [.superclass "KnitRiverModel" "java/lang/Object",
  .methodLink "KnitRiverLaw" 58 ⟨"KnitRiverModel","feed","(JI)I"⟩,
  .instanceMethod ⟨"KnitRiverModel","feed","(JI)I"⟩,
  .selects "KnitRiverModel" ⟨"KnitRiverModel","feed","(JI)I"⟩ ⟨"KnitRiverModel","feed","(JI)I"⟩,
  .code ⟨"KnitRiverModel","feed","(JI)I"⟩ prog_11_method_11_code 5 (some .int),
  .methodLink "KnitRiverModel" 59 ⟨"KnitRiverModel","in","(III)Z"⟩,
  .static ⟨"KnitRiverModel","in","(III)Z"⟩,
  .code ⟨"KnitRiverModel","in","(III)Z"⟩ prog_11_method_3_code 3 (some .boolean),
  .methodLink "KnitRiverModel" 63 ⟨"KnitRiverModel","error","(I)I"⟩,
  .privateMethod ⟨"KnitRiverModel","error","(I)I"⟩,
  .instanceMethod ⟨"KnitRiverModel","error","(I)I"⟩,
  .code ⟨"KnitRiverModel","error","(I)I"⟩ prog_11_method_2_code 2 (some .int),
  .constant "KnitRiverModel" 58 (-1000000000),
  .constantLong "KnitRiverModel" 67 255,
  .methodLink "KnitRiverLaw" 62 ⟨"KnitRiverModel","text","(I)I"⟩,
  .instanceMethod ⟨"KnitRiverModel","text","(I)I"⟩,
  .selects "KnitRiverModel" ⟨"KnitRiverModel","text","(I)I"⟩ ⟨"KnitRiverModel","text","(I)I"⟩,
  .code ⟨"KnitRiverModel","text","(I)I"⟩ prog_11_method_23_code 5 (some .int),
  .methodLink "KnitRiverModel" 113 ⟨"KnitRiverModel","whole","()Z"⟩,
  .privateMethod ⟨"KnitRiverModel","whole","()Z"⟩,
  .instanceMethod ⟨"KnitRiverModel","whole","()Z"⟩,
  .code ⟨"KnitRiverModel","whole","()Z"⟩ prog_11_method_15_code 1 (some .boolean),
  .methodLink "KnitRiverModel" 79 ⟨"KnitRiverModel","both","()Z"⟩,
  .privateMethod ⟨"KnitRiverModel","both","()Z"⟩,
  .instanceMethod ⟨"KnitRiverModel","both","()Z"⟩,
  .code ⟨"KnitRiverModel","both","()Z"⟩ prog_11_method_16_code 1 (some .boolean),
  .methodLink "KnitRiverModel" 91 ⟨"KnitRiverModel","compared","()Z"⟩,
  .privateMethod ⟨"KnitRiverModel","compared","()Z"⟩,
  .instanceMethod ⟨"KnitRiverModel","compared","()Z"⟩,
  .code ⟨"KnitRiverModel","compared","()Z"⟩ prog_11_method_17_code 2 (some .boolean),
  .methodLink "KnitRiverModel" 94 ⟨"KnitRiverModel","sum","()Z"⟩,
  .privateMethod ⟨"KnitRiverModel","sum","()Z"⟩]
def Zc32 : List Cond := [.instanceMethod ⟨"KnitRiverModel","sum","()Z"⟩,
  .code ⟨"KnitRiverModel","sum","()Z"⟩ prog_11_method_18_code 2 (some .boolean),
  .methodLink "KnitRiverModel" 97 ⟨"KnitRiverModel","product","()Z"⟩,
  .privateMethod ⟨"KnitRiverModel","product","()Z"⟩,
  .instanceMethod ⟨"KnitRiverModel","product","()Z"⟩,
  .code ⟨"KnitRiverModel","product","()Z"⟩ prog_11_method_19_code 2 (some .boolean),
  .methodLink "KnitRiverModel" 100 ⟨"KnitRiverModel","one","()Z"⟩,
  .privateMethod ⟨"KnitRiverModel","one","()Z"⟩,
  .instanceMethod ⟨"KnitRiverModel","one","()Z"⟩,
  .code ⟨"KnitRiverModel","one","()Z"⟩ prog_11_method_21_code 4 (some .boolean),
  .methodLink "KnitRiverModel" 83 ⟨"KnitRiverModel","look","()I"⟩,
  .privateMethod ⟨"KnitRiverModel","look","()I"⟩,
  .instanceMethod ⟨"KnitRiverModel","look","()I"⟩,
  .code ⟨"KnitRiverModel","look","()I"⟩ prog_11_method_12_code 1 (some .int),
  .methodLink "KnitRiverModel" 106 ⟨"KnitRiverModel","isName","(I)Z"⟩,
  .privateMethod ⟨"KnitRiverModel","isName","(I)Z"⟩,
  .instanceMethod ⟨"KnitRiverModel","isName","(I)Z"⟩,
  .code ⟨"KnitRiverModel","isName","(I)Z"⟩ prog_11_method_13_code 2 (some .boolean),
  .methodLink "KnitRiverModel" 87 ⟨"KnitRiverModel","step1","(II)V"⟩,
  .privateMethod ⟨"KnitRiverModel","step1","(II)V"⟩,
  .instanceMethod ⟨"KnitRiverModel","step1","(II)V"⟩,
  .code ⟨"KnitRiverModel","step1","(II)V"⟩ prog_11_method_14_code 3 none,
  .methodLink "KnitRiverModel" 110 ⟨"KnitRiverModel","opens","()Z"⟩,
  .privateMethod ⟨"KnitRiverModel","opens","()Z"⟩,
  .instanceMethod ⟨"KnitRiverModel","opens","()Z"⟩,
  .code ⟨"KnitRiverModel","opens","()Z"⟩ prog_11_method_20_code 1 (some .boolean),
  .methodLink "KnitRiverLaw" 66 ⟨"KnitRiverModel","untell","(I)I"⟩,
  .instanceMethod ⟨"KnitRiverModel","untell","(I)I"⟩,
  .selects "KnitRiverModel" ⟨"KnitRiverModel","untell","(I)I"⟩ ⟨"KnitRiverModel","untell","(I)I"⟩,
  .code ⟨"KnitRiverModel","untell","(I)I"⟩ prog_11_method_24_code 3 (some .int),
  .methodLink "KnitRiverModel" 116 ⟨"KnitRiverModel","hasText","(I)Z"⟩,
  .privateMethod ⟨"KnitRiverModel","hasText","(I)Z"⟩]
def Zc33 : List Cond := [.instanceMethod ⟨"KnitRiverModel","hasText","(I)Z"⟩,
  .code ⟨"KnitRiverModel","hasText","(I)Z"⟩ prog_11_method_22_code 2 (some .boolean),
  .methodLink "KnitRiverLaw" 17 ⟨"KnitRiverModel","knit","(III)I"⟩,
  .instanceMethod ⟨"KnitRiverModel","knit","(III)I"⟩,
  .selects "KnitRiverModel" ⟨"KnitRiverModel","knit","(III)I"⟩ ⟨"KnitRiverModel","knit","(III)I"⟩,
  .code ⟨"KnitRiverModel","knit","(III)I"⟩ prog_11_method_41_code 6 (some .int),
  .methodLink "KnitRiverModel" 168 ⟨"KnitRiverModel","isKind","(I)Z"⟩,
  .static ⟨"KnitRiverModel","isKind","(I)Z"⟩,
  .code ⟨"KnitRiverModel","isKind","(I)Z"⟩ prog_11_method_40_code 1 (some .boolean),
  .methodLink "KnitRiverModel" 171 ⟨"KnitRiverModel","isTension","(I)Z"⟩,
  .static ⟨"KnitRiverModel","isTension","(I)Z"⟩,
  .code ⟨"KnitRiverModel","isTension","(I)Z"⟩ prog_11_method_7_code 1 (some .boolean),
  .methodLink "KnitRiverModel" 140 ⟨"KnitRiverModel","yarnAs","(III)I"⟩,
  .privateMethod ⟨"KnitRiverModel","yarnAs","(III)I"⟩,
  .instanceMethod ⟨"KnitRiverModel","yarnAs","(III)I"⟩,
  .code ⟨"KnitRiverModel","yarnAs","(III)I"⟩ prog_11_method_30_code 4 (some .int),
  .methodLink "KnitRiverModel" 129 ⟨"KnitRiverModel","saidOf","(IIII)I"⟩,
  .privateMethod ⟨"KnitRiverModel","saidOf","(IIII)I"⟩,
  .instanceMethod ⟨"KnitRiverModel","saidOf","(IIII)I"⟩,
  .code ⟨"KnitRiverModel","saidOf","(IIII)I"⟩ prog_11_method_27_code 6 (some .int),
  .methodLink "KnitRiverModel" 133 ⟨"KnitRiverModel","yarnTold","(III)I"⟩,
  .privateMethod ⟨"KnitRiverModel","yarnTold","(III)I"⟩,
  .instanceMethod ⟨"KnitRiverModel","yarnTold","(III)I"⟩,
  .code ⟨"KnitRiverModel","yarnTold","(III)I"⟩ prog_11_method_28_code 4 (some .int),
  .methodLink "KnitRiverModel" 123 ⟨"KnitRiverModel","worked","(I)I"⟩,
  .privateMethod ⟨"KnitRiverModel","worked","(I)I"⟩,
  .instanceMethod ⟨"KnitRiverModel","worked","(I)I"⟩,
  .code ⟨"KnitRiverModel","worked","(I)I"⟩ prog_11_method_26_code 7 (some .int),
  .methodLink "KnitRiverModel" 119 ⟨"KnitRiverModel","joined","(III)I"⟩,
  .static ⟨"KnitRiverModel","joined","(III)I"⟩,
  .code ⟨"KnitRiverModel","joined","(III)I"⟩ prog_11_method_25_code 3 (some .int),
  .methodLink "KnitRiverModel" 126 ⟨"KnitRiverModel","held","(III)I"⟩]
def Zc34 : List Cond := [.static ⟨"KnitRiverModel","held","(III)I"⟩,
  .code ⟨"KnitRiverModel","held","(III)I"⟩ prog_11_method_4_code 3 (some .int),
  .methodLink "KnitRiverModel" 155 ⟨"KnitRiverModel","lays1","(III)V"⟩,
  .privateMethod ⟨"KnitRiverModel","lays1","(III)V"⟩,
  .instanceMethod ⟨"KnitRiverModel","lays1","(III)V"⟩,
  .code ⟨"KnitRiverModel","lays1","(III)V"⟩ prog_11_method_9_code 4 none,
  .methodLink "KnitRiverLaw" 22 ⟨"KnitRiverModel","rowIs","(II)I"⟩,
  .instanceMethod ⟨"KnitRiverModel","rowIs","(II)I"⟩,
  .selects "KnitRiverModel" ⟨"KnitRiverModel","rowIs","(II)I"⟩ ⟨"KnitRiverModel","rowIs","(II)I"⟩,
  .code ⟨"KnitRiverModel","rowIs","(II)I"⟩ prog_11_method_42_code 3 (some .int),
  .methodLink "KnitRiverModel" 174 ⟨"KnitRiverModel","isRow","(I)Z"⟩,
  .privateMethod ⟨"KnitRiverModel","isRow","(I)Z"⟩,
  .instanceMethod ⟨"KnitRiverModel","isRow","(I)Z"⟩,
  .code ⟨"KnitRiverModel","isRow","(I)Z"⟩ prog_11_method_6_code 2 (some .boolean),
  .methodLink "KnitRiverModel" 136 ⟨"KnitRiverModel","its","(II)I"⟩,
  .privateMethod ⟨"KnitRiverModel","its","(II)I"⟩,
  .instanceMethod ⟨"KnitRiverModel","its","(II)I"⟩,
  .code ⟨"KnitRiverModel","its","(II)I"⟩ prog_11_method_8_code 3 (some .int),
  .methodLink "KnitRiverModel" 177 ⟨"KnitRiverModel","yarnOf","(I)I"⟩,
  .privateMethod ⟨"KnitRiverModel","yarnOf","(I)I"⟩,
  .instanceMethod ⟨"KnitRiverModel","yarnOf","(I)I"⟩,
  .code ⟨"KnitRiverModel","yarnOf","(I)I"⟩ prog_11_method_31_code 2 (some .int),
  .methodLink "KnitRiverModel" 149 ⟨"KnitRiverModel","holdsBy","(II)I"⟩,
  .privateMethod ⟨"KnitRiverModel","holdsBy","(II)I"⟩,
  .instanceMethod ⟨"KnitRiverModel","holdsBy","(II)I"⟩,
  .code ⟨"KnitRiverModel","holdsBy","(II)I"⟩ prog_11_method_32_code 3 (some .int),
  .methodLink "KnitRiverModel" 143 ⟨"KnitRiverModel","holdsTold","(III)I"⟩,
  .privateMethod ⟨"KnitRiverModel","holdsTold","(III)I"⟩,
  .instanceMethod ⟨"KnitRiverModel","holdsTold","(III)I"⟩,
  .code ⟨"KnitRiverModel","holdsTold","(III)I"⟩ prog_11_method_29_code 4 (some .int),
  .methodLink "KnitRiverModel" 163 ⟨"KnitRiverModel","bendsAs","(II)I"⟩,
  .static ⟨"KnitRiverModel","bendsAs","(II)I"⟩]
def Zc35 : List Cond := [.code ⟨"KnitRiverModel","bendsAs","(II)I"⟩ prog_11_method_33_code 2 (some .int),
  .methodLink "KnitRiverLaw" 26 ⟨"KnitRiverModel","become","(II)I"⟩,
  .instanceMethod ⟨"KnitRiverModel","become","(II)I"⟩,
  .selects "KnitRiverModel" ⟨"KnitRiverModel","become","(II)I"⟩ ⟨"KnitRiverModel","become","(II)I"⟩,
  .code ⟨"KnitRiverModel","become","(II)I"⟩ prog_11_method_43_code 3 (some .int),
  .methodLink "KnitRiverModel" 180 ⟨"KnitRiverModel","change1","(II)I"⟩,
  .privateMethod ⟨"KnitRiverModel","change1","(II)I"⟩,
  .instanceMethod ⟨"KnitRiverModel","change1","(II)I"⟩,
  .code ⟨"KnitRiverModel","change1","(II)I"⟩ prog_11_method_10_code 4 (some .int),
  .methodLink "KnitRiverLaw" 30 ⟨"KnitRiverModel","as","(II)I"⟩,
  .instanceMethod ⟨"KnitRiverModel","as","(II)I"⟩,
  .selects "KnitRiverModel" ⟨"KnitRiverModel","as","(II)I"⟩ ⟨"KnitRiverModel","as","(II)I"⟩,
  .code ⟨"KnitRiverModel","as","(II)I"⟩ prog_11_method_44_code 4 (some .int),
  .methodLink "KnitRiverModel" 183 ⟨"KnitRiverModel","above","(I)I"⟩,
  .static ⟨"KnitRiverModel","above","(I)I"⟩,
  .code ⟨"KnitRiverModel","above","(I)I"⟩ prog_11_method_66_code 1 (some .int)]
set_option maxRecDepth 100000 in
theorem Zcg7 : tables_1_4 = Zc28 ++ (Zc29 ++ (Zc30 ++ (Zc31 ++ (Zc32 ++ (Zc33 ++ (Zc34 ++ (Zc35))))))) := rfl
def Zc36 : List Cond := [.methodLink "KnitRiverLaw" 34 ⟨"KnitRiverModel","tie","(II)I"⟩,
  .instanceMethod ⟨"KnitRiverModel","tie","(II)I"⟩,
  .selects "KnitRiverModel" ⟨"KnitRiverModel","tie","(II)I"⟩ ⟨"KnitRiverModel","tie","(II)I"⟩,
  .code ⟨"KnitRiverModel","tie","(II)I"⟩ prog_11_method_45_code 3 (some .int),
  .methodLink "KnitRiverLaw" 39 ⟨"KnitRiverModel","drop","(I)I"⟩,
  .instanceMethod ⟨"KnitRiverModel","drop","(I)I"⟩,
  .selects "KnitRiverModel" ⟨"KnitRiverModel","drop","(I)I"⟩ ⟨"KnitRiverModel","drop","(I)I"⟩,
  .code ⟨"KnitRiverModel","drop","(I)I"⟩ prog_11_method_46_code 2 (some .int),
  .methodLink "KnitRiverLaw" 43 ⟨"KnitRiverModel","tense","(II)I"⟩,
  .instanceMethod ⟨"KnitRiverModel","tense","(II)I"⟩,
  .selects "KnitRiverModel" ⟨"KnitRiverModel","tense","(II)I"⟩ ⟨"KnitRiverModel","tense","(II)I"⟩,
  .code ⟨"KnitRiverModel","tense","(II)I"⟩ prog_11_method_47_code 3 (some .int),
  .methodLink "KnitRiverLaw" 47 ⟨"KnitRiverModel","pull","(I)I"⟩,
  .instanceMethod ⟨"KnitRiverModel","pull","(I)I"⟩,
  .selects "KnitRiverModel" ⟨"KnitRiverModel","pull","(I)I"⟩ ⟨"KnitRiverModel","pull","(I)I"⟩,
  .code ⟨"KnitRiverModel","pull","(I)I"⟩ prog_11_method_48_code 3 (some .int),
  .methodLink "KnitRiverLaw" 51 ⟨"KnitRiverModel","wind","(II)I"⟩,
  .instanceMethod ⟨"KnitRiverModel","wind","(II)I"⟩,
  .selects "KnitRiverModel" ⟨"KnitRiverModel","wind","(II)I"⟩ ⟨"KnitRiverModel","wind","(II)I"⟩,
  .code ⟨"KnitRiverModel","wind","(II)I"⟩ prog_11_method_49_code 3 (some .int),
  .methodLink "KnitRiverLaw" 71 ⟨"KnitRiverModel","law","(IIII)I"⟩,
  .instanceMethod ⟨"KnitRiverModel","law","(IIII)I"⟩,
  .selects "KnitRiverModel" ⟨"KnitRiverModel","law","(IIII)I"⟩ ⟨"KnitRiverModel","law","(IIII)I"⟩,
  .code ⟨"KnitRiverModel","law","(IIII)I"⟩ prog_11_method_50_code 5 (some .int),
  .methodLink "KnitRiverLaw" 75 ⟨"KnitRiverModel","season","(I)I"⟩,
  .instanceMethod ⟨"KnitRiverModel","season","(I)I"⟩,
  .selects "KnitRiverModel" ⟨"KnitRiverModel","season","(I)I"⟩ ⟨"KnitRiverModel","season","(I)I"⟩,
  .code ⟨"KnitRiverModel","season","(I)I"⟩ prog_11_method_52_code 2 (some .int),
  .methodLink "KnitRiverModel" 186 ⟨"KnitRiverModel","isWater","(I)Z"⟩,
  .static ⟨"KnitRiverModel","isWater","(I)Z"⟩,
  .code ⟨"KnitRiverModel","isWater","(I)Z"⟩ prog_11_method_51_code 1 (some .boolean),
  .methodLink "KnitRiverModel" 189 ⟨"KnitRiverModel","aSeason","(I)I"⟩]
def Zc37 : List Cond := [.privateMethod ⟨"KnitRiverModel","aSeason","(I)I"⟩,
  .instanceMethod ⟨"KnitRiverModel","aSeason","(I)I"⟩,
  .code ⟨"KnitRiverModel","aSeason","(I)I"⟩ prog_11_method_35_code 4 (some .int),
  .methodLink "KnitRiverModel" 152 ⟨"KnitRiverModel","letDown","(II)V"⟩,
  .privateMethod ⟨"KnitRiverModel","letDown","(II)V"⟩,
  .instanceMethod ⟨"KnitRiverModel","letDown","(II)V"⟩,
  .code ⟨"KnitRiverModel","letDown","(II)V"⟩ prog_11_method_34_code 5 none,
  .methodLink "KnitRiverLaw" 79 ⟨"KnitRiverModel","loose","(I)I"⟩,
  .instanceMethod ⟨"KnitRiverModel","loose","(I)I"⟩,
  .selects "KnitRiverModel" ⟨"KnitRiverModel","loose","(I)I"⟩ ⟨"KnitRiverModel","loose","(I)I"⟩,
  .code ⟨"KnitRiverModel","loose","(I)I"⟩ prog_11_method_53_code 5 (some .int),
  .methodLink "KnitRiverModel" 192 ⟨"KnitRiverModel","draw","()I"⟩,
  .privateMethod ⟨"KnitRiverModel","draw","()I"⟩,
  .instanceMethod ⟨"KnitRiverModel","draw","()I"⟩,
  .code ⟨"KnitRiverModel","draw","()I"⟩ prog_11_method_36_code 1 (some .int),
  .constant "KnitRiverModel" 159 1103515245,
  .methodLink "KnitRiverLaw" 83 ⟨"KnitRiverModel","seed","(I)I"⟩,
  .instanceMethod ⟨"KnitRiverModel","seed","(I)I"⟩,
  .selects "KnitRiverModel" ⟨"KnitRiverModel","seed","(I)I"⟩ ⟨"KnitRiverModel","seed","(I)I"⟩,
  .code ⟨"KnitRiverModel","seed","(I)I"⟩ prog_11_method_54_code 2 (some .int),
  .methodLink "KnitRiverLaw" 87 ⟨"KnitRiverModel","flow","(III)I"⟩,
  .instanceMethod ⟨"KnitRiverModel","flow","(III)I"⟩,
  .selects "KnitRiverModel" ⟨"KnitRiverModel","flow","(III)I"⟩ ⟨"KnitRiverModel","flow","(III)I"⟩,
  .code ⟨"KnitRiverModel","flow","(III)I"⟩ prog_11_method_55_code 4 (some .int),
  .methodLink "KnitRiverLaw" 91 ⟨"KnitRiverModel","course","(II)I"⟩,
  .instanceMethod ⟨"KnitRiverModel","course","(II)I"⟩,
  .selects "KnitRiverModel" ⟨"KnitRiverModel","course","(II)I"⟩ ⟨"KnitRiverModel","course","(II)I"⟩,
  .code ⟨"KnitRiverModel","course","(II)I"⟩ prog_11_method_56_code 3 (some .int),
  .methodLink "KnitRiverModel" 195 ⟨"KnitRiverModel","findCourse","()V"⟩,
  .privateMethod ⟨"KnitRiverModel","findCourse","()V"⟩,
  .instanceMethod ⟨"KnitRiverModel","findCourse","()V"⟩,
  .code ⟨"KnitRiverModel","findCourse","()V"⟩ prog_11_method_39_code 2 none]
def Zc38 : List Cond := [.methodLink "KnitRiverModel" 166 ⟨"KnitRiverModel","step","(II)V"⟩,
  .privateMethod ⟨"KnitRiverModel","step","(II)V"⟩,
  .instanceMethod ⟨"KnitRiverModel","step","(II)V"⟩,
  .code ⟨"KnitRiverModel","step","(II)V"⟩ prog_11_method_38_code 3 none,
  .methodLink "KnitRiverLaw" 96 ⟨"KnitRiverModel","crosses","()I"⟩,
  .instanceMethod ⟨"KnitRiverModel","crosses","()I"⟩,
  .selects "KnitRiverModel" ⟨"KnitRiverModel","crosses","()I"⟩ ⟨"KnitRiverModel","crosses","()I"⟩,
  .code ⟨"KnitRiverModel","crosses","()I"⟩ prog_11_method_57_code 5 (some .int),
  .methodLink "KnitRiverLaw" 100 ⟨"KnitRiverModel","reach","(III)I"⟩,
  .instanceMethod ⟨"KnitRiverModel","reach","(III)I"⟩,
  .selects "KnitRiverModel" ⟨"KnitRiverModel","reach","(III)I"⟩ ⟨"KnitRiverModel","reach","(III)I"⟩,
  .code ⟨"KnitRiverModel","reach","(III)I"⟩ prog_11_method_60_code 5 (some .int),
  .methodLink "KnitRiverModel" 204 ⟨"KnitRiverModel","leads","(IIIII)Z"⟩,
  .privateMethod ⟨"KnitRiverModel","leads","(IIIII)Z"⟩,
  .instanceMethod ⟨"KnitRiverModel","leads","(IIIII)Z"⟩,
  .code ⟨"KnitRiverModel","leads","(IIIII)Z"⟩ prog_11_method_59_code 11 (some .boolean),
  .methodLink "KnitRiverModel" 201 ⟨"KnitRiverModel","stitchOf","(I)I"⟩,
  .static ⟨"KnitRiverModel","stitchOf","(I)I"⟩,
  .code ⟨"KnitRiverModel","stitchOf","(I)I"⟩ prog_11_method_58_code 1 (some .int),
  .methodLink "KnitRiverLaw" 104 ⟨"KnitRiverModel","ease","(II)I"⟩,
  .instanceMethod ⟨"KnitRiverModel","ease","(II)I"⟩,
  .selects "KnitRiverModel" ⟨"KnitRiverModel","ease","(II)I"⟩ ⟨"KnitRiverModel","ease","(II)I"⟩,
  .code ⟨"KnitRiverModel","ease","(II)I"⟩ prog_11_method_61_code 7 (some .int),
  .methodLink "KnitRiverModel" 208 ⟨"KnitRiverModel","bitsOf","(I)I"⟩,
  .static ⟨"KnitRiverModel","bitsOf","(I)I"⟩,
  .code ⟨"KnitRiverModel","bitsOf","(I)I"⟩ prog_11_method_37_code 3 (some .int),
  .methodLink "KnitRiverLaw" 108 ⟨"KnitRiverModel","odds","(I)I"⟩,
  .instanceMethod ⟨"KnitRiverModel","odds","(I)I"⟩,
  .selects "KnitRiverModel" ⟨"KnitRiverModel","odds","(I)I"⟩ ⟨"KnitRiverModel","odds","(I)I"⟩,
  .code ⟨"KnitRiverModel","odds","(I)I"⟩ prog_11_method_63_code 4 (some .int),
  .methodLink "KnitRiverModel" 211 ⟨"KnitRiverModel","divisor","(II)I"⟩,
  .static ⟨"KnitRiverModel","divisor","(II)I"⟩]
def Zc39 : List Cond := [.code ⟨"KnitRiverModel","divisor","(II)I"⟩ prog_11_method_62_code 5 (some .int),
  .methodLink "KnitRiverLaw" 112 ⟨"KnitRiverModel","fits","(II)I"⟩,
  .instanceMethod ⟨"KnitRiverModel","fits","(II)I"⟩,
  .selects "KnitRiverModel" ⟨"KnitRiverModel","fits","(II)I"⟩ ⟨"KnitRiverModel","fits","(II)I"⟩,
  .code ⟨"KnitRiverModel","fits","(II)I"⟩ prog_11_method_64_code 10 (some .int),
  .methodLink "KnitRiverModel" 214 ⟨"KnitRiverModel","lacks","(I)I"⟩,
  .privateMethod ⟨"KnitRiverModel","lacks","(I)I"⟩,
  .instanceMethod ⟨"KnitRiverModel","lacks","(I)I"⟩,
  .code ⟨"KnitRiverModel","lacks","(I)I"⟩ prog_11_method_79_code 2 (some .int),
  .methodLink "KnitRiverModel" 249 ⟨"KnitRiverModel","isSheet","(I)Z"⟩,
  .static ⟨"KnitRiverModel","isSheet","(I)Z"⟩,
  .code ⟨"KnitRiverModel","isSheet","(I)Z"⟩ prog_11_method_75_code 1 (some .boolean),
  .methodLink "KnitRiverLaw" 116 ⟨"KnitRiverModel","voice","(III)I"⟩,
  .instanceMethod ⟨"KnitRiverModel","voice","(III)I"⟩,
  .selects "KnitRiverModel" ⟨"KnitRiverModel","voice","(III)I"⟩ ⟨"KnitRiverModel","voice","(III)I"⟩,
  .code ⟨"KnitRiverModel","voice","(III)I"⟩ prog_11_method_73_code 6 (some .int),
  .methodLink "KnitRiverModel" 230 ⟨"KnitRiverModel","kindNow","()I"⟩,
  .privateMethod ⟨"KnitRiverModel","kindNow","()I"⟩,
  .instanceMethod ⟨"KnitRiverModel","kindNow","()I"⟩,
  .code ⟨"KnitRiverModel","kindNow","()I"⟩ prog_11_method_67_code 1 (some .int),
  .methodLink "KnitRiverModel" 227 ⟨"KnitRiverModel","runsAs","(II)I"⟩,
  .privateMethod ⟨"KnitRiverModel","runsAs","(II)I"⟩,
  .instanceMethod ⟨"KnitRiverModel","runsAs","(II)I"⟩,
  .code ⟨"KnitRiverModel","runsAs","(II)I"⟩ prog_11_method_69_code 3 (some .int),
  .methodLink "KnitRiverModel" 223 ⟨"KnitRiverModel","starts","(I)V"⟩,
  .privateMethod ⟨"KnitRiverModel","starts","(I)V"⟩,
  .instanceMethod ⟨"KnitRiverModel","starts","(I)V"⟩,
  .code ⟨"KnitRiverModel","starts","(I)V"⟩ prog_11_method_65_code 2 none,
  .methodLink "KnitRiverModel" 233 ⟨"KnitRiverModel","turnsAs","(II)I"⟩,
  .privateMethod ⟨"KnitRiverModel","turnsAs","(II)I"⟩,
  .instanceMethod ⟨"KnitRiverModel","turnsAs","(II)I"⟩,
  .code ⟨"KnitRiverModel","turnsAs","(II)I"⟩ prog_11_method_70_code 3 (some .int)]
def Zc40 : List Cond := [.methodLink "KnitRiverModel" 236 ⟨"KnitRiverModel","mNow","()I"⟩,
  .privateMethod ⟨"KnitRiverModel","mNow","()I"⟩,
  .instanceMethod ⟨"KnitRiverModel","mNow","()I"⟩,
  .code ⟨"KnitRiverModel","mNow","()I"⟩ prog_11_method_68_code 1 (some .int),
  .methodLink "KnitRiverModel" 239 ⟨"KnitRiverModel","poolsAs","(II)I"⟩,
  .privateMethod ⟨"KnitRiverModel","poolsAs","(II)I"⟩,
  .instanceMethod ⟨"KnitRiverModel","poolsAs","(II)I"⟩,
  .code ⟨"KnitRiverModel","poolsAs","(II)I"⟩ prog_11_method_71_code 3 (some .int),
  .methodLink "KnitRiverModel" 246 ⟨"KnitRiverModel","partsAs","(II)I"⟩,
  .privateMethod ⟨"KnitRiverModel","partsAs","(II)I"⟩,
  .instanceMethod ⟨"KnitRiverModel","partsAs","(II)I"⟩,
  .code ⟨"KnitRiverModel","partsAs","(II)I"⟩ prog_11_method_72_code 5 (some .int),
  .methodLink "KnitRiverLaw" 120 ⟨"KnitRiverModel","body","(I)I"⟩,
  .instanceMethod ⟨"KnitRiverModel","body","(I)I"⟩,
  .selects "KnitRiverModel" ⟨"KnitRiverModel","body","(I)I"⟩ ⟨"KnitRiverModel","body","(I)I"⟩,
  .code ⟨"KnitRiverModel","body","(I)I"⟩ prog_11_method_74_code 2 (some .int),
  .methodLink "KnitRiverLaw" 124 ⟨"KnitRiverModel","sheet","(III)I"⟩,
  .instanceMethod ⟨"KnitRiverModel","sheet","(III)I"⟩,
  .selects "KnitRiverModel" ⟨"KnitRiverModel","sheet","(III)I"⟩ ⟨"KnitRiverModel","sheet","(III)I"⟩,
  .code ⟨"KnitRiverModel","sheet","(III)I"⟩ prog_11_method_76_code 5 (some .int),
  .methodLink "KnitRiverLaw" 128 ⟨"KnitRiverModel","put","(III)I"⟩,
  .instanceMethod ⟨"KnitRiverModel","put","(III)I"⟩,
  .selects "KnitRiverModel" ⟨"KnitRiverModel","put","(III)I"⟩ ⟨"KnitRiverModel","put","(III)I"⟩,
  .code ⟨"KnitRiverModel","put","(III)I"⟩ prog_11_method_77_code 5 (some .int),
  .methodLink "KnitRiverLaw" 133 ⟨"KnitRiverModel","move","(IIIII)I"⟩,
  .instanceMethod ⟨"KnitRiverModel","move","(IIIII)I"⟩,
  .selects "KnitRiverModel" ⟨"KnitRiverModel","move","(IIIII)I"⟩ ⟨"KnitRiverModel","move","(IIIII)I"⟩,
  .code ⟨"KnitRiverModel","move","(IIIII)I"⟩ prog_11_method_78_code 7 (some .int),
  .methodLink "KnitRiverLaw" 137 ⟨"KnitRiverModel","tensions","(I)I"⟩,
  .instanceMethod ⟨"KnitRiverModel","tensions","(I)I"⟩,
  .selects "KnitRiverModel" ⟨"KnitRiverModel","tensions","(I)I"⟩ ⟨"KnitRiverModel","tensions","(I)I"⟩,
  .code ⟨"KnitRiverModel","tensions","(I)I"⟩ prog_11_method_80_code 4 (some .int)]
def Zc41 : List Cond := [.methodLink "KnitRiverLaw" 141 ⟨"KnitRiverModel","judge","(I)I"⟩,
  .instanceMethod ⟨"KnitRiverModel","judge","(I)I"⟩,
  .selects "KnitRiverModel" ⟨"KnitRiverModel","judge","(I)I"⟩ ⟨"KnitRiverModel","judge","(I)I"⟩,
  .code ⟨"KnitRiverModel","judge","(I)I"⟩ prog_11_method_81_code 4 (some .int),
  .methodLink "KnitRiverLaw" 145 ⟨"KnitRiverModel","image","()I"⟩,
  .instanceMethod ⟨"KnitRiverModel","image","()I"⟩,
  .selects "KnitRiverModel" ⟨"KnitRiverModel","image","()I"⟩ ⟨"KnitRiverModel","image","()I"⟩,
  .code ⟨"KnitRiverModel","image","()I"⟩ prog_11_method_82_code 1 (some .int),
  .methodLink "KnitRiverModel" 252 ⟨"KnitRiverModel","copyAll","([I[I)V"⟩,
  .static ⟨"KnitRiverModel","copyAll","([I[I)V"⟩,
  .code ⟨"KnitRiverModel","copyAll","([I[I)V"⟩ prog_11_method_5_code 3 none,
  .methodLink "KnitRiverLaw" 149 ⟨"KnitRiverModel","restore","()I"⟩,
  .instanceMethod ⟨"KnitRiverModel","restore","()I"⟩,
  .selects "KnitRiverModel" ⟨"KnitRiverModel","restore","()I"⟩ ⟨"KnitRiverModel","restore","()I"⟩,
  .code ⟨"KnitRiverModel","restore","()I"⟩ prog_11_method_83_code 1 (some .int),
  .methodLink "KnitRiverLaw" 153 ⟨"KnitRiverModel","tell","(I)I"⟩,
  .instanceMethod ⟨"KnitRiverModel","tell","(I)I"⟩,
  .selects "KnitRiverModel" ⟨"KnitRiverModel","tell","(I)I"⟩ ⟨"KnitRiverModel","tell","(I)I"⟩,
  .code ⟨"KnitRiverModel","tell","(I)I"⟩ prog_11_method_84_code 2 (some .int),
  .methodLink "KnitRiverLaw" 157 ⟨"KnitRiverModel","check","()I"⟩,
  .instanceMethod ⟨"KnitRiverModel","check","()I"⟩,
  .selects "KnitRiverModel" ⟨"KnitRiverModel","check","()I"⟩ ⟨"KnitRiverModel","check","()I"⟩,
  .code ⟨"KnitRiverModel","check","()I"⟩ prog_11_method_85_code 3 (some .int),
  .methodLink "KnitRiverLaw" 161 ⟨"KnitRiverModel","count","(I)I"⟩,
  .instanceMethod ⟨"KnitRiverModel","count","(I)I"⟩,
  .selects "KnitRiverModel" ⟨"KnitRiverModel","count","(I)I"⟩ ⟨"KnitRiverModel","count","(I)I"⟩,
  .code ⟨"KnitRiverModel","count","(I)I"⟩ prog_11_method_86_code 2 (some .int),
  .methodLink "KnitRiverLaw" 165 ⟨"KnitRiverModel","told","(I)I"⟩,
  .instanceMethod ⟨"KnitRiverModel","told","(I)I"⟩,
  .selects "KnitRiverModel" ⟨"KnitRiverModel","told","(I)I"⟩ ⟨"KnitRiverModel","told","(I)I"⟩,
  .code ⟨"KnitRiverModel","told","(I)I"⟩ prog_11_method_87_code 2 (some .int),
  .constantLong "KnitRiverLaw" 52 4294967295]
def Zc42 : List Cond := [.arrayClass .char]
set_option maxRecDepth 100000 in
theorem Zcg8 : tables_1_5 = Zc36 ++ (Zc37 ++ (Zc38 ++ (Zc39 ++ (Zc40 ++ (Zc41 ++ (Zc42)))))) := rfl
theorem Zc_all : lw_tbl = (k2_sels lw_privs_1 ++ (k2_sels lw_privs_2 ++ (k2_sels lw_privs_3 ++ (k2_sels lw_privs_4)))) ++ (tables_1_1 ++ (tables_1_2 ++ (tables_1_3 ++ (tables_1_4 ++ (tables_1_5))))) := by
  show k2_sels lw_privs ++ tables_1 = _
  unfold lw_privs tables_1 k2_sels
  simp only [List.map_append]
def ZcL : List (List Cond) := [Zc0, Zc1, Zc2, Zc3, Zc4, Zc5, Zc6, Zc7, Zc8, Zc9, Zc10, Zc11, Zc12, Zc13, Zc14, Zc15, Zc16, Zc17, Zc18, Zc19, Zc20, Zc21, Zc22, Zc23, Zc24, Zc25, Zc26, Zc27, Zc28, Zc29, Zc30, Zc31, Zc32, Zc33, Zc34, Zc35, Zc36, Zc37, Zc38, Zc39, Zc40, Zc41, Zc42]
theorem Zc_in : ∀ c ∈ ZcL, ∀ w ∈ c, w ∈ lw_tbl := by
  intro c hc w hw
  rw [Zc_all, Zcg0, Zcg1, Zcg2, Zcg3, Zcg4, Zcg5, Zcg6, Zcg7, Zcg8]
  simp only [ZcL, List.mem_cons, List.not_mem_nil, or_false] at hc
  simp only [List.mem_append]
  rcases hc with rfl | rfl | rfl | rfl | rfl | rfl | rfl | rfl | rfl | rfl | rfl | rfl | rfl | rfl | rfl | rfl | rfl | rfl | rfl | rfl | rfl | rfl | rfl | rfl | rfl | rfl | rfl | rfl | rfl | rfl | rfl | rfl | rfl | rfl | rfl | rfl | rfl | rfl | rfl | rfl | rfl | rfl | rfl <;> simp only [hw, true_or, or_true]
def Zcd : Cond := .initialized "KnitRiverLaw"
def Zcn : Cond := .methodLinkNest "KnitRiver$River" 68 ⟨"KnitRiver$Text","<init>","()V"⟩ "KnitRiver"
def Zan (h : Nat) : Cond := match ((ZcL.getD (h / 32) [])[h % 32]?) with
  | some w => (match Zisn w with
    | true => w
    | false => Zcn)
  | none => Zcn
def Zat (h : Nat) : Cond := match ((ZcL.getD (h / 32) [])[h % 32]?) with
  | some w => (match goodWord w with
    | true => w
    | false => Zcd)
  | none => Zcd
theorem Zc_get {h : Nat} {w : Cond} (hw : (ZcL.getD (h / 32) [])[h % 32]? = some w) : w ∈ lw_tbl := by
  have hm := List.mem_of_getElem? hw
  rw [List.getD_eq_getElem?_getD] at hm
  cases hc : ZcL[h / 32]? with
  | none => rw [hc] at hm; simp at hm
  | some c => rw [hc] at hm; exact Zc_in c (List.mem_of_getElem? hc) w hm
theorem Zcd_in : Zcd ∈ lw_tbl := Zc_in Zc4 (List.mem_of_getElem? (i := 4) rfl) _ (List.mem_of_getElem? (i := 0) rfl)
theorem Zcn_in : Zcn ∈ lw_tbl := Zc_get (h := 159) rfl
theorem Zat_tg (h : Nat) : Zat h ∈ Ztg := by
  have hd : Zcd ∈ Ztg := List.mem_filter.mpr ⟨Zcd_in, rfl⟩
  unfold Zat
  split
  · rename_i w hw
    split
    · rename_i hg
      exact List.mem_filter.mpr ⟨Zc_get hw, hg⟩
    · exact hd
  · exact hd
theorem Zan_tg (h : Nat) : Zan h ∈ Znest := by
  have hd : Zcn ∈ Znest := List.mem_filter.mpr ⟨Zcn_in, rfl⟩
  unfold Zan
  split
  · rename_i w hw
    split
    · rename_i hg
      exact List.mem_filter.mpr ⟨Zc_get hw, hg⟩
    · exact hd
  · exact hd
theorem Zat_in {ws : List Cond} {hs : List Nat} (h : ws = hs.map Zat) : ∀ w ∈ ws, w ∈ Ztg := by
  intro w hw
  rw [h] at hw
  obtain ⟨i, -, rfl⟩ := List.mem_map.mp hw
  exact Zat_tg i
theorem Zan_in {ws : List Cond} {hs : List Nat} (h : ws = hs.map Zan) : ∀ w ∈ ws, w ∈ Znest := by
  intro w hw
  rw [h] at hw
  obtain ⟨i, -, rfl⟩ := List.mem_map.mp hw
  exact Zan_tg i
def ZT0 : u_T := fun k => match k with
  | 0 => ("KnitRiver", "now", "LKnitRiver$River;", true)
  | 1 => ("KnitRiver", "kept", "LKnitRiver$River;", true)
  | 2 => ("KnitRiver", "reader", "LKnitRiver$Reader;", true)
  | 3 => ("KnitRiver", "path", "LKnitRiver$Course;", true)
  | 4 => ("KnitRiver", "way", "LKnitRiver$Reach;", true)
  | 5 => ("KnitRiver", "voices", "LKnitRiver$Voices;", true)
  | 6 => ("KnitRiver", "sheets", "[LKnitRiver$Sheet;", true)
  | 7 => ("KnitRiver", "errors", "[I", true)
  | _ => ("KnitRiver", "images", "I", false)
def ZT1 : u_T := fun k => match k with
  | 0 => ("KnitRiver$River", "kind", "[I", true)
  | 1 => ("KnitRiver$River", "m", "[I", true)
  | 2 => ("KnitRiver$River", "wide", "[I", true)
  | 3 => ("KnitRiver$River", "tension", "[I", true)
  | 4 => ("KnitRiver$River", "tied", "[I", true)
  | 5 => ("KnitRiver$River", "rows", "I", false)
  | 6 => ("KnitRiver$River", "thread", "I", false)
  | 7 => ("KnitRiver$River", "way", "I", false)
  | 8 => ("KnitRiver$River", "season", "I", false)
  | 9 => ("KnitRiver$River", "sea", "I", false)
  | 10 => ("KnitRiver$River", "z", "I", false)
  | 11 => ("KnitRiver$River", "tape", "[B", true)
  | 12 => ("KnitRiver$River", "bytes", "I", false)
  | 13 => ("KnitRiver$River", "waits", "[I", true)
  | 14 => ("KnitRiver$River", "waiting", "I", false)
  | 15 => ("KnitRiver$River", "texts", "[LKnitRiver$Text;", true)
  | _ => ("KnitRiver$River", "comes", "[I", true)
def ZT2 : u_T := fun k => match k with
  | 0 => ("KnitRiver$Text", "known", "Z", false)
  | 1 => ("KnitRiver$Text", "code", "[I", true)
  | 2 => ("KnitRiver$Text", "size", "I", false)
  | 3 => ("KnitRiver$Text", "stack", "[I", true)
  | _ => ("KnitRiver$Text", "top", "I", false)
def ZT3 : u_T := fun k => match k with
  | 0 => ("KnitRiver$Reader", "code", "[I", true)
  | 1 => ("KnitRiver$Reader", "size", "I", false)
  | 2 => ("KnitRiver$Reader", "at", "I", false)
  | 3 => ("KnitRiver$Reader", "tape", "[B", false)
  | 4 => ("KnitRiver$Reader", "bytes", "I", false)
  | _ => ("KnitRiver$Reader", "use", "I", false)
def ZT4 : u_T := fun k => match k with
  | 0 => ("KnitRiver$Course", "across", "[I", true)
  | 1 => ("KnitRiver$Course", "down", "[I", true)
  | 2 => ("KnitRiver$Course", "rows", "I", false)
  | _ => ("KnitRiver$Course", "goes", "I", false)
def ZT5 : u_T := fun k => match k with
  | 0 => ("KnitRiver$Reach", "yarns", "[I", true)
  | 1 => ("KnitRiver$Reach", "many", "I", false)
  | 2 => ("KnitRiver$Reach", "yarn", "I", false)
  | _ => ("KnitRiver$Reach", "found", "I", false)
def ZT6 : u_T := fun k => match k with
  | 0 => ("KnitRiver$Voices", "trace", "[I", true)
  | 1 => ("KnitRiver$Voices", "traced", "I", false)
  | 2 => ("KnitRiver$Voices", "answer", "I", false)
  | 3 => ("KnitRiver$Voices", "begun", "[I", true)
  | 4 => ("KnitRiver$Voices", "began", "I", false)
  | 5 => ("KnitRiver$Voices", "parted", "Z", false)
  | 6 => ("KnitRiver$Voices", "kind", "I", false)
  | 7 => ("KnitRiver$Voices", "k", "I", false)
  | _ => ("KnitRiver$Voices", "m", "I", false)
def ZT7 : u_T := fun k => match k with
  | 0 => ("KnitRiver$Sheet", "numbers", "[I", true)
  | 1 => ("KnitRiver$Sheet", "bits", "I", false)
  | _ => ("KnitRiver$Sheet", "size", "I", false)
def ZT8 : u_T := fun k => match k with
  | 0 => ("KnitRiverModel", "s", "[I", true)
  | 1 => ("KnitRiverModel", "kept", "[I", true)
  | 2 => ("KnitRiverModel", "images", "I", false)
  | 3 => ("KnitRiverModel", "errors", "[I", true)
  | 4 => ("KnitRiverModel", "at", "I", false)
  | 5 => ("KnitRiverModel", "open", "I", false)
  | 6 => ("KnitRiverModel", "steps", "I", false)
  | 7 => ("KnitRiverModel", "use", "I", false)
  | 8 => ("KnitRiverModel", "step", "[I", true)
  | 9 => ("KnitRiverModel", "named", "[I", true)
  | 10 => ("KnitRiverModel", "pile", "[I", true)
  | 11 => ("KnitRiverModel", "comes", "[I", true)
  | 12 => ("KnitRiverModel", "floods", "I", false)
  | 13 => ("KnitRiverModel", "across", "[I", true)
  | 14 => ("KnitRiverModel", "down", "[I", true)
  | 15 => ("KnitRiverModel", "goesNow", "I", false)
  | 16 => ("KnitRiverModel", "stitch", "[I", true)
  | 17 => ("KnitRiverModel", "bestStitch", "[I", true)
  | 18 => ("KnitRiverModel", "bestYarn", "I", false)
  | 19 => ("KnitRiverModel", "traced", "I", false)
  | 20 => ("KnitRiverModel", "trace", "[I", true)
  | 21 => ("KnitRiverModel", "speaks", "I", false)
  | 22 => ("KnitRiverModel", "isParted", "Z", false)
  | 23 => ("KnitRiverModel", "bits", "[I", true)
  | 24 => ("KnitRiverModel", "sizes", "[I", true)
  | 25 => ("KnitRiverModel", "number", "[I", true)
  | _ => ("KnitRiverModel", "aside", "[I", true)
def Zcl : List vw_C := [("KnitRiver", ZT0, 9), ("KnitRiver$River", ZT1, 17), ("KnitRiver$Text", ZT2, 5), ("KnitRiver$Reader", ZT3, 6), ("KnitRiver$Course", ZT4, 4), ("KnitRiver$Reach", ZT5, 4), ("KnitRiver$Voices", ZT6, 9), ("KnitRiver$Sheet", ZT7, 3), ("KnitRiverModel", ZT8, 27)]
def Zft : Nat → Nat → FieldType := fun c => match c with
  | 0 => fun k => match k with
    | 0 => (.object "KnitRiver$River")
    | 1 => (.object "KnitRiver$River")
    | 2 => (.object "KnitRiver$Reader")
    | 3 => (.object "KnitRiver$Course")
    | 4 => (.object "KnitRiver$Reach")
    | 5 => (.object "KnitRiver$Voices")
    | 6 => (.array (.object "KnitRiver$Sheet"))
    | 7 => (.array .int)
    | _ => .int
  | 1 => fun k => match k with
    | 0 => (.array .int)
    | 1 => (.array .int)
    | 2 => (.array .int)
    | 3 => (.array .int)
    | 4 => (.array .int)
    | 5 => .int
    | 6 => .int
    | 7 => .int
    | 8 => .int
    | 9 => .int
    | 10 => .int
    | 11 => (.array .byte)
    | 12 => .int
    | 13 => (.array .int)
    | 14 => .int
    | 15 => (.array (.object "KnitRiver$Text"))
    | _ => (.array .int)
  | 2 => fun k => match k with
    | 0 => .boolean
    | 1 => (.array .int)
    | 2 => .int
    | 3 => (.array .int)
    | _ => .int
  | 3 => fun k => match k with
    | 0 => (.array .int)
    | 1 => .int
    | 2 => .int
    | 3 => (.array .byte)
    | 4 => .int
    | _ => .int
  | 4 => fun k => match k with
    | 0 => (.array .int)
    | 1 => (.array .int)
    | 2 => .int
    | _ => .int
  | 5 => fun k => match k with
    | 0 => (.array .int)
    | 1 => .int
    | 2 => .int
    | _ => .int
  | 6 => fun k => match k with
    | 0 => (.array .int)
    | 1 => .int
    | 2 => .int
    | 3 => (.array .int)
    | 4 => .int
    | 5 => .boolean
    | 6 => .int
    | 7 => .int
    | _ => .int
  | 7 => fun k => match k with
    | 0 => (.array .int)
    | 1 => .int
    | _ => .int
  | _ => fun k => match k with
    | 0 => (.array .int)
    | 1 => (.array .int)
    | 2 => .int
    | 3 => (.array .int)
    | 4 => .int
    | 5 => .int
    | 6 => .int
    | 7 => .int
    | 8 => (.array .int)
    | 9 => (.array .int)
    | 10 => (.array .int)
    | 11 => (.array .int)
    | 12 => .int
    | 13 => (.array .int)
    | 14 => (.array .int)
    | 15 => .int
    | 16 => (.array .int)
    | 17 => (.array .int)
    | 18 => .int
    | 19 => .int
    | 20 => (.array .int)
    | 21 => .int
    | 22 => .boolean
    | 23 => (.array .int)
    | 24 => (.array .int)
    | 25 => (.array .int)
    | _ => (.array .int)
theorem Zcw0 : u_ws "KnitRiver" ZT0 9 = [416, 418, 420, 422, 424, 426, 428, 430, 432].map Zat := rfl
theorem Zcw1 : u_ws "KnitRiver$River" ZT1 17 = [223, 225, 227, 229, 231, 233, 235, 237, 239, 241, 243, 245, 247, 249, 251, 253, 255].map Zat := rfl
theorem Zcw2 : u_ws "KnitRiver$Text" ZT2 5 = [170, 172, 174, 176, 178].map Zat := rfl
theorem Zcw3 : u_ws "KnitRiver$Reader" ZT3 6 = [273, 275, 277, 279, 281, 283].map Zat := rfl
theorem Zcw4 : u_ws "KnitRiver$Course" ZT4 4 = [302, 304, 306, 308].map Zat := rfl
theorem Zcw5 : u_ws "KnitRiver$Reach" ZT5 4 = [325, 327, 329, 331].map Zat := rfl
theorem Zcw6 : u_ws "KnitRiver$Voices" ZT6 9 = [352, 354, 356, 358, 360, 362, 364, 366, 384].map Zat := rfl
theorem Zcw7 : u_ws "KnitRiver$Sheet" ZT7 3 = [400, 402, 404].map Zat := rfl
theorem Zcw8 : u_ws "KnitRiverModel" ZT8 27 = [938, 940, 942, 944, 946, 948, 950, 952, 954, 956, 958, 960, 962, 964, 966, 968, 970, 972, 974, 976, 978, 980, 982, 984, 986, 988, 990].map Zat := rfl
theorem Zcl_ws {j : Nat} {q : vw_C} (h : Zcl[j]? = some q) : ∀ w ∈ u_ws q.1 q.2.1 q.2.2, w ∈ Ztg := by
  match j, h with
  | 0, h => cases h; exact Zat_in Zcw0
  | 1, h => cases h; exact Zat_in Zcw1
  | 2, h => cases h; exact Zat_in Zcw2
  | 3, h => cases h; exact Zat_in Zcw3
  | 4, h => cases h; exact Zat_in Zcw4
  | 5, h => cases h; exact Zat_in Zcw5
  | 6, h => cases h; exact Zat_in Zcw6
  | 7, h => cases h; exact Zat_in Zcw7
  | 8, h => cases h; exact Zat_in Zcw8
  | j + 9, h => simp [Zcl] at h
theorem Zcl_okq {j : Nat} {q : vw_C} (h : Zcl[j]? = some q) : j < 9 := (List.getElem?_eq_some_iff.mp h).1
def ZclB (j : Nat) : Bool := match Zcl[j]? with
  | some q => (List.range q.2.2).all (fun k => decide ((q.2.1 k).1 = q.1) && decide (parseFieldDescriptor (q.2.1 k).2.2.1 = some (Zft j k)) && (List.range q.2.2).all (fun i => decide (k = i) || decide ((q.2.1 k).2.1 ≠ (q.2.1 i).2.1)))
  | none => true
theorem ZclB_ok : ∀ j, j < 9 → ZclB j = true := by decide +kernel
theorem ZclB_at {j : Nat} {q : vw_C} (h : Zcl[j]? = some q) {k : Nat} (hk : k < q.2.2) : (q.2.1 k).1 = q.1 ∧ parseFieldDescriptor (q.2.1 k).2.2.1 = some (Zft j k) ∧ ∀ i, i < q.2.2 → k = i ∨ (q.2.1 k).2.1 ≠ (q.2.1 i).2.1 := by
  have h1 := ZclB_ok j (Zcl_okq h)
  unfold ZclB at h1
  rw [h] at h1
  have h2 := List.all_eq_true.mp h1 k (List.mem_range.mpr hk)
  simp only [Bool.and_eq_true, decide_eq_true_eq] at h2
  refine ⟨h2.1.1, h2.1.2, fun i hi => ?_⟩
  have h3 := List.all_eq_true.mp h2.2 i (List.mem_range.mpr hi)
  simpa using h3
theorem Zcl_own {j : Nat} {q : vw_C} (h : Zcl[j]? = some q) {k : Nat} (hk : k < q.2.2) : (q.2.1 k).1 = q.1 := (ZclB_at h hk).1
theorem Zcl_ty {j : Nat} {q : vw_C} (h : Zcl[j]? = some q) : ∀ k, k < q.2.2 → parseFieldDescriptor (q.2.1 k).2.2.1 = some (Zft j k) := fun k hk => (ZclB_at h hk).2.1
theorem Zcl_nm {j : Nat} {q : vw_C} (h : Zcl[j]? = some q) : ∀ a, a < q.2.2 → ∀ b, b < q.2.2 → a ≠ b → (q.2.1 a).2.1 ≠ (q.2.1 b).2.1 := fun a ha b hb hab => ((ZclB_at h ha).2.2 b hb).elim (fun e => absurd e hab) (fun e => e)
def ZshL : List (Nat × Nat × List (Nat × Nat)) := [(4, 0, [(2, 1), (2, 17), (2, 33), (2, 35), (2, 38), (2, 40), (2, 43), (2, 44), (0, 0)]),
  (4, 1, [(2, 2), (2, 3), (2, 4), (2, 5), (2, 6), (0, 0), (0, 0), (0, 0), (0, 0), (0, 0), (0, 0), (2, 7), (0, 0), (2, 8), (0, 0), (2, 9), (2, 10)]),
  (0, 15, []),
  (0, 15, []),
  (0, 15, []),
  (0, 15, []),
  (0, 15, []),
  (1, 60, []),
  (0, 24, []),
  (2, 2, [(2, 11), (2, 14)]),
  (0, 16, []),
  (4, 2, [(1, 0), (2, 12), (0, 0), (2, 13), (0, 0)]),
  (0, 60, []),
  (0, 60, []),
  (4, 2, [(1, 0), (2, 15), (0, 0), (2, 16), (0, 0)]),
  (0, 60, []),
  (0, 60, []),
  (4, 1, [(2, 18), (2, 19), (2, 20), (2, 21), (2, 22), (0, 0), (0, 0), (0, 0), (0, 0), (0, 0), (0, 0), (2, 23), (0, 0), (2, 24), (0, 0), (2, 25), (2, 26)]),
  (0, 15, []),
  (0, 15, []),
  (0, 15, []),
  (0, 15, []),
  (0, 15, []),
  (1, 60, []),
  (0, 24, []),
  (2, 2, [(2, 27), (2, 30)]),
  (0, 16, []),
  (4, 2, [(1, 0), (2, 28), (0, 0), (2, 29), (0, 0)]),
  (0, 60, []),
  (0, 60, []),
  (4, 2, [(1, 0), (2, 31), (0, 0), (2, 32), (0, 0)]),
  (0, 60, []),
  (0, 60, []),
  (4, 3, [(2, 34), (0, 0), (0, 0), (3, 7), (0, 0), (0, 0)]),
  (0, 60, []),
  (4, 4, [(2, 36), (2, 37), (0, 0), (0, 0)]),
  (0, 16, []),
  (0, 16, []),
  (4, 5, [(2, 39), (0, 0), (0, 0), (0, 0)]),
  (0, 4, []),
  (4, 6, [(2, 41), (0, 0), (0, 0), (2, 42), (0, 0), (1, 0), (0, 0), (0, 0), (0, 0)]),
  (0, 30, []),
  (0, 30, []),
  (3, 4, [(2, 45), (2, 47), (2, 49), (2, 51)]),
  (0, 7, []),
  (4, 7, [(2, 46), (0, 0), (0, 0)]),
  (0, 24, []),
  (4, 7, [(2, 48), (0, 0), (0, 0)]),
  (0, 24, []),
  (4, 7, [(2, 50), (0, 0), (0, 0)]),
  (0, 24, []),
  (4, 7, [(2, 52), (0, 0), (0, 0)]),
  (0, 24, []),
  (4, 8, [(2, 54), (2, 55), (0, 0), (2, 56), (0, 0), (0, 0), (0, 0), (0, 0), (2, 57), (2, 58), (2, 59), (2, 60), (0, 0), (2, 61), (2, 62), (0, 0), (2, 63), (2, 64), (0, 0), (0, 0), (2, 65), (0, 0), (1, 0), (2, 66), (2, 67), (2, 68), (2, 69)]),
  (0, 418, []),
  (0, 418, []),
  (0, 7, []),
  (0, 124, []),
  (0, 128, []),
  (0, 64, []),
  (0, 16, []),
  (0, 22, []),
  (0, 22, []),
  (0, 5, []),
  (0, 5, []),
  (0, 30, []),
  (0, 4, []),
  (0, 4, []),
  (0, 96, []),
  (0, 24, [])]
abbrev Zno : Nat := 70
def ZmtL : List Zmi := [(⟨"KnitRiver", "<init>", "()V"⟩, prog_1_method_1_code, 2, none),
  (⟨"KnitRiver", "knit", "(III)I"⟩, prog_1_method_2_code, 5, some .int),
  (⟨"KnitRiver", "rowIs", "(II)I"⟩, prog_1_method_3_code, 3, some .int),
  (⟨"KnitRiver", "become", "(II)I"⟩, prog_1_method_4_code, 4, some .int),
  (⟨"KnitRiver", "as", "(II)I"⟩, prog_1_method_5_code, 3, some .int),
  (⟨"KnitRiver", "tie", "(II)I"⟩, prog_1_method_6_code, 4, some .int),
  (⟨"KnitRiver", "drop", "(I)I"⟩, prog_1_method_7_code, 2, some .int),
  (⟨"KnitRiver", "tense", "(II)I"⟩, prog_1_method_8_code, 4, some .int),
  (⟨"KnitRiver", "pull", "(I)I"⟩, prog_1_method_9_code, 2, some .int),
  (⟨"KnitRiver", "wind", "(II)I"⟩, prog_1_method_10_code, 4, some .int),
  (⟨"KnitRiver", "feed", "(JI)I"⟩, prog_1_method_11_code, 5, some .int),
  (⟨"KnitRiver", "text", "(I)I"⟩, prog_1_method_12_code, 3, some .int),
  (⟨"KnitRiver", "untell", "(I)I"⟩, prog_1_method_13_code, 3, some .int),
  (⟨"KnitRiver", "law", "(IIII)I"⟩, prog_1_method_14_code, 5, some .int),
  (⟨"KnitRiver", "season", "(I)I"⟩, prog_1_method_15_code, 2, some .int),
  (⟨"KnitRiver", "loose", "(I)I"⟩, prog_1_method_16_code, 4, some .int),
  (⟨"KnitRiver", "seed", "(I)I"⟩, prog_1_method_17_code, 3, some .int),
  (⟨"KnitRiver", "flow", "(III)I"⟩, prog_1_method_18_code, 5, some .int),
  (⟨"KnitRiver", "course", "(II)I"⟩, prog_1_method_19_code, 3, some .int),
  (⟨"KnitRiver", "crosses", "()I"⟩, prog_1_method_20_code, 1, some .int),
  (⟨"KnitRiver", "reach", "(III)I"⟩, prog_1_method_21_code, 4, some .int),
  (⟨"KnitRiver", "ease", "(II)I"⟩, prog_1_method_22_code, 7, some .int),
  (⟨"KnitRiver", "odds", "(I)I"⟩, prog_1_method_23_code, 5, some .int),
  (⟨"KnitRiver", "fits", "(II)I"⟩, prog_1_method_24_code, 6, some .int),
  (⟨"KnitRiver", "voice", "(III)I"⟩, prog_1_method_25_code, 4, some .int),
  (⟨"KnitRiver", "body", "(I)I"⟩, prog_1_method_26_code, 2, some .int),
  (⟨"KnitRiver", "sheet", "(III)I"⟩, prog_1_method_27_code, 4, some .int),
  (⟨"KnitRiver", "put", "(III)I"⟩, prog_1_method_28_code, 5, some .int),
  (⟨"KnitRiver", "move", "(IIIII)I"⟩, prog_1_method_29_code, 8, some .int),
  (⟨"KnitRiver", "tensions", "(I)I"⟩, prog_1_method_30_code, 5, some .int),
  (⟨"KnitRiver", "judge", "(I)I"⟩, prog_1_method_31_code, 5, some .int),
  (⟨"KnitRiver", "image", "()I"⟩, prog_1_method_32_code, 1, some .int),
  (⟨"KnitRiver", "restore", "()I"⟩, prog_1_method_33_code, 1, some .int),
  (⟨"KnitRiver", "tell", "(I)I"⟩, prog_1_method_34_code, 2, some .int),
  (⟨"KnitRiver", "check", "()I"⟩, prog_1_method_35_code, 3, some .int),
  (⟨"KnitRiver", "count", "(I)I"⟩, prog_1_method_36_code, 2, some .int),
  (⟨"KnitRiver", "told", "(I)I"⟩, prog_1_method_37_code, 2, some .int),
  (⟨"KnitRiver", "refuse", "(I)I"⟩, prog_1_method_38_code, 2, some .int),
  (⟨"KnitRiver", "isRow", "(I)Z"⟩, prog_1_method_39_code, 2, some .boolean),
  (⟨"KnitRiver", "isStitch", "(I)Z"⟩, prog_1_method_40_code, 1, some .boolean),
  (⟨"KnitRiver", "isTension", "(I)Z"⟩, prog_1_method_41_code, 1, some .boolean),
  (⟨"KnitRiver", "isWater", "(I)Z"⟩, prog_1_method_42_code, 1, some .boolean),
  (⟨"KnitRiver", "isUse", "(I)Z"⟩, prog_1_method_43_code, 1, some .boolean),
  (⟨"KnitRiver", "isSheet", "(I)Z"⟩, prog_1_method_44_code, 1, some .boolean),
  (⟨"KnitRiver", "whyNoSheet", "(I)I"⟩, prog_1_method_45_code, 2, some .int),
  (⟨"KnitRiver", "comesAsTold", "(ILKnitRiver$Sheet;)Z"⟩, prog_1_method_46_code, 4, some .boolean),
  (⟨"KnitRiver", "within", "(III)Z"⟩, prog_1_method_47_code, 3, some .boolean),
  (⟨"KnitRiver", "held", "(III)I"⟩, prog_1_method_48_code, 3, some .int),
  (⟨"KnitRiver", "commonDivisor", "(II)I"⟩, prog_1_method_49_code, 6, some .int),
  (⟨"KnitRiverModel", "<init>", "()V"⟩, prog_11_method_1_code, 1, none),
  (⟨"KnitRiverModel", "error", "(I)I"⟩, prog_11_method_2_code, 2, some .int),
  (⟨"KnitRiverModel", "in", "(III)Z"⟩, prog_11_method_3_code, 3, some .boolean),
  (⟨"KnitRiverModel", "held", "(III)I"⟩, prog_11_method_4_code, 3, some .int),
  (⟨"KnitRiverModel", "copyAll", "([I[I)V"⟩, prog_11_method_5_code, 3, none),
  (⟨"KnitRiverModel", "isRow", "(I)Z"⟩, prog_11_method_6_code, 2, some .boolean),
  (⟨"KnitRiverModel", "isTension", "(I)Z"⟩, prog_11_method_7_code, 1, some .boolean),
  (⟨"KnitRiverModel", "its", "(II)I"⟩, prog_11_method_8_code, 3, some .int),
  (⟨"KnitRiverModel", "lays1", "(III)V"⟩, prog_11_method_9_code, 4, none),
  (⟨"KnitRiverModel", "change1", "(II)I"⟩, prog_11_method_10_code, 4, some .int),
  (⟨"KnitRiverModel", "feed", "(JI)I"⟩, prog_11_method_11_code, 5, some .int),
  (⟨"KnitRiverModel", "look", "()I"⟩, prog_11_method_12_code, 1, some .int),
  (⟨"KnitRiverModel", "isName", "(I)Z"⟩, prog_11_method_13_code, 2, some .boolean),
  (⟨"KnitRiverModel", "step1", "(II)V"⟩, prog_11_method_14_code, 3, none),
  (⟨"KnitRiverModel", "whole", "()Z"⟩, prog_11_method_15_code, 1, some .boolean),
  (⟨"KnitRiverModel", "both", "()Z"⟩, prog_11_method_16_code, 1, some .boolean),
  (⟨"KnitRiverModel", "compared", "()Z"⟩, prog_11_method_17_code, 2, some .boolean),
  (⟨"KnitRiverModel", "sum", "()Z"⟩, prog_11_method_18_code, 2, some .boolean),
  (⟨"KnitRiverModel", "product", "()Z"⟩, prog_11_method_19_code, 2, some .boolean),
  (⟨"KnitRiverModel", "opens", "()Z"⟩, prog_11_method_20_code, 1, some .boolean),
  (⟨"KnitRiverModel", "one", "()Z"⟩, prog_11_method_21_code, 4, some .boolean),
  (⟨"KnitRiverModel", "hasText", "(I)Z"⟩, prog_11_method_22_code, 2, some .boolean),
  (⟨"KnitRiverModel", "text", "(I)I"⟩, prog_11_method_23_code, 5, some .int),
  (⟨"KnitRiverModel", "untell", "(I)I"⟩, prog_11_method_24_code, 3, some .int),
  (⟨"KnitRiverModel", "joined", "(III)I"⟩, prog_11_method_25_code, 3, some .int),
  (⟨"KnitRiverModel", "worked", "(I)I"⟩, prog_11_method_26_code, 7, some .int),
  (⟨"KnitRiverModel", "saidOf", "(IIII)I"⟩, prog_11_method_27_code, 6, some .int),
  (⟨"KnitRiverModel", "yarnTold", "(III)I"⟩, prog_11_method_28_code, 4, some .int),
  (⟨"KnitRiverModel", "holdsTold", "(III)I"⟩, prog_11_method_29_code, 4, some .int),
  (⟨"KnitRiverModel", "yarnAs", "(III)I"⟩, prog_11_method_30_code, 4, some .int),
  (⟨"KnitRiverModel", "yarnOf", "(I)I"⟩, prog_11_method_31_code, 2, some .int),
  (⟨"KnitRiverModel", "holdsBy", "(II)I"⟩, prog_11_method_32_code, 3, some .int),
  (⟨"KnitRiverModel", "bendsAs", "(II)I"⟩, prog_11_method_33_code, 2, some .int),
  (⟨"KnitRiverModel", "letDown", "(II)V"⟩, prog_11_method_34_code, 5, none),
  (⟨"KnitRiverModel", "aSeason", "(I)I"⟩, prog_11_method_35_code, 4, some .int),
  (⟨"KnitRiverModel", "draw", "()I"⟩, prog_11_method_36_code, 1, some .int),
  (⟨"KnitRiverModel", "bitsOf", "(I)I"⟩, prog_11_method_37_code, 3, some .int),
  (⟨"KnitRiverModel", "step", "(II)V"⟩, prog_11_method_38_code, 3, none),
  (⟨"KnitRiverModel", "findCourse", "()V"⟩, prog_11_method_39_code, 2, none),
  (⟨"KnitRiverModel", "isKind", "(I)Z"⟩, prog_11_method_40_code, 1, some .boolean),
  (⟨"KnitRiverModel", "knit", "(III)I"⟩, prog_11_method_41_code, 6, some .int),
  (⟨"KnitRiverModel", "rowIs", "(II)I"⟩, prog_11_method_42_code, 3, some .int),
  (⟨"KnitRiverModel", "become", "(II)I"⟩, prog_11_method_43_code, 3, some .int),
  (⟨"KnitRiverModel", "as", "(II)I"⟩, prog_11_method_44_code, 4, some .int),
  (⟨"KnitRiverModel", "tie", "(II)I"⟩, prog_11_method_45_code, 3, some .int),
  (⟨"KnitRiverModel", "drop", "(I)I"⟩, prog_11_method_46_code, 2, some .int),
  (⟨"KnitRiverModel", "tense", "(II)I"⟩, prog_11_method_47_code, 3, some .int),
  (⟨"KnitRiverModel", "pull", "(I)I"⟩, prog_11_method_48_code, 3, some .int),
  (⟨"KnitRiverModel", "wind", "(II)I"⟩, prog_11_method_49_code, 3, some .int),
  (⟨"KnitRiverModel", "law", "(IIII)I"⟩, prog_11_method_50_code, 5, some .int),
  (⟨"KnitRiverModel", "isWater", "(I)Z"⟩, prog_11_method_51_code, 1, some .boolean),
  (⟨"KnitRiverModel", "season", "(I)I"⟩, prog_11_method_52_code, 2, some .int),
  (⟨"KnitRiverModel", "loose", "(I)I"⟩, prog_11_method_53_code, 5, some .int),
  (⟨"KnitRiverModel", "seed", "(I)I"⟩, prog_11_method_54_code, 2, some .int),
  (⟨"KnitRiverModel", "flow", "(III)I"⟩, prog_11_method_55_code, 4, some .int),
  (⟨"KnitRiverModel", "course", "(II)I"⟩, prog_11_method_56_code, 3, some .int),
  (⟨"KnitRiverModel", "crosses", "()I"⟩, prog_11_method_57_code, 5, some .int),
  (⟨"KnitRiverModel", "stitchOf", "(I)I"⟩, prog_11_method_58_code, 1, some .int),
  (⟨"KnitRiverModel", "leads", "(IIIII)Z"⟩, prog_11_method_59_code, 11, some .boolean),
  (⟨"KnitRiverModel", "reach", "(III)I"⟩, prog_11_method_60_code, 5, some .int),
  (⟨"KnitRiverModel", "ease", "(II)I"⟩, prog_11_method_61_code, 7, some .int),
  (⟨"KnitRiverModel", "divisor", "(II)I"⟩, prog_11_method_62_code, 5, some .int),
  (⟨"KnitRiverModel", "odds", "(I)I"⟩, prog_11_method_63_code, 4, some .int),
  (⟨"KnitRiverModel", "fits", "(II)I"⟩, prog_11_method_64_code, 10, some .int),
  (⟨"KnitRiverModel", "starts", "(I)V"⟩, prog_11_method_65_code, 2, none),
  (⟨"KnitRiverModel", "above", "(I)I"⟩, prog_11_method_66_code, 1, some .int),
  (⟨"KnitRiverModel", "kindNow", "()I"⟩, prog_11_method_67_code, 1, some .int),
  (⟨"KnitRiverModel", "mNow", "()I"⟩, prog_11_method_68_code, 1, some .int),
  (⟨"KnitRiverModel", "runsAs", "(II)I"⟩, prog_11_method_69_code, 3, some .int),
  (⟨"KnitRiverModel", "turnsAs", "(II)I"⟩, prog_11_method_70_code, 3, some .int),
  (⟨"KnitRiverModel", "poolsAs", "(II)I"⟩, prog_11_method_71_code, 3, some .int),
  (⟨"KnitRiverModel", "partsAs", "(II)I"⟩, prog_11_method_72_code, 5, some .int),
  (⟨"KnitRiverModel", "voice", "(III)I"⟩, prog_11_method_73_code, 6, some .int),
  (⟨"KnitRiverModel", "body", "(I)I"⟩, prog_11_method_74_code, 2, some .int),
  (⟨"KnitRiverModel", "isSheet", "(I)Z"⟩, prog_11_method_75_code, 1, some .boolean),
  (⟨"KnitRiverModel", "sheet", "(III)I"⟩, prog_11_method_76_code, 5, some .int),
  (⟨"KnitRiverModel", "put", "(III)I"⟩, prog_11_method_77_code, 5, some .int),
  (⟨"KnitRiverModel", "move", "(IIIII)I"⟩, prog_11_method_78_code, 7, some .int),
  (⟨"KnitRiverModel", "lacks", "(I)I"⟩, prog_11_method_79_code, 2, some .int),
  (⟨"KnitRiverModel", "tensions", "(I)I"⟩, prog_11_method_80_code, 4, some .int),
  (⟨"KnitRiverModel", "judge", "(I)I"⟩, prog_11_method_81_code, 4, some .int),
  (⟨"KnitRiverModel", "image", "()I"⟩, prog_11_method_82_code, 1, some .int),
  (⟨"KnitRiverModel", "restore", "()I"⟩, prog_11_method_83_code, 1, some .int),
  (⟨"KnitRiverModel", "tell", "(I)I"⟩, prog_11_method_84_code, 2, some .int),
  (⟨"KnitRiverModel", "check", "()I"⟩, prog_11_method_85_code, 3, some .int),
  (⟨"KnitRiverModel", "count", "(I)I"⟩, prog_11_method_86_code, 2, some .int),
  (⟨"KnitRiverModel", "told", "(I)I"⟩, prog_11_method_87_code, 2, some .int),
  (⟨"KnitRiver$Course", "<init>", "()V"⟩, prog_2_method_1_code, 1, none),
  (⟨"KnitRiver$Course", "turned", "(II)I"⟩, prog_2_method_2_code, 2, some .int),
  (⟨"KnitRiver$Course", "acrossMore", "(I)I"⟩, prog_2_method_3_code, 1, some .int),
  (⟨"KnitRiver$Course", "downMore", "(I)I"⟩, prog_2_method_4_code, 1, some .int),
  (⟨"KnitRiver$Course", "follow", "(LKnitRiver$River;)V"⟩, prog_2_method_5_code, 3, none),
  (⟨"KnitRiver$Course", "crossings", "()I"⟩, prog_2_method_6_code, 3, some .int),
  (⟨"KnitRiver$Course", "wasAhead", "(I)Z"⟩, prog_2_method_7_code, 3, some .boolean),
  (⟨"KnitRiver$Kinds", "above", "(I)I"⟩, prog_3_method_2_code, 1, some .int),
  (⟨"KnitRiver$Kinds", "isOrIsUnder", "(II)Z"⟩, prog_3_method_3_code, 4, some .boolean),
  (⟨"KnitRiver$Kinds", "yarn", "(IIII)I"⟩, prog_3_method_4_code, 6, some .int),
  (⟨"KnitRiver$Kinds", "bends", "(II)I"⟩, prog_3_method_5_code, 3, some .int),
  (⟨"KnitRiver$Reach", "<init>", "()V"⟩, prog_4_method_1_code, 1, none),
  (⟨"KnitRiver$Reach", "stitch", "(I)I"⟩, prog_4_method_2_code, 2, some .int),
  (⟨"KnitRiver$Reach", "finds", "(LKnitRiver$River;LKnitRiver$Course;II)Z"⟩, prog_4_method_3_code, 7, some .boolean),
  (⟨"KnitRiver$Reach", "keepIfLess", "(I)V"⟩, prog_4_method_4_code, 3, none),
  (⟨"KnitRiver$Reach", "leads", "(ILKnitRiver$Course;II)Z"⟩, prog_4_method_5_code, 10, some .boolean),
  (⟨"KnitRiver$Reach", "yarnOf", "(I)I"⟩, prog_4_method_6_code, 4, some .int),
  (⟨"KnitRiver$Reach", "digit", "(III)I"⟩, prog_4_method_7_code, 3, some .int),
  (⟨"KnitRiver$Reader", "<init>", "()V"⟩, prog_5_method_1_code, 1, none),
  (⟨"KnitRiver$Reader", "reads", "([BII)Z"⟩, prog_5_method_2_code, 4, some .boolean),
  (⟨"KnitRiver$Reader", "next", "()I"⟩, prog_5_method_3_code, 1, some .int),
  (⟨"KnitRiver$Reader", "keep", "(I)V"⟩, prog_5_method_4_code, 2, none),
  (⟨"KnitRiver$Reader", "part", "(II)Z"⟩, prog_5_method_5_code, 6, some .boolean),
  (⟨"KnitRiver$Reader", "between", "(II)Z"⟩, prog_5_method_6_code, 3, some .boolean),
  (⟨"KnitRiver$Reader", "levelOf", "(I)I"⟩, prog_5_method_7_code, 1, some .int),
  (⟨"KnitRiver$Reader", "piece", "(I)Z"⟩, prog_5_method_8_code, 4, some .boolean),
  (⟨"KnitRiver$Reader", "opened", "(II)Z"⟩, prog_5_method_9_code, 4, some .boolean),
  (⟨"KnitRiver$Reader", "number", "()V"⟩, prog_5_method_10_code, 3, none),
  (⟨"KnitRiver$Reader", "isDigit", "(I)Z"⟩, prog_5_method_11_code, 1, some .boolean),
  (⟨"KnitRiver$Reader", "nameOf", "(I)I"⟩, prog_5_method_12_code, 4, some .int),
  (⟨"KnitRiver$River", "<init>", "()V"⟩, prog_6_method_1_code, 1, none),
  (⟨"KnitRiver$River", "copy", "(LKnitRiver$River;)V"⟩, prog_6_method_2_code, 2, none),
  (⟨"KnitRiver$River", "addRow", "(III)V"⟩, prog_6_method_3_code, 4, none),
  (⟨"KnitRiver$River", "yarnFor", "(III)I"⟩, prog_6_method_4_code, 4, some .int),
  (⟨"KnitRiver$River", "yarnOf", "(I)I"⟩, prog_6_method_5_code, 2, some .int),
  (⟨"KnitRiver$River", "holdsOf", "(II)I"⟩, prog_6_method_6_code, 4, some .int),
  (⟨"KnitRiver$River", "given", "(IIII)I"⟩, prog_6_method_7_code, 6, some .int),
  (⟨"KnitRiver$River", "leastHolds", "()I"⟩, prog_6_method_8_code, 3, some .int),
  (⟨"KnitRiver$River", "undo", "(I)I"⟩, prog_6_method_9_code, 4, some .int),
  (⟨"KnitRiver$River", "waters", "(II)I"⟩, prog_6_method_10_code, 6, some .int),
  (⟨"KnitRiver$River", "pass", "(I)I"⟩, prog_6_method_11_code, 4, some .int),
  (⟨"KnitRiver$River", "wear", "()V"⟩, prog_6_method_12_code, 3, none),
  (⟨"KnitRiver$River", "draw", "()I"⟩, prog_6_method_13_code, 1, some .int),
  (⟨"KnitRiver$Sheet", "<init>", "()V"⟩, prog_7_method_1_code, 1, none),
  (⟨"KnitRiver$Sheet", "make", "(II)V"⟩, prog_7_method_2_code, 4, none),
  (⟨"KnitRiver$Sheet", "write", "(II)V"⟩, prog_7_method_3_code, 3, none),
  (⟨"KnitRiver$Sheet", "has", "(II)Z"⟩, prog_7_method_4_code, 3, some .boolean),
  (⟨"KnitRiver$Text", "<init>", "()V"⟩, prog_8_method_1_code, 1, none),
  (⟨"KnitRiver$Text", "take", "([II)V"⟩, prog_8_method_2_code, 3, none),
  (⟨"KnitRiver$Text", "copy", "(LKnitRiver$Text;)V"⟩, prog_8_method_3_code, 2, none),
  (⟨"KnitRiver$Text", "workedOut", "(III)I"⟩, prog_8_method_4_code, 8, some .int),
  (⟨"KnitRiver$Text", "push", "(I)V"⟩, prog_8_method_5_code, 2, none),
  (⟨"KnitRiver$Text", "pop", "()I"⟩, prog_8_method_6_code, 1, some .int),
  (⟨"KnitRiver$Text", "joined", "(III)I"⟩, prog_8_method_7_code, 3, some .int),
  (⟨"KnitRiver$Voices", "<init>", "()V"⟩, prog_9_method_1_code, 1, none),
  (⟨"KnitRiver$Voices", "utters", "(LKnitRiver$River;III)Z"⟩, prog_9_method_2_code, 6, some .boolean),
  (⟨"KnitRiver$Voices", "spoken", "(IIII)I"⟩, prog_9_method_3_code, 6, some .int),
  (⟨"KnitRiver$Voices", "bodyOf", "(II)I"⟩, prog_9_method_4_code, 5, some .int),
  (⟨"KnitRiver$Voices", "workedOut", "(III)I"⟩, prog_9_method_5_code, 5, some .int),
  (⟨"KnitRiver$Voices", "partedBy", "(II)I"⟩, prog_9_method_6_code, 3, some .int),
  (x, code, maxLocals, ret),
  (⟨"java/lang/Integer", "bitCount", "(I)I"⟩, prog_12_method_49_code, 1, some .int),
  (⟨"java/lang/Math", "abs", "(I)I"⟩, prog_13_method_59_code, 1, some .int),
  (⟨"java/lang/Math", "floorMod", "(II)I"⟩, prog_13_method_50_code, 3, some .int),
  (⟨"java/lang/Math", "max", "(II)I"⟩, prog_13_method_65_code, 2, some .int),
  (⟨"java/lang/Math", "min", "(II)I"⟩, prog_13_method_69_code, 2, some .int)]
def ZnaL : List Nat := [0, 3, 2, 2, 2, 2, 1, 2, 1, 2, 2, 1, 1, 4, 1, 1, 1, 3, 2, 0, 3, 2, 1, 2, 3, 1, 3, 3, 5, 1, 1, 0, 0, 1, 0, 1, 1, 1, 1, 1, 1, 1, 1, 1, 1, 2, 3, 3, 2, 0, 1, 3, 3, 2, 1, 1, 2, 3, 2, 2, 0, 1, 2, 0, 0, 0, 0, 0, 0, 0, 1, 1, 1, 3, 1, 4, 3, 3, 3, 1, 2, 2, 2, 1, 0, 1, 2, 0, 1, 3, 2, 2, 2, 2, 1, 2, 1, 2, 4, 1, 1, 1, 1, 3, 2, 0, 1, 5, 3, 2, 2, 1, 2, 1, 1, 0, 0, 2, 2, 2, 2, 3, 1, 1, 3, 3, 5, 1, 1, 1, 0, 0, 1, 0, 1, 1, 0, 2, 1, 1, 1, 0, 1, 1, 2, 4, 2, 0, 1, 4, 1, 4, 1, 3, 0, 3, 0, 1, 2, 2, 1, 1, 2, 0, 1, 1, 0, 1, 3, 3, 1, 2, 4, 0, 1, 2, 1, 0, 0, 0, 2, 2, 2, 0, 2, 1, 3, 1, 0, 3, 0, 4, 4, 2, 3, 2, 1, 1, 1, 2, 2, 2]
def ZciL : List Nat := [0, 0, 0, 0, 0, 0, 0, 0, 0, 0, 0, 0, 0, 0, 0, 0, 0, 0, 0, 0, 0, 0, 0, 0, 0, 0, 0, 0, 0, 0, 0, 0, 0, 0, 0, 0, 0, 0, 0, 0, 0, 0, 0, 0, 0, 0, 0, 0, 0, 8, 8, 8, 8, 8, 8, 8, 8, 8, 8, 8, 8, 8, 8, 8, 8, 8, 8, 8, 8, 8, 8, 8, 8, 8, 8, 8, 8, 8, 8, 8, 8, 8, 8, 8, 8, 8, 8, 8, 8, 8, 8, 8, 8, 8, 8, 8, 8, 8, 8, 8, 8, 8, 8, 8, 8, 8, 8, 8, 8, 8, 8, 8, 8, 8, 8, 8, 8, 8, 8, 8, 8, 8, 8, 8, 8, 8, 8, 8, 8, 8, 8, 8, 8, 8, 8, 8, 4, 4, 4, 4, 4, 4, 4, 99, 99, 99, 99, 5, 5, 5, 5, 5, 5, 5, 3, 3, 3, 3, 3, 3, 3, 3, 3, 3, 3, 3, 1, 1, 1, 1, 1, 1, 1, 1, 1, 1, 1, 1, 1, 7, 7, 7, 7, 2, 2, 2, 2, 2, 2, 2, 6, 6, 6, 6, 6, 6, 99, 99, 99, 99, 99, 99]
def Zmt (k : Nat) : Zmi := ZmtL.getD k (⟨"", "", ""⟩, ⟨#[]⟩, 0, none)
def Zna (k : Nat) : Nat := ZnaL.getD k 99
def Zci (k : Nat) : Nat := ZciL.getD k 99
def Zsh (o : Nat) : Nat × Nat × List (Nat × Nat) := ZshL.getD o (9, 0, [])
def ZshB (o : Nat) : Bool := match Zsh o with
  | (4, ci, fs) => (match Zcl[ci]? with
    | some q => (List.range q.2.2).all (fun j => match fs[j]? with
      | some c => (match c.1 with
        | 0 => decide ((q.2.1 j).2.2.1 = "I")
        | 1 => decide ((q.2.1 j).2.2.1 = "Z")
        | 3 => decide ((q.2.1 j).2.2.1 = "[B")
        | _ => true)
      | none => false) && decide (fs.length = q.2.2)
    | none => false)
  | _ => true
theorem ZshB_ok : ∀ o, o < Zno → ZshB o = true := by decide +kernel
theorem ZshB_at {o ci r : Nat} {fs : List (Nat × Nat)} {c : Nat × Nat} {q : vw_C} (ho : o < Zno) (hsh : Zsh o = (4, ci, fs)) (hf : fs[r]? = some c) (hq : Zcl[ci]? = some q) : (match c.1 with
        | 0 => decide ((q.2.1 r).2.2.1 = "I")
        | 1 => decide ((q.2.1 r).2.2.1 = "Z")
        | 3 => decide ((q.2.1 r).2.2.1 = "[B")
        | _ => true) = true := by
  have h := ZshB_ok o ho
  unfold ZshB at h
  rw [hsh] at h
  simp only [hq, Bool.and_eq_true, decide_eq_true_eq] at h
  have hr : r < q.2.2 := by rw [← h.2]; exact (List.getElem?_eq_some_iff.mp hf).1
  have h2 := List.all_eq_true.mp h.1 r (List.mem_range.mpr hr)
  rw [hf] at h2
  exact h2
theorem Zsh_ty {o ci r : Nat} {fs : List (Nat × Nat)} {c : Nat × Nat} {q : vw_C} (ho : o < Zno) (hsh : Zsh o = (4, ci, fs)) (hf : fs[r]? = some c) (hq : Zcl[ci]? = some q) (hc : c.1 = 0) : (q.2.1 r).2.2.1 = "I" := by
  have h := ZshB_at ho hsh hf hq
  rw [hc] at h
  simpa using h
theorem Zsh_tz {o ci r : Nat} {fs : List (Nat × Nat)} {c : Nat × Nat} {q : vw_C} (ho : o < Zno) (hsh : Zsh o = (4, ci, fs)) (hf : fs[r]? = some c) (hq : Zcl[ci]? = some q) (hc : c.1 = 1) : (q.2.1 r).2.2.1 = "Z" := by
  have h := ZshB_at ho hsh hf hq
  rw [hc] at h
  simpa using h
theorem ZmtB_ok : ∀ k, k < ZmtL.length → ((Zmt k).1.cls ≠ "java/lang/invoke/MethodHandle" ∧ (Zmt k).1.cls ≠ "java/lang/invoke/VarHandle" ∧ (parseMethodDescriptor (Zmt k).1.desc).map (fun d => d.parameters.length) = some (Zna k)) ∧ (Zmt k).2.2.1 ≤ 21 := by decide +kernel
theorem Zmt_at {k : Nat} (h : k < ZmtL.length) : (Zmt k).1.cls ≠ "java/lang/invoke/MethodHandle" ∧ (Zmt k).1.cls ≠ "java/lang/invoke/VarHandle" ∧ (parseMethodDescriptor (Zmt k).1.desc).map (fun d => d.parameters.length) = some (Zna k) ∧ (Zmt k).2.2.1 ≤ 21 := ⟨(ZmtB_ok k h).1.1, (ZmtB_ok k h).1.2.1, (ZmtB_ok k h).1.2.2, (ZmtB_ok k h).2⟩
theorem ZciB_ok : ∀ k, k < ZmtL.length → (match Zcl[Zci k]? with | some q => decide (q.1 = (Zmt k).1.cls) | none => true) = true := by decide +kernel
theorem Zci_at {o r1 r2 : Nat} {fs : List (Nat × Nat)} (ho : o < Zno) (hsh : Zsh o = (4, r2, fs)) (hk : r1 < ZmtL.length) (hc : r2 = Zci r1) : ∃ q, Zcl[r2]? = some q ∧ q.1 = (Zmt r1).1.cls := by
  have h := ZshB_ok o ho
  unfold ZshB at h
  rw [hsh] at h
  cases hq : Zcl[r2]? with
  | none => simp [hq] at h
  | some q =>
    have h2 := ZciB_ok r1 hk
    rw [← hc, hq] at h2
    exact ⟨q, rfl, by simpa using h2⟩
/-- abstract values to the machine's: a cell's number to its address -/
def Ztr (ad : Nat → Nat) : Value → Value
  | .ref o => .ref (ad o)
  | v => v
def Zl (ad : Nat → Nat) (q : Nat × Value) : Nat × Value := (q.1, Ztr ad q.2)
/-- a field's value by its code: (0, _), (1, _) a number, (2, j) the cell j, (3, j) the cell j or null -/
def Zfv (ad : Nat → Nat) (c : Nat × Nat) (x : Int32) : Value := match c.1 with
  | 0 => .int x
  | 1 => .int x
  | 2 => .ref (ad c.2)
  | _ => if x = 0 then .null else .ref (ad c.2)
def Zfs (ad : Nat → Nat) (f : Nat → Int32) : Nat → List (Nat × Nat) → List Value
  | _, [] => []
  | k, c :: cs => Zfv ad c (f k) :: Zfs ad f (k + 1) cs
def Zce (ad : Nat → Nat) (cA : Nat → ClassId) (f : Nat → Int32) (q : Nat × Nat × List (Nat × Nat)) : va_E := match q.1 with
  | 0 => .inl (cA 0, q.2.1, .inl f)
  | 1 => .inl (cA 1, q.2.1, .inl f)
  | 2 => .inl (cA 2, q.2.1, .inr (.inr (.inr (.inr (fun k => (q.2.2[k]?).map (fun j => ad j.2))))))
  | 3 => .inl (cA 3, q.2.1, .inr (.inr (.inr (.inr (fun k => (q.2.2[k]?).map (fun j => ad j.2))))))
  | _ => .inr (q.2.1, Zfs ad f 0 q.2.2)
def Zws (ad : Nat → Nat) (cA : Nat → ClassId) (M : Zmem) : va_W := (List.range Zno).map (fun o => (ad o, Zce ad cA (M o) (Zsh o)))
def Zty (cA : Nat → ClassId) : List (ClassId × FieldType) := [(cA 0, .int), (cA 1, .byte), (cA 2, .object "KnitRiver$Text"), (cA 3, .object "KnitRiver$Sheet")]
theorem Zws_at {ad : Nat → Nat} {cA : Nat → ClassId} {M : Zmem} {o : Nat} (h : o < Zno) : (Zws ad cA M)[o]? = some (ad o, Zce ad cA (M o) (Zsh o)) := by
  simp [Zws, h]
theorem Zu_at (M : Zmem) (o k : Nat) (v : Int32) : Zu M o k v o = upd (M o) k v := by simp [Zu]
theorem Zu_ne (M : Zmem) {o a : Nat} (k : Nat) (v : Int32) (h : a ≠ o) : Zu M o k v a = M a := by simp [Zu, h]
theorem Zws_set {ad : Nat → Nat} {cA : Nat → ClassId} {M : Zmem} {o k : Nat} {v : Int32} {e : va_E} (he : e = Zce ad cA (upd (M o) k v) (Zsh o)) : (Zws ad cA M).set o (ad o, e) = Zws ad cA (Zu M o k v) := by
  apply List.ext_getElem?
  intro i
  rw [List.getElem?_set]
  by_cases hi : o = i
  · subst hi
    by_cases hl : o < Zno
    · rw [Zws_at hl]
      simp [Zws, hl, he, Zu_at]
    · simp [Zws, hl]
  · rw [if_neg hi]
    by_cases hl : i < Zno
    · rw [Zws_at hl, Zws_at hl, Zu_ne _ _ _ (fun q => hi q.symm)]
    · simp [Zws, hl]
theorem Zfs_at (ad : Nat → Nat) (f : Nat → Int32) : ∀ (cs : List (Nat × Nat)) (k j : Nat) (c : Nat × Nat), cs[j]? = some c → (Zfs ad f k cs)[j]? = some (Zfv ad c (f (k + j))) := by
  intro cs
  induction cs with
  | nil => intro k j c h; simp at h
  | cons a cs ih =>
    intro k j c h
    cases j with
    | zero => simp at h; subst h; simp [Zfs]
    | succ j =>
      simp at h
      have := ih (k + 1) j c h
      simp [Zfs, this, Nat.add_comm, Nat.add_left_comm, Nat.add_assoc]
theorem Zfs_len (ad : Nat → Nat) (f : Nat → Int32) : ∀ (cs : List (Nat × Nat)) (k : Nat), (Zfs ad f k cs).length = cs.length := by
  intro cs
  induction cs with
  | nil => intro k; rfl
  | cons a cs ih => intro k; simp [Zfs, ih]
theorem Zfs_set (ad : Nat → Nat) (f : Nat → Int32) (v : Int32) : ∀ (cs : List (Nat × Nat)) (k j : Nat) (c : Nat × Nat) (y : Value), cs[j]? = some c → y = Zfv ad c v → (Zfs ad f k cs).set j y = Zfs ad (upd f (k + j) v) k cs := by
  intro cs
  induction cs with
  | nil => intro k j c y h; simp at h
  | cons a cs ih =>
    intro k j c y h hy
    cases j with
    | zero =>
      simp at h
      subst h
      subst hy
      have hr : ∀ (cs : List (Nat × Nat)) (n : Nat), k < n → Zfs ad (upd f k v) n cs = Zfs ad f n cs := by
        intro cs
        induction cs with
        | nil => intro n _; rfl
        | cons b cs ih => intro n hn; simp [Zfs, ih (n + 1) (by omega), upd, show ¬ n = k by omega]
      simp [Zfs, hr cs (k + 1) (by omega), upd]
    | succ j =>
      simp at h
      have := ih (k + 1) j c y h hy
      simp [Zfs, this, upd, show ¬ k = k + (j + 1) by omega, show k + 1 + j = k + (j + 1) by omega]
abbrev Zx : Type := Program × Launch × Env × Room × State × MethodId × Array Value × List Frame × Method × Code × va_G × (Nat → Nat) × (Nat → ClassId) × (Nat → Prop) × (Nat × (Nat → Int32)) × Nat × Nat × (State → Prop)
def zp (X : Zx) : Program := X.1
def zl (X : Zx) : Launch := X.2.1
def ze (X : Zx) : Env := X.2.2.1
def zR (X : Zx) : Room := X.2.2.2.1
def zs (X : Zx) : State := X.2.2.2.2.1
def zm (X : Zx) : MethodId := X.2.2.2.2.2.1
def za (X : Zx) : Array Value := X.2.2.2.2.2.2.1
def zb (X : Zx) : List Frame := X.2.2.2.2.2.2.2.1
def zme (X : Zx) : Method := X.2.2.2.2.2.2.2.2.1
def zc (X : Zx) : Code := X.2.2.2.2.2.2.2.2.2.1
def zD (X : Zx) : va_G := X.2.2.2.2.2.2.2.2.2.2.1
def zad (X : Zx) : Nat → Nat := X.2.2.2.2.2.2.2.2.2.2.2.1
def zcA (X : Zx) : Nat → ClassId := X.2.2.2.2.2.2.2.2.2.2.2.2.1
def zA (X : Zx) : Nat → Prop := X.2.2.2.2.2.2.2.2.2.2.2.2.2.1
def zsc (X : Zx) : Nat × (Nat → Int32) := X.2.2.2.2.2.2.2.2.2.2.2.2.2.2.1
def zk (X : Zx) : Nat := X.2.2.2.2.2.2.2.2.2.2.2.2.2.2.2.1
def zn (X : Zx) : Nat := X.2.2.2.2.2.2.2.2.2.2.2.2.2.2.2.2.1
def zQ (X : Zx) : State → Prop := X.2.2.2.2.2.2.2.2.2.2.2.2.2.2.2.2.2
abbrev ZW (X : Zx) (H : Heap) (locs : List Loc) (g : JFrame) : Prop := W (zp X) (zl X) (ze X) (zR X) (zs X) (zm X) (za X) (zb X) (zme X) (zc X) H locs (zk X) (zn X) (zQ X) g
abbrev Zpic (X : Zx) (M : Zmem) (H : Heap) : Prop := va_P (zD X) Zcl (Zws (zad X) (zcA X) M) H
/-- an array of numbers that nobody writes -/
def Zoa (a : Nat) (ty : FieldType) (n : Nat) (f : Nat → Int32) (U : State) (H : Heap) : Prop := ∃ scr : Cell, H[a]? = some scr ∧ U.isArrayOf scr ty ∧ scr.vm ≠ .unknown ∧ scr.slots.size = n ∧ ∀ j : Nat, j < n → scr.slots[j]? = some (.int (f j))
theorem Zoa.kept {a : Nat} {ty : FieldType} {n : Nat} {f : Nat → Int32} {U : State} {H H1 : Heap} (h : Zoa a ty n f U H) (hq : H1[a]? = H[a]?) : Zoa a ty n f U H1 := by
  obtain ⟨scr, h1, h2⟩ := h
  exact ⟨scr, by rw [hq]; exact h1, h2⟩
theorem Zoa.moved {a : Nat} {ty : FieldType} {n : Nat} {f : Nat → Int32} {u U : State} {H : Heap} (hvm : u.vm.Alike U.vm) (h : Zoa a ty n f u H) : Zoa a ty n f U H := by
  obtain ⟨scr, h1, h2, h3⟩ := h
  exact ⟨scr, h1, State.isArrayOf_alike hvm h2, h3⟩
theorem Zoa.lt {a : Nat} {ty : FieldType} {n : Nat} {f : Nat → Int32} {U : State} {H : Heap} (h : Zoa a ty n f U H) : a < H.size := by
  obtain ⟨scr, h1, -⟩ := h
  exact (Array.getElem?_eq_some_iff.mp h1).1
/-- the old arrays: the script (cell 99), the statics (cells 100 .. 103) -/
def ZoL (sc : Nat × (Nat → Int32)) (o : Nat) : Option (FieldType × Nat × (Nat → Int32)) := match o with
  | 99 => some (.int, sc.1, sc.2)
  | 100 => some (.int, 4, fun j => ([0, 10, 12, 60] : List Int32).getD j 0)
  | 101 => some (.int, 7, fun j => ([-1, 0, 0, 0, 1, 2, 0] : List Int32).getD j 0)
  | 102 => some (.char, 6, fun j => ([98, 119, 116, 119, 116, 107] : List Int32).getD j 0)
  | 103 => some (.int, 28, fun j => ([10, 11, 12, 13, 20, 0, 0, 21, 0, 30, 0, 0, 0, 0, 40, 0, 50, 0, 51, 0, 0, 60, 0, 0, 70, 71, 0, 0] : List Int32).getD j 0)
  | _ => none
def ZstL (o : Nat) : Option (String × String × String) := match o with
  | 100 => some ("KnitRiver$Reach", "STITCHES", "[I")
  | 101 => some ("KnitRiver$Kinds", "ABOVE", "[I")
  | 102 => some ("KnitRiver$Reader", "NAMES", "[C")
  | 103 => some ("KnitRiver$Voices", "BODIES", "[I")
  | _ => none
/-- a row of numbers, by its cell: its type, its length, what it holds -/
def Zar (sc : Nat × (Nat → Int32)) (M : Zmem) (o : Nat) : Option (FieldType × Nat × (Nat → Int32)) := match Nat.blt o Zno with
  | true => (match Zsh o with
    | (0, n, _) => some (.int, n, M o)
    | (1, n, _) => some (.byte, n, M o)
    | _ => none)
  | false => ZoL sc o
def ZA (ad : Nat → Nat) (q : Nat) : Prop := ∃ i, i < Zno ∧ q = ad i
/-- what is old at a state, and apart from the world -/
def Zold (ad : Nat → Nat) (sc : Nat × (Nat → Int32)) (U : State) : Prop :=
  (∀ o q, ZoL sc o = some q → Zoa (ad o) q.1 q.2.1 q.2.2 U U.heap ∧ ¬ ZA ad (ad o)) ∧ ∀ o q, ZstL o = some q → va_Z q.1 q.2.1 q.2.2 (.ref (ad o)) (ZA ad) U U.heap
def Zinj (ad : Nat → Nat) : Prop := ∀ i j, i < Zno → j < Zno → ad i = ad j → i = j
/-- the world at a state -/
def Zwd (D : va_G) (ad : Nat → Nat) (cA : Nat → ClassId) (sc : Nat × (Nat → Int32)) (M : Zmem) (U : State) : Prop :=
  va_P D Zcl (Zws ad cA M) U.heap ∧ va_K D Zcl (Zty cA) U ∧ Zinj ad ∧ Zold ad sc U ∧ ∀ w ∈ Znest, va_Nw w U
def Zrm (fr : Nat) : Room := { frames := fr, cells := 0, slots := 0, locals := 40 * fr }
def ZAA (ad : Nat → Nat) (sz : Nat) : Nat → Prop := fun q => ZA ad q ∨ sz ≤ q
def Zri (r : Option Value) : Prop := r = none ∨ ∃ v : Int32, r = some (.int v)
def ZQF (D : va_G) (ad : Nat → Nat) (cA : Nat → ClassId) (Post : Option Value → Zmem → Prop) (A : Nat → Prop) : Array Value → State → Outcome → State → Prop :=
  fun _ st oc t => (∃ (r : Option Value) (M' : Zmem), oc = .returned r ∧ Zri r ∧ Post r M' ∧ va_P D Zcl (Zws ad cA M') t.heap) ∧ va_F A st t
/-- A CONTRACT: method k, at most fr frames more, from these arguments and this memory: it returns, and Post holds of its answer and the memory then -/
def ZC (k fr : Nat) (as : List Value) (M : Zmem) (Post : Option Value → Zmem → Prop) : Prop :=
  ∀ (l : Launch) (D : va_G) (ad : Nat → Nat) (cA : Nat → ClassId) (sc : Nat × (Nat → Int32)) (sz : Nat),
    Met l (Zmt k).1 (.code (Zmt k).1 (Zmt k).2.1 (Zmt k).2.2.1 (Zmt k).2.2.2 :: Ztg) (Zrm fr) (va_Pc (as.map (Ztr ad)) (fun U => U.heap.size = sz ∧ Zwd D ad cA sc M U)) (ZQF D ad cA Post (ZAA ad sz)) 0 0 (ZAA ad sz)
def Zpc (cs : List Zent) : Nat := match cs with
  | [] => 0
  | e :: _ => e.1
def ZP (X : Zx) (tab cs : List Zent) (l : List (Nat × Value)) (st : List Value) (M : Zmem) : Prop :=
  (∃ pre, tab = pre ++ cs) → ∀ (H : Heap) (locs : List Loc) (ls : Array Slot), Zpic X M H → va_S (zA X) (zs X).heap H locs → lv_has ls (zc X).maxLocals (l.map (Zl (zad X))) → ZW X H locs (F0 (zm X) (Zpc cs) ls (st.map (Ztr (zad X))))
def Zsf (tab : List Zent) (t : Nat) : List Zent := tab.dropWhile (fun e => !(e.1 == t))
def Zhp (tab : List Zent) (t : Nat) : Bool := tab.any (fun e => e.1 == t)
def Zadj : List Zent → Bool
  | [] => true
  | [_] => true
  | e :: f :: cs => (e.1 + e.2.1 == f.1) && Zadj (f :: cs)
def Zno2 (b : Int32) (n : Nat) : Int32 := match n with
  | 0 => b
  | _ => -b
def Zlen : Instr → Option Nat
  | .bipush _ => some 2
  | .iload _ => some 2
  | .istore _ => some 2
  | .aload _ => some 2
  | .astore _ => some 2
  | .ldc _ => some 2
  | .newarray _ => some 2
  | .sipush _ => some 3
  | .ldc_w _ => some 3
  | .ldc2_w _ => some 3
  | .iinc _ _ => some 3
  | .goto _ => some 3
  | .ifCond _ _ => some 3
  | .if_icmp _ _ => some 3
  | .ifnull _ => some 3
  | .getfield _ => some 3
  | .putfield _ => some 3
  | .getstatic _ => some 3
  | .invokestatic _ => some 3
  | .invokevirtual _ => some 3
  | .invokespecial _ => some 3
  | .new _ => some 3
  | .anewarray _ => some 3
  | .tableswitch .. => none
  | .lookupswitch .. => none
  | _ => some 1
def Zls (e : Zent) : Bool := match Zlen e.2.2.1 with
  | some n => e.2.1 == n
  | none => true
def Zsl (v : Int32) (d : Nat) : List (Int32 × Nat) → Nat
  | [] => d
  | q :: r => if v = q.1 then q.2 else Zsl v d r
/-- the words that an instruction asks of the tables -/
def Zwo (k : Nat) (e : Zent) : List Cond := match e with
  | (_, _, ins, r1, r2, _) => (match ins with
    | .ldc i => [.constant (Zmt k).1.cls i (Zno2 (nI r1) r2)]
    | .ldc_w i => [.constant (Zmt k).1.cls i (Zno2 (nI r1) r2)]
    | .ldc2_w i => [.constantLong (Zmt k).1.cls i (lN r1)]
    | .getfield i => (match Zcl[r1]? with
      | some q => [.fieldLink (Zmt k).1.cls i q.1 (q.2.1 r2).2.1 (q.2.1 r2).2.2.1]
      | none => [])
    | .putfield i => (match Zcl[r1]? with
      | some q => [.fieldLink (Zmt k).1.cls i q.1 (q.2.1 r2).2.1 (q.2.1 r2).2.2.1]
      | none => [])
    | .getstatic i => (match ZstL r1 with
      | some q => [.fieldLink (Zmt k).1.cls i q.1 q.2.1 q.2.2]
      | none => [])
    | .invokestatic i => (match r2 with
      | 0 => [.methodLink (Zmt k).1.cls i (Zmt r1).1, .static (Zmt r1).1, .initialized (Zmt r1).1.cls, .code (Zmt r1).1 (Zmt r1).2.1 (Zmt r1).2.2.1 (Zmt r1).2.2.2]
      | 1 => [.static (Zmt r1).1, .initialized (Zmt r1).1.cls, .code (Zmt r1).1 (Zmt r1).2.1 (Zmt r1).2.2.1 (Zmt r1).2.2.2]
      | _ => [.methodLink (Zmt k).1.cls i arraycopyName, .native arraycopyName, .static arraycopyName, .initialized "java/lang/System"])
    | .invokevirtual i => [.methodLink (Zmt k).1.cls i (Zmt r1).1, .instanceMethod (Zmt r1).1, .initialized (Zmt r1).1.cls, .code (Zmt r1).1 (Zmt r1).2.1 (Zmt r1).2.2.1 (Zmt r1).2.2.2, .selects (Zmt r1).1.cls (Zmt r1).1 (Zmt r1).1]
    | _ => [])
def Zwn (k : Nat) (e : Zent) : List Cond := match e with
  | (_, _, ins, r1, r2, _) => (match ins with
    | .invokestatic i => (match r2 with
      | 1 => [.methodLinkNest (Zmt k).1.cls i (Zmt r1).1 "KnitRiver"]
      | _ => [])
    | _ => [])
/-- an instruction of the table, but for its words: it is decoded so, its targets are there -/
def Zck (k : Nat) (tab : List Zent) (e : Zent) : Bool :=
  decide (decode (Zmt k).2.1 e.1 = .ok (e.2.2.1, e.2.1)) && Zls e && (match e.2.2.1 with
  | .iconst n => decide (Int32.ofInt n = Zno2 (nI e.2.2.2.1) e.2.2.2.2.1)
  | .bipush n => decide ((Int8.ofInt n).toInt32 = Zno2 (nI e.2.2.2.1) e.2.2.2.2.1)
  | .sipush n => decide ((Int16.ofInt n).toInt32 = Zno2 (nI e.2.2.2.1) e.2.2.2.2.1)
  | .iinc i n => decide (Int32.ofInt n = Zno2 (nI e.2.2.2.1) e.2.2.2.2.1) && i == e.2.2.2.2.2.getD 0 99 && decide (i < (Zmt k).2.2.1)
  | .istore i => i == e.2.2.2.1 && decide (i < (Zmt k).2.2.1)
  | .astore i => i == e.2.2.2.1 && decide (i < (Zmt k).2.2.1)
  | .istore_n i => i.val == e.2.2.2.1 && decide (i.val < (Zmt k).2.2.1)
  | .astore_n i => i.val == e.2.2.2.1 && decide (i.val < (Zmt k).2.2.1)
  | .iload i => i == e.2.2.2.1
  | .aload i => i == e.2.2.2.1
  | .lload i => i == e.2.2.2.1
  | .iload_n i => i.val == e.2.2.2.1
  | .aload_n i => i.val == e.2.2.2.1
  | .lload_n i => i.val == e.2.2.2.1
  | .goto o => decide ((e.1 : Int) + o = (e.2.2.2.1 : Int)) && Zhp tab e.2.2.2.1
  | .ifCond _ o => decide ((e.1 : Int) + o = (e.2.2.2.1 : Int)) && Zhp tab e.2.2.2.1
  | .if_icmp _ o => decide ((e.1 : Int) + o = (e.2.2.2.1 : Int)) && Zhp tab e.2.2.2.1
  | .getfield _ => (match Zcl[e.2.2.2.1]? with
    | some q => decide (e.2.2.2.2.1 < q.2.2)
    | none => false)
  | .putfield _ => (match Zcl[e.2.2.2.1]? with
    | some q => decide (e.2.2.2.2.1 < q.2.2) && !(q.2.1 e.2.2.2.2.1).2.2.2
    | none => false)
  | .getstatic _ => (ZstL e.2.2.2.1).isSome
  | .invokestatic _ => decide (e.2.2.2.2.1 < 3)
  | .invokevirtual _ => e.2.2.2.2.1 == Zci e.2.2.2.1
  | _ => true)
def Zchk (k : Nat) (tab : List Zent) : Prop := tab.all (Zck k tab) = true ∧ Zadj tab = true ∧ (∀ w ∈ tab.flatMap (Zwo k), w ∈ Ztg) ∧ (∀ w ∈ tab.flatMap (Zwn k), w ∈ Znest)
/-- what the walk of a method stands on -/
def ZOK (X : Zx) (k fr : Nat) (tab : List Zent) : Prop :=
  (zp X).tables.exec = Jvm.exec ∧ (zc X).code = (Zmt k).2.1 ∧ (zs X).vm.findClass (Zmt k).1.cls = some (zm X).cls ∧ (∀ w ∈ Ztg, w.before (za X) (zs X) = true) ∧ va_K (zD X) Zcl (Zty (zcA X)) (zs X) ∧
  (Zinj (zad X) ∧ ∀ i, i < Zno → zA X (zad X i)) ∧ (∀ q, (zs X).heap.size ≤ q → zA X q) ∧
  ((∀ o q, ZoL (zsc X) o = some q → Zoa (zad X o) q.1 q.2.1 q.2.2 (zs X) (zs X).heap ∧ ¬ zA X (zad X o)) ∧ ∀ o q, ZstL o = some q → va_Z q.1 q.2.1 q.2.2 (.ref (zad X o)) (zA X) (zs X) (zs X).heap) ∧
  (∀ w ∈ Znest, va_Nw w (zs X)) ∧ Zchk k tab ∧ (fr ≤ (zR X).frames ∧ 40 * fr ≤ (zR X).locals) ∧ (zc X).maxLocals = (Zmt k).2.2.1 ∧ (zk X ≤ (zR X).cells ∧ zn X ≤ (zR X).slots)

theorem Zsuf_in {tab cs : List Zent} {e : Zent} (h : ∃ pre, tab = pre ++ e :: cs) : e ∈ tab := by
  obtain ⟨pre, rfl⟩ := h
  exact List.mem_append_right _ List.mem_cons_self
theorem Zsuf_tl {tab cs : List Zent} {e : Zent} (h : ∃ pre, tab = pre ++ e :: cs) : ∃ pre, tab = pre ++ cs := by
  obtain ⟨pre, rfl⟩ := h
  exact ⟨pre ++ [e], by simp⟩
theorem Zsuf_sf (tab : List Zent) (t : Nat) : ∃ pre, tab = pre ++ Zsf tab t := ⟨tab.takeWhile (fun e => !(e.1 == t)), List.takeWhile_append_dropWhile.symm⟩
theorem Zsf_pc {t : Nat} : ∀ {tab : List Zent}, Zhp tab t = true → Zpc (Zsf tab t) = t := by
  intro tab
  induction tab with
  | nil => intro h; simp [Zhp] at h
  | cons e r ih =>
    intro h
    by_cases he : e.1 = t
    · simp [Zsf, List.dropWhile, he, Zpc]
    · have h2 : Zhp r t = true := by simpa [Zhp, he] using h
      have := ih h2
      have hz : Zsf (e :: r) t = Zsf r t := by simp [Zsf, he]
      rw [hz]
      exact this
theorem Zadj_next : ∀ {pre : List Zent} {e : Zent} {cs : List Zent}, Zadj (pre ++ e :: cs) = true → cs ≠ [] → e.1 + e.2.1 = Zpc cs := by
  intro pre
  induction pre with
  | nil =>
    intro e cs h hne
    cases cs with
    | nil => exact absurd rfl hne
    | cons f r => simp [Zadj] at h; simpa [Zpc] using h.1
  | cons a pre ih =>
    intro e cs h hne
    refine ih (e := e) (cs := cs) ?_ hne
    cases pre with
    | nil => simp [Zadj] at h; simpa using h.2
    | cons b pre => simp only [List.cons_append, Zadj, Bool.and_eq_true] at h; simpa using h.2
section ZR
variable {X : Zx} {k fr : Nat} {tab cs : List Zent} {l : List (Nat × Value)} {st : List Value} {M : Zmem}
theorem ZOK.chk (hX : ZOK X k fr tab) : Zchk k tab := hX.2.2.2.2.2.2.2.2.2.1
theorem ZOK.ck {e : Zent} (hX : ZOK X k fr tab) (hs : ∃ pre, tab = pre ++ e :: cs) : Zck k tab e = true := List.all_eq_true.mp hX.chk.1 e (Zsuf_in hs)
theorem ZOK.nx {e : Zent} (hX : ZOK X k fr tab) (hs : ∃ pre, tab = pre ++ e :: cs) (hne : cs ≠ []) : e.1 + e.2.1 = Zpc cs := by
  obtain ⟨pre, rfl⟩ := hs
  exact Zadj_next hX.chk.2.1 hne
theorem ZOK.dec {e : Zent} (hX : ZOK X k fr tab) (hs : ∃ pre, tab = pre ++ e :: cs) : decode (zc X).code e.1 = .ok (e.2.2.1, e.2.1) := by
  have h := hX.ck hs
  simp only [Zck, Bool.and_eq_true, decide_eq_true_eq] at h
  rw [hX.2.1]
  exact h.1.1
theorem ZOK.wo {e : Zent} {w : Cond} (hX : ZOK X k fr tab) (hs : ∃ pre, tab = pre ++ e :: cs) (hw : w ∈ Zwo k e) : w.before (za X) (zs X) = true := hX.2.2.2.1 _ (hX.chk.2.2.1 w (List.mem_flatMap.mpr ⟨e, Zsuf_in hs, hw⟩))
theorem ZOK.wg {e : Zent} {w : Cond} (hX : ZOK X k fr tab) (hs : ∃ pre, tab = pre ++ e :: cs) (hw : w ∈ Zwo k e) : w ∈ Ztg := hX.chk.2.2.1 w (List.mem_flatMap.mpr ⟨e, Zsuf_in hs, hw⟩)
theorem ZOK.wn {e : Zent} {w : Cond} (hX : ZOK X k fr tab) (hs : ∃ pre, tab = pre ++ e :: cs) (hw : w ∈ Zwn k e) : va_Nw w (zs X) := hX.2.2.2.2.2.2.2.2.1 _ (hX.chk.2.2.2 w (List.mem_flatMap.mpr ⟨e, Zsuf_in hs, hw⟩))
theorem ZOK.ls {e : Zent} (hX : ZOK X k fr tab) (hs : ∃ pre, tab = pre ++ e :: cs) : Zls e = true := by
  have h := hX.ck hs
  simp only [Zck, Bool.and_eq_true, decide_eq_true_eq] at h
  exact h.1.2
theorem ZOK.D (hX : ZOK X k fr tab) (M : Zmem) : va_D (zA X) (Zws (zad X) (zcA X) M) := by
  obtain ⟨hi, ha⟩ := hX.2.2.2.2.2.1
  have hat : ∀ (i : Nat) (q : Nat × va_E), (Zws (zad X) (zcA X) M)[i]? = some q → i < Zno ∧ q.1 = zad X i := by
    intro i q h
    have hl : i < Zno := by
      have := (List.getElem?_eq_some_iff.mp h).1
      simpa [Zws] using this
    rw [Zws_at hl] at h
    cases h
    exact ⟨hl, rfl⟩
  refine ⟨fun i j p q hp hq hpq => ?_, fun i q hq => ?_⟩
  · obtain ⟨h1, h2⟩ := hat i p hp
    obtain ⟨h3, h4⟩ := hat j q hq
    exact hi i j h1 h3 (by rw [← h2, ← h4]; exact hpq)
  · obtain ⟨h1, h2⟩ := hat i q hq
    rw [h2]
    exact ha i h1
/-- one straight instruction that keeps locals and memory -/
theorem Zs1 {pc len r1 r2 n : Nat} {hs : List Nat} {ins : Instr} {st' : List Value} (hX : ZOK X k fr tab) (hne : cs ≠ []) (hn : Zlen ins = some n)
    (kk : ZP X tab cs l st' M)
    (row : (∃ pre, tab = pre ++ (pc, len, ins, r1, r2, hs) :: cs) → ∀ (H : Heap) (locs : List Loc) (ls : Array Slot), Zpic X M H → va_S (zA X) (zs X).heap H locs → lv_has ls (zc X).maxLocals (l.map (Zl (zad X))) → decode (zc X).code pc = .ok (ins, n) → ZW X H locs (F0 (zm X) (pc + n) ls (st'.map (Ztr (zad X)))) → ZW X H locs (F0 (zm X) pc ls (st.map (Ztr (zad X))))) : ZP X tab ((pc, len, ins, r1, r2, hs) :: cs) l st M := by
  intro hsf H locs ls hP hS hl
  have hd := hX.dec hsf
  have hle : len = n := by have h := hX.ls hsf; simpa [Zls, hn] using h
  have hx := hX.nx hsf hne
  subst hle
  refine row hsf H locs ls hP hS hl hd ?_
  have := kk (Zsuf_tl hsf) H locs ls hP hS hl
  rw [← hx] at this
  exact this
def Zget : List (Nat × Value) → Nat → Option Value
  | [], _ => none
  | q :: r, i => match Nat.beq q.1 i with
    | true => some q.2
    | false => Zget r i
theorem Zget_in : ∀ {l : List (Nat × Value)} {i : Nat} {v : Value}, Zget l i = some v → (i, v) ∈ l := by
  intro l
  induction l with
  | nil => intro i v h; simp [Zget] at h
  | cons q r ih =>
    intro i v h
    unfold Zget at h
    cases hb : Nat.beq q.1 i with
    | true =>
      rw [hb] at h
      have := Nat.eq_of_beq_eq_true hb
      cases h
      subst this
      exact List.mem_cons_self
    | false =>
      rw [hb] at h
      exact List.mem_cons_of_mem _ (ih h)
theorem Zget_at {ad : Nat → Nat} {ls : Array Slot} {n : Nat} {l : List (Nat × Value)} {i : Nat} {v : Value} (hl : lv_has ls n (l.map (Zl ad))) (h : Zget l i = some v) : ls[i]? = some (.val (Ztr ad v)) :=
  hl.2.2 (i, Ztr ad v) (List.mem_map.mpr ⟨(i, v), Zget_in h, rfl⟩)
def Zset (l : List (Nat × Value)) (i : Nat) (v : Value) : List (Nat × Value) := (i, v) :: l.filter (fun q => !(q.1 == i) && !(q.1 + 1 == i && q.2.category == 2))
theorem Ztr_cat (ad : Nat → Nat) (v : Value) : (Ztr ad v).category = v.category := by cases v <;> rfl
theorem Zset_map (ad : Nat → Nat) (l : List (Nat × Value)) (i : Nat) (v : Value) : (i, Ztr ad v) :: (l.map (Zl ad)).filter (fun q => !(q.1 == i) && !(q.1 + 1 == i && q.2.category == 2)) = (Zset l i v).map (Zl ad) := by
  unfold Zset
  rw [List.filter_map]
  simp only [List.map_cons, Zl]
  congr 1
  congr 1
  apply List.filter_congr
  intro q _
  simp [Function.comp, Ztr_cat, Zl]
def ZallP : List Prop → Prop
  | [] => True
  | [P] => P
  | P :: Q :: r => ZallP (Q :: r) ∧ P
/-- one straight instruction with a new list of locals -/
theorem Zs2 {pc len r1 r2 n i : Nat} {v : Value} {hs : List Nat} {ins : Instr} {st' : List Value} (hX : ZOK X k fr tab) (hne : cs ≠ []) (hn : Zlen ins = some n)
    (row : (∃ pre, tab = pre ++ (pc, len, ins, r1, r2, hs) :: cs) → ∀ (H : Heap) (locs : List Loc) (ls : Array Slot), lv_has ls (zc X).maxLocals (l.map (Zl (zad X))) → decode (zc X).code pc = .ok (ins, n) → (∀ ls' : Array Slot, lv_has ls' (zc X).maxLocals ((Zset l i v).map (Zl (zad X))) → ZW X H locs (F0 (zm X) (pc + n) ls' (st'.map (Ztr (zad X))))) → ZW X H locs (F0 (zm X) pc ls (st.map (Ztr (zad X)))))
    (kk : ZP X tab cs (Zset l i v) st' M) : ZP X tab ((pc, len, ins, r1, r2, hs) :: cs) l st M := by
  intro hsf H locs ls hP hS hl
  have hd := hX.dec hsf
  have hle : len = n := by have h := hX.ls hsf; simpa [Zls, hn] using h
  have hx := hX.nx hsf hne
  subst hle
  refine row hsf H locs ls hl hd (fun ls' hl' => ?_)
  have := kk (Zsuf_tl hsf) H locs ls' hP hS hl'
  rw [← hx] at this
  exact this
theorem Zs_const {pc len r1 r2 : Nat} {hs : List Nat} {ins : Instr} {b : Int32} (hX : ZOK X k fr tab) (hne : cs ≠ []) (hb : b = Zno2 (nI r1) r2)
    (hi : (∃ n, ins = .iconst n) ∨ (∃ n, ins = .bipush n) ∨ (∃ n, ins = .sipush n) ∨ (∃ n, ins = .ldc n) ∨ ∃ n, ins = .ldc_w n) (kk : ZP X tab cs l (.int b :: st) M) : ZP X tab ((pc, len, ins, r1, r2, hs) :: cs) l st M := by
  subst hb
  rcases hi with ⟨n, rfl⟩ | ⟨n, rfl⟩ | ⟨n, rfl⟩ | ⟨n, rfl⟩ | ⟨n, rfl⟩
  · refine Zs1 hX hne rfl kk (fun hc H locs ls hP hS hl hd k => ?_)
    have hc := hX.ck hc
    simp only [Zck, Bool.and_eq_true, decide_eq_true_eq] at hc
    exact lv_iconst hX.1 rfl hd hc.2 k
  · refine Zs1 hX hne rfl kk (fun hc H locs ls hP hS hl hd k => ?_)
    have hc := hX.ck hc
    simp only [Zck, Bool.and_eq_true, decide_eq_true_eq] at hc
    exact lv_bipush hX.1 rfl hd hc.2 k
  · refine Zs1 hX hne rfl kk (fun hc H locs ls hP hS hl hd k => ?_)
    have hc := hX.ck hc
    simp only [Zck, Bool.and_eq_true, decide_eq_true_eq] at hc
    exact lv_sipush hX.1 rfl hd hc.2 k
  · refine Zs1 hX hne rfl kk (fun hc H locs ls hP hS hl hd k => ?_)
    exact lv_ldc hX.1 rfl hX.2.2.1 (hX.wo hc List.mem_cons_self) hd k
  · refine Zs1 hX hne rfl kk (fun hc H locs ls hP hS hl hd k => ?_)
    exact lv_ldcw hX.1 rfl hX.2.2.1 (hX.wo hc List.mem_cons_self) hd k
theorem Zs_ldc2 {pc len r1 r2 i : Nat} {hs : List Nat} (hX : ZOK X k fr tab) (hne : cs ≠ []) (kk : ZP X tab cs l (.long (lN r1) :: st) M) : ZP X tab ((pc, len, .ldc2_w i, r1, r2, hs) :: cs) l st M := by
  refine Zs1 hX hne rfl kk (fun hc H locs ls hP hS hl hd k => ?_)
  exact lv_ldc2 hX.1 rfl hX.2.2.1 (hX.wo hc List.mem_cons_self) hd k
theorem Zs_iload {pc len r1 r2 : Nat} {hs : List Nat} {ins : Instr} {x : Int32} (hX : ZOK X k fr tab) (hne : cs ≠ []) (hi : (∃ n, ins = .iload n) ∨ ∃ n, ins = .iload_n n) (hg : Zget l r1 = some (.int x)) (kk : ZP X tab cs l (.int x :: st) M) : ZP X tab ((pc, len, ins, r1, r2, hs) :: cs) l st M := by
  rcases hi with ⟨n, rfl⟩ | ⟨n, rfl⟩
  · refine Zs1 hX hne rfl kk (fun hc H locs ls hP hS hl hd k => ?_)
    have hc := hX.ck hc
    simp only [Zck, Bool.and_eq_true, beq_iff_eq] at hc
    exact lv_iload hX.1 rfl hd (by rw [hc.2]; exact Zget_at hl hg) k
  · refine Zs1 hX hne rfl kk (fun hc H locs ls hP hS hl hd k => ?_)
    have hc := hX.ck hc
    simp only [Zck, Bool.and_eq_true, beq_iff_eq] at hc
    exact lv_iload_n hX.1 rfl hd hc.2 (Zget_at hl hg) k
theorem Zs_aload {pc len r1 r2 o : Nat} {hs : List Nat} {ins : Instr} (hX : ZOK X k fr tab) (hne : cs ≠ []) (hi : (∃ n, ins = .aload n) ∨ ∃ n, ins = .aload_n n) (hg : Zget l r1 = some (.ref o)) (kk : ZP X tab cs l (.ref o :: st) M) : ZP X tab ((pc, len, ins, r1, r2, hs) :: cs) l st M := by
  rcases hi with ⟨n, rfl⟩ | ⟨n, rfl⟩
  · refine Zs1 hX hne rfl kk (fun hc H locs ls hP hS hl hd k => ?_)
    have hc := hX.ck hc
    simp only [Zck, Bool.and_eq_true, beq_iff_eq] at hc
    exact lv_aload hX.1 rfl hd (by rw [hc.2]; exact Zget_at hl hg) k
  · refine Zs1 hX hne rfl kk (fun hc H locs ls hP hS hl hd k => ?_)
    have hc := hX.ck hc
    simp only [Zck, Bool.and_eq_true, beq_iff_eq] at hc
    exact lv_aload_n hX.1 rfl hd hc.2 (Zget_at hl hg) k
theorem Zs_lload {pc len r1 r2 : Nat} {hs : List Nat} {n : Fin 4} {x : Int64} (hX : ZOK X k fr tab) (hne : cs ≠ []) (hg : Zget l r1 = some (.long x)) (kk : ZP X tab cs l (.long x :: st) M) : ZP X tab ((pc, len, .lload_n n, r1, r2, hs) :: cs) l st M := by
  refine Zs1 hX hne rfl kk (fun hc H locs ls hP hS hl hd k => ?_)
  have hc := hX.ck hc
  simp only [Zck, Bool.and_eq_true, beq_iff_eq] at hc
  exact lv_lload_n hX.1 rfl hd hc.2 (Zget_at hl hg) k
theorem Zs_istore {pc len r1 r2 : Nat} {hs : List Nat} {ins : Instr} {x : Int32} (hX : ZOK X k fr tab) (hne : cs ≠ []) (hi : (∃ n, ins = .istore n) ∨ ∃ n, ins = .istore_n n) (kk : ZP X tab cs (Zset l r1 (.int x)) st M) : ZP X tab ((pc, len, ins, r1, r2, hs) :: cs) l (.int x :: st) M := by
  have hml : (zc X).maxLocals = (Zmt k).2.2.1 := hX.2.2.2.2.2.2.2.2.2.2.2.1
  rcases hi with ⟨n, rfl⟩ | ⟨n, rfl⟩
  · refine Zs2 hX hne rfl (fun hc H locs ls hl hd k => ?_) kk
    have hc := hX.ck hc
    simp only [Zck, Bool.and_eq_true, beq_iff_eq, decide_eq_true_eq] at hc
    obtain ⟨-, rfl, h2⟩ := hc
    exact lv_istore hX.1 rfl hd hl (by rw [hml]; exact h2) (Zset_map _ _ _ (.int x)) k
  · refine Zs2 hX hne rfl (fun hc H locs ls hl hd k => ?_) kk
    have hc := hX.ck hc
    simp only [Zck, Bool.and_eq_true, beq_iff_eq, decide_eq_true_eq] at hc
    obtain ⟨-, rfl, h2⟩ := hc
    exact lv_istore_n hX.1 rfl hd rfl hl (by rw [hml]; exact h2) (Zset_map _ _ _ (.int x)) k
theorem Zs_astore {pc len r1 r2 o : Nat} {hs : List Nat} {ins : Instr} (hX : ZOK X k fr tab) (hne : cs ≠ []) (hi : (∃ n, ins = .astore n) ∨ ∃ n, ins = .astore_n n) (kk : ZP X tab cs (Zset l r1 (.ref o)) st M) : ZP X tab ((pc, len, ins, r1, r2, hs) :: cs) l (.ref o :: st) M := by
  have hml : (zc X).maxLocals = (Zmt k).2.2.1 := hX.2.2.2.2.2.2.2.2.2.2.2.1
  rcases hi with ⟨n, rfl⟩ | ⟨n, rfl⟩
  · refine Zs2 hX hne rfl (fun hc H locs ls hl hd k => ?_) kk
    have hc := hX.ck hc
    simp only [Zck, Bool.and_eq_true, beq_iff_eq, decide_eq_true_eq] at hc
    obtain ⟨-, rfl, h2⟩ := hc
    exact lv_astore hX.1 rfl hd hl (by rw [hml]; exact h2) (Zset_map _ _ _ (.ref o)) k
  · refine Zs2 hX hne rfl (fun hc H locs ls hl hd k => ?_) kk
    have hc := hX.ck hc
    simp only [Zck, Bool.and_eq_true, beq_iff_eq, decide_eq_true_eq] at hc
    obtain ⟨-, rfl, h2⟩ := hc
    exact lv_astore_n hX.1 rfl hd rfl hl (by rw [hml]; exact h2) (Zset_map _ _ _ (.ref o)) k
theorem Zs_iinc {pc len r1 r2 i : Nat} {n : Int} {hs : List Nat} {x b : Int32} (hX : ZOK X k fr tab) (hne : cs ≠ []) (hi : i = hs.getD 0 99) (hb : b = Zno2 (nI r1) r2) (hg : Zget l (hs.getD 0 99) = some (.int x)) (kk : ZP X tab cs (Zset l (hs.getD 0 99) (.int (x + b))) st M) : ZP X tab ((pc, len, .iinc i n, r1, r2, hs) :: cs) l st M := by
  have hml : (zc X).maxLocals = (Zmt k).2.2.1 := hX.2.2.2.2.2.2.2.2.2.2.2.1
  subst hb
  refine Zs2 hX hne rfl (fun hc H locs ls hl hd k => ?_) kk
  have hc := hX.ck hc
  simp only [Zck, Bool.and_eq_true, beq_iff_eq, decide_eq_true_eq] at hc
  obtain ⟨-, ⟨h1, -⟩, h2⟩ := hc
  subst hi
  obtain ⟨j, hj⟩ := List.getElem?_of_mem (List.mem_map.mpr ⟨(hs.getD 0 99, .int x), Zget_in hg, rfl⟩ : (hs.getD 0 99, Value.int x) ∈ l.map (Zl (zad X)))
  exact lv_iinc hX.1 rfl hd hl hj (by rw [h1]) (by rw [hml]; exact h2) (Zset_map _ _ _ (.int (x + Zno2 (nI r1) r2))) k
def Zbin : Instr → Option (Int32 → Int32 → Int32)
  | .iadd => some (fun x y => x + y)
  | .isub => some (fun x y => x - y)
  | .imul => some (fun x y => x * y)
  | .iand => some (fun x y => x &&& y)
  | .ior => some (fun x y => x ||| y)
  | .ixor => some (fun x y => x ^^^ y)
  | .ishl => some (fun x y => x <<< (y &&& 31))
  | .ishr => some (fun x y => x >>> (y &&& 31))
  | .iushr => some (fun x y => (x.toUInt32 >>> (y.toUInt32 &&& Int32.toUInt32 31)).toInt32)
  | _ => none
theorem Zs_bin {pc len r1 r2 : Nat} {hs : List Nat} {ins : Instr} {f : Int32 → Int32 → Int32} {x y : Int32} (hX : ZOK X k fr tab) (hne : cs ≠ []) (hf : Zbin ins = some f) (kk : ZP X tab cs l (.int (f x y) :: st) M) : ZP X tab ((pc, len, ins, r1, r2, hs) :: cs) l (.int y :: .int x :: st) M := by
  cases ins <;> simp only [Zbin, Option.some.injEq, reduceCtorEq] at hf <;> subst hf
  · exact Zs1 hX hne rfl kk (fun hc H locs ls hP hS hl hd k => lv_iadd hX.1 rfl hd k)
  · exact Zs1 hX hne rfl kk (fun hc H locs ls hP hS hl hd k => lv_iand hX.1 rfl hd k)
  · exact Zs1 hX hne rfl kk (fun hc H locs ls hP hS hl hd k => lv_imul hX.1 rfl hd k)
  · exact Zs1 hX hne rfl kk (fun hc H locs ls hP hS hl hd k => lv_ior hX.1 rfl hd k)
  · exact Zs1 hX hne rfl kk (fun hc H locs ls hP hS hl hd k => lv_ishl hX.1 rfl hd k)
  · exact Zs1 hX hne rfl kk (fun hc H locs ls hP hS hl hd k => lv_ishr hX.1 rfl hd k)
  · exact Zs1 hX hne rfl kk (fun hc H locs ls hP hS hl hd k => lv_isub hX.1 rfl hd k)
  · exact Zs1 hX hne rfl kk (fun hc H locs ls hP hS hl hd k => lv_iushr hX.1 rfl hd rfl k)
  · exact Zs1 hX hne rfl kk (fun hc H locs ls hP hS hl hd k => lv_ixor hX.1 rfl hd k)
theorem Zs_div {pc len r1 r2 : Nat} {hs : List Nat} {x y : Int32} (hX : ZOK X k fr tab) (hne : cs ≠ []) (h0 : ¬ y = nI 0) (kk : ZP X tab cs l (.int (x / y) :: st) M) : ZP X tab ((pc, len, .idiv, r1, r2, hs) :: cs) l (.int y :: .int x :: st) M :=
  Zs1 hX hne rfl kk (fun hc H locs ls hP hS hl hd k => lv_idiv hX.1 rfl hd h0 k)
theorem Zs_rem {pc len r1 r2 : Nat} {hs : List Nat} {x y : Int32} (hX : ZOK X k fr tab) (hne : cs ≠ []) (h0 : ¬ y = nI 0) (kk : ZP X tab cs l (.int (x - x / y * y) :: st) M) : ZP X tab ((pc, len, .irem, r1, r2, hs) :: cs) l (.int y :: .int x :: st) M :=
  Zs1 hX hne rfl kk (fun hc H locs ls hP hS hl hd k => lv_irem hX.1 rfl hd h0 k)
theorem Zs_neg {pc len r1 r2 : Nat} {hs : List Nat} {x : Int32} (hX : ZOK X k fr tab) (hne : cs ≠ []) (kk : ZP X tab cs l (.int (-x) :: st) M) : ZP X tab ((pc, len, .ineg, r1, r2, hs) :: cs) l (.int x :: st) M :=
  Zs1 hX hne rfl kk (fun hc H locs ls hP hS hl hd k => lv_ineg hX.1 rfl hd k)
theorem Zs_i2b {pc len r1 r2 : Nat} {hs : List Nat} {x : Int32} (hX : ZOK X k fr tab) (hne : cs ≠ []) (kk : ZP X tab cs l (.int x.toInt8.toInt32 :: st) M) : ZP X tab ((pc, len, .i2b, r1, r2, hs) :: cs) l (.int x :: st) M :=
  Zs1 hX hne rfl kk (fun hc H locs ls hP hS hl hd k => lv_i2b hX.1 rfl hd rfl k)
theorem Zs_i2s {pc len r1 r2 : Nat} {hs : List Nat} {x : Int32} (hX : ZOK X k fr tab) (hne : cs ≠ []) (kk : ZP X tab cs l (.int x.toInt16.toInt32 :: st) M) : ZP X tab ((pc, len, .i2s, r1, r2, hs) :: cs) l (.int x :: st) M :=
  Zs1 hX hne rfl kk (fun hc H locs ls hP hS hl hd k => lv_i2s hX.1 rfl hd rfl k)
theorem Zs_i2l {pc len r1 r2 : Nat} {hs : List Nat} {x : Int32} (hX : ZOK X k fr tab) (hne : cs ≠ []) (kk : ZP X tab cs l (.long x.toInt64 :: st) M) : ZP X tab ((pc, len, .i2l, r1, r2, hs) :: cs) l (.int x :: st) M :=
  Zs1 hX hne rfl kk (fun hc H locs ls hP hS hl hd k => lv_i2l hX.1 rfl hd rfl k)
theorem Zs_l2i {pc len r1 r2 : Nat} {hs : List Nat} {x : Int64} (hX : ZOK X k fr tab) (hne : cs ≠ []) (kk : ZP X tab cs l (.int x.toInt32 :: st) M) : ZP X tab ((pc, len, .l2i, r1, r2, hs) :: cs) l (.long x :: st) M :=
  Zs1 hX hne rfl kk (fun hc H locs ls hP hS hl hd k => lv_l2i hX.1 rfl hd rfl k)
theorem Zs_land {pc len r1 r2 : Nat} {hs : List Nat} {x y : Int64} (hX : ZOK X k fr tab) (hne : cs ≠ []) (kk : ZP X tab cs l (.long (x &&& y) :: st) M) : ZP X tab ((pc, len, .land, r1, r2, hs) :: cs) l (.long y :: .long x :: st) M :=
  Zs1 hX hne rfl kk (fun hc H locs ls hP hS hl hd k => lv_land hX.1 rfl hd k)
theorem Zs_lor {pc len r1 r2 : Nat} {hs : List Nat} {x y : Int64} (hX : ZOK X k fr tab) (hne : cs ≠ []) (kk : ZP X tab cs l (.long (x ||| y) :: st) M) : ZP X tab ((pc, len, .lor, r1, r2, hs) :: cs) l (.long y :: .long x :: st) M :=
  Zs1 hX hne rfl kk (fun hc H locs ls hP hS hl hd k => lv_lor hX.1 rfl hd k)
theorem Zs_lshl {pc len r1 r2 : Nat} {hs : List Nat} {x : Int64} {y : Int32} (hX : ZOK X k fr tab) (hne : cs ≠ []) (kk : ZP X tab cs l (.long (x <<< (y.toInt64 &&& 63)) :: st) M) : ZP X tab ((pc, len, .lshl, r1, r2, hs) :: cs) l (.int y :: .long x :: st) M :=
  Zs1 hX hne rfl kk (fun hc H locs ls hP hS hl hd k => lv_lshl hX.1 rfl hd rfl k)
theorem Zs_lshr {pc len r1 r2 : Nat} {hs : List Nat} {x : Int64} {y : Int32} (hX : ZOK X k fr tab) (hne : cs ≠ []) (kk : ZP X tab cs l (.long (x >>> (y.toInt64 &&& 63)) :: st) M) : ZP X tab ((pc, len, .lshr, r1, r2, hs) :: cs) l (.int y :: .long x :: st) M :=
  Zs1 hX hne rfl kk (fun hc H locs ls hP hS hl hd k => lv_lshr hX.1 rfl hd rfl k)
theorem Zs_lushr {pc len r1 r2 : Nat} {hs : List Nat} {x : Int64} {y : Int32} (hX : ZOK X k fr tab) (hne : cs ≠ []) (kk : ZP X tab cs l (.long (x.toUInt64 >>> (y.toInt64.toUInt64 &&& Int64.toUInt64 63)).toInt64 :: st) M) : ZP X tab ((pc, len, .lushr, r1, r2, hs) :: cs) l (.int y :: .long x :: st) M :=
  Zs1 hX hne rfl kk (fun hc H locs ls hP hS hl hd k => lv_lushr hX.1 rfl hd rfl k)
def Zone : Value → Bool
  | .int _ => true
  | .ref _ => true
  | _ => false
theorem Zone_cat {ad : Nat → Nat} {v : Value} (h : Zone v = true) : (Ztr ad v).category = 1 := by
  cases v <;> first | rfl | (simp [Zone] at h)
theorem Zs_dup {pc len r1 r2 : Nat} {hs : List Nat} {v : Value} (hX : ZOK X k fr tab) (hne : cs ≠ []) (hv : Zone v = true) (kk : ZP X tab cs l (v :: v :: st) M) : ZP X tab ((pc, len, .dup, r1, r2, hs) :: cs) l (v :: st) M :=
  Zs1 hX hne rfl kk (fun hc H locs ls hP hS hl hd k => lv_dup hX.1 rfl hd (Zone_cat hv) k)
theorem Zs_dup2 {pc len r1 r2 : Nat} {hs : List Nat} {v w : Value} (hX : ZOK X k fr tab) (hne : cs ≠ []) (hv : Zone v = true) (hw : Zone w = true) (kk : ZP X tab cs l (v :: w :: v :: w :: st) M) : ZP X tab ((pc, len, .dup2, r1, r2, hs) :: cs) l (v :: w :: st) M :=
  Zs1 hX hne rfl kk (fun hc H locs ls hP hS hl hd k => lv_dup2_11 hX.1 rfl hd (Zone_cat hv) (Zone_cat hw) k)
theorem Zs_pop {pc len r1 r2 : Nat} {hs : List Nat} {v : Value} (hX : ZOK X k fr tab) (hne : cs ≠ []) (hv : Zone v = true) (kk : ZP X tab cs l st M) : ZP X tab ((pc, len, .pop, r1, r2, hs) :: cs) l (v :: st) M :=
  Zs1 hX hne rfl kk (fun hc H locs ls hP hS hl hd k => lv_pop hX.1 rfl hd (Zone_cat hv) k)
-- fields
theorem Zs_getf {pc len i r1 r2 o : Nat} {hs : List Nat} {fs : List (Nat × Nat)} {c : Nat × Nat} {v : Value} (hX : ZOK X k fr tab) (hne : cs ≠ []) (ho : o < Zno) (hsh : Zsh o = (4, r1, fs)) (hf : fs[r2]? = some c) (hv : Zfv (zad X) c (M o r2) = Ztr (zad X) v) (kk : ZP X tab cs l (v :: st) M) : ZP X tab ((pc, len, .getfield i, r1, r2, hs) :: cs) l (.ref o :: st) M := by
  refine Zs1 hX hne rfl kk (fun hc H locs ls hP hS hl hd kk => ?_)
  cases hq : Zcl[r1]? with
  | none => have hc := hX.ck hc; simp [Zck, hq] at hc
  | some q =>
    have h2 := hX.wo hc (w := .fieldLink (Zmt k).1.cls i q.1 (q.2.1 r2).2.1 (q.2.1 r2).2.2.1) (by simp [Zwo, hq])
    have hc := hX.ck hc
    simp only [Zck, hq, Bool.and_eq_true, decide_eq_true_eq] at hc
    obtain ⟨-, h1⟩ := hc
    refine va_get (ci := r1) (C := q.1) (T := q.2.1) (N := q.2.2) (fs := Zfs (zad X) (M o) 0 fs) hX.1 rfl hX.2.2.2.1 (Zcl_ws hq) hX.2.2.1 hX.2.2.2.2.1 hP o (by rw [Zws_at ho, hsh]; rfl) hq r2 h1 h2 (fun x hx => by rw [Zcl_own hq h1] at hx; exact hx) (v := Ztr (zad X) v) ?_ hd kk
    rw [Zfs_at _ _ _ _ _ _ hf, ← hv, Nat.zero_add]
theorem Zs_putf {pc len i r1 r2 o : Nat} {hs : List Nat} {fs : List (Nat × Nat)} {c : Nat × Nat} {v : Value} {b : Int32} (hX : ZOK X k fr tab) (hne : cs ≠ []) (ho : o < Zno) (hsh : Zsh o = (4, r1, fs)) (hf : fs[r2]? = some c) (hv : Ztr (zad X) v = Zfv (zad X) c b)
    (hfit : ∀ q, Zcl[r1]? = some q → ∃ ty, parseFieldDescriptor (q.2.1 r2).2.2.1 = some ty ∧ narrow ty (Ztr (zad X) v) = Ztr (zad X) v ∧ fits ty (Ztr (zad X) v) = true) (kk : ZP X tab cs l st (Zu M o r2 b)) : ZP X tab ((pc, len, .putfield i, r1, r2, hs) :: cs) l (v :: .ref o :: st) M := by
  intro hsf H locs ls hP hS hl
  have hd := hX.dec hsf
  have hle : len = 3 := by have h := hX.ls hsf; simpa [Zls, Zlen] using h
  have hx := hX.nx hsf hne
  subst hle
  have hc := hX.ck hsf
  cases hq : Zcl[r1]? with
  | none => simp [Zck, hq] at hc
  | some q =>
    have h2 := hX.wo hsf (w := .fieldLink (Zmt k).1.cls i q.1 (q.2.1 r2).2.1 (q.2.1 r2).2.2.1) (by simp [Zwo, hq])
    simp only [Zck, hq, Bool.and_eq_true, decide_eq_true_eq, Bool.not_eq_true'] at hc
    obtain ⟨-, h1, h3⟩ := hc
    obtain ⟨ty, g1, g2, g3⟩ := hfit q hq
    have hlen : r2 < (Zfs (zad X) (M o) 0 fs).length := by rw [Zfs_len]; exact (List.getElem?_eq_some_iff.mp hf).1
    refine va_put (ci := r1) (C := q.1) (T := q.2.1) (N := q.2.2) (ty := ty) (fs := Zfs (zad X) (M o) 0 fs) hX.1 rfl hX.2.2.2.1 (Zcl_ws hq) (Zft r1) (Zcl_ty hq) (Zcl_nm hq) hX.2.2.1 hX.2.2.2.2.1 hP (hX.D M) hS o (by rw [Zws_at ho, hsh]; rfl) hq r2 h1 h2 (fun x hx => by rw [Zcl_own hq h1] at hx; exact hx) h3 g1 g2 g3 hlen hd (fun H1 locs1 hP1 _ hS1 => ?_)
    rw [Zfs_set _ _ b _ _ _ _ _ hf hv, Nat.zero_add] at hP1
    have := kk (Zsuf_tl hsf) H1 locs1 ls (by unfold Zpic; rw [← Zws_set (show _ = Zce (zad X) (zcA X) (upd (M o) r2 b) (Zsh o) by first | (rw [hsh]; done) | (rw [hsh]; rfl))]; exact hP1) hS1 hl
    rw [← hx] at this
    exact this
-- arrays
theorem ZOK.old (hX : ZOK X k fr tab) {o : Nat} {q : FieldType × Nat × (Nat → Int32)} (h : ZoL (zsc X) o = some q) {H : Heap} {locs : List Loc} (hS : va_S (zA X) (zs X).heap H locs) : Zoa (zad X o) q.1 q.2.1 q.2.2 (zs X) H := by
  obtain ⟨h1, h2⟩ := hX.2.2.2.2.2.2.2.1.1 o q h
  exact h1.kept (hS.2.1 _ h1.lt h2)
theorem Zar_new {sc : Nat × (Nat → Int32)} {o : Nat} {ty : FieldType} {n : Nat} {f : Nat → Int32} (h : Zar sc M o = some (ty, n, f)) (ho : o < Zno) : f = M o ∧ ((∃ z, Zsh o = (0, n, z) ∧ ty = .int) ∨ ∃ z, Zsh o = (1, n, z) ∧ ty = .byte) := by
  have hb : Nat.blt o Zno = true := by simp [Nat.blt_eq, ho]
  unfold Zar at h
  rw [hb] at h
  generalize Zsh o = w at h ⊢
  obtain ⟨a, b, z⟩ := w
  match a, h with
  | 0, h => cases h; exact ⟨rfl, Or.inl ⟨z, rfl, rfl⟩⟩
  | 1, h => cases h; exact ⟨rfl, Or.inr ⟨z, rfl, rfl⟩⟩
  | a + 2, h => cases h
theorem Zar_old {sc : Nat × (Nat → Int32)} {o : Nat} {q : FieldType × Nat × (Nat → Int32)} (h : Zar sc M o = some q) (ho : ¬ o < Zno) : ZoL sc o = some q := by
  have hb : Nat.blt o Zno = false := by
    cases hb : Nat.blt o Zno with
    | false => rfl
    | true => rw [Nat.blt_eq] at hb; exact absurd hb ho
  unfold Zar at h
  rw [hb] at h
  exact h
theorem Zs_iald {pc len r1 r2 o n : Nat} {hs : List Nat} {i : Int32} {f : Nat → Int32} (hX : ZOK X k fr tab) (hne : cs ≠ []) (ha : Zar (zsc X) M o = some (.int, n, f)) (hin : vp_in i n) (kk : ZP X tab cs l (.int (f i.toNatClampNeg) :: st) M) : ZP X tab ((pc, len, .iaload, r1, r2, hs) :: cs) l (.int i :: .ref o :: st) M := by
  refine Zs1 hX hne rfl kk (fun hc H locs ls hP hS hl hd kk => ?_)
  by_cases ho : o < Zno
  · obtain ⟨rfl, ⟨z, hz, -⟩ | ⟨z, hz, hy⟩⟩ := Zar_new ha ho
    · exact va_iald hX.1 rfl hX.2.2.2.2.1 hP o 0 (by rw [Zws_at ho, hz]; rfl) rfl hin hd kk
    · cases hy
  · obtain ⟨scr, h1, h2, h3, h4, h5⟩ := hX.old (Zar_old ha ho) hS
    have hlt : i.toNatClampNeg < n := Nat.not_le.mp fun q => hin (Or.inr q)
    exact W.iald (v := .int (f i.toNatClampNeg)) hX.1 rfl h1 h2 h3 (by rw [h4]; exact hin) (h5 _ hlt) rfl rfl hd kk
theorem Zs_bald {pc len r1 r2 o n : Nat} {hs : List Nat} {i : Int32} {f : Nat → Int32} (hX : ZOK X k fr tab) (hne : cs ≠ []) (ho : o < Zno) (ha : Zar (zsc X) M o = some (.byte, n, f)) (hin : vp_in i n) (kk : ZP X tab cs l (.int (f i.toNatClampNeg) :: st) M) : ZP X tab ((pc, len, .baload, r1, r2, hs) :: cs) l (.int i :: .ref o :: st) M := by
  refine Zs1 hX hne rfl kk (fun hc H locs ls hP hS hl hd kk => ?_)
  obtain ⟨rfl, ⟨z, hz, hy⟩ | ⟨z, hz, -⟩⟩ := Zar_new ha ho
  · cases hy
  · exact va_bald hX.1 rfl hX.2.2.2.2.1 hP o 1 (by rw [Zws_at ho, hz]; rfl) rfl hin hd kk
theorem Zs_cald {pc len r1 r2 o n : Nat} {hs : List Nat} {i : Int32} {f : Nat → Int32} (hX : ZOK X k fr tab) (hne : cs ≠ []) (ho : ¬ o < Zno) (ha : Zar (zsc X) M o = some (.char, n, f)) (hin : vp_in i n) (kk : ZP X tab cs l (.int (f i.toNatClampNeg) :: st) M) : ZP X tab ((pc, len, .caload, r1, r2, hs) :: cs) l (.int i :: .ref o :: st) M := by
  refine Zs1 hX hne rfl kk (fun hc H locs ls hP hS hl hd kk => ?_)
  obtain ⟨scr, h1, h2, h3, h4, h5⟩ := hX.old (Zar_old ha ho) hS
  have hlt : i.toNatClampNeg < n := Nat.not_le.mp fun q => hin (Or.inr q)
  exact W.cald (v := .int (f i.toNatClampNeg)) hX.1 rfl h1 h2 h3 (by rw [h4]; exact hin) (h5 _ hlt) rfl rfl hd kk
theorem Zs_aald {pc len r1 r2 o n a j o' : Nat} {hs : List Nat} {z : List (Nat × Nat)} {b : Nat} {i : Int32} (hX : ZOK X k fr tab) (hne : cs ≠ []) (ho : o < Zno) (hsh : Zsh o = (a, n, z)) (ha : a = 2 ∨ a = 3) (hi : i = nI j) (hj : j < n) (hn : n < 100) (hz : z[j]? = some (b, o')) (kk : ZP X tab cs l (.ref o' :: st) M) : ZP X tab ((pc, len, .aaload, r1, r2, hs) :: cs) l (.int i :: .ref o :: st) M := by
  refine Zs1 hX hne rfl kk (fun hc H locs ls hP hS hl hd kk => ?_)
  subst hi
  have hv : va_rf ((z[(nI j).toNatClampNeg]?).map (fun p => zad X p.2)) = Ztr (zad X) (.ref o') := by
    rw [nI_clamp (by omega), hz]; rfl
  have hin : vp_in (nI j) n := vp_in_nI hj (by omega)
  rcases ha with rfl | rfl
  · refine va_aldq (C := "KnitRiver$Text") (n := n) (f := fun k => (z[k]?).map (fun p => zad X p.2)) hX.1 rfl hX.2.2.2.2.1 hP o 2 (by rw [Zws_at ho, hsh]; rfl) rfl hin hd ?_
    rw [hv]
    exact kk
  · refine va_aldq (C := "KnitRiver$Sheet") (n := n) (f := fun k => (z[k]?).map (fun p => zad X p.2)) hX.1 rfl hX.2.2.2.2.1 hP o 3 (by rw [Zws_at ho, hsh]; rfl) rfl hin hd ?_
    rw [hv]
    exact kk
theorem Zs_alen {pc len r1 r2 o n : Nat} {hs : List Nat} {f : Nat → Int32} {ty : FieldType} (hX : ZOK X k fr tab) (hne : cs ≠ []) (ha : Zar (zsc X) M o = some (ty, n, f)) (kk : ZP X tab cs l (.int (nI n) :: st) M) : ZP X tab ((pc, len, .arraylength, r1, r2, hs) :: cs) l (.ref o :: st) M := by
  refine Zs1 hX hne rfl kk (fun hc H locs ls hP hS hl hd kk => ?_)
  by_cases ho : o < Zno
  · obtain ⟨rfl, ⟨z, hz, rfl⟩ | ⟨z, hz, rfl⟩⟩ := Zar_new ha ho
    · exact va_alen hX.1 rfl hX.2.2.2.2.1 hP o 0 (x := (n, .inl (M o))) (by rw [Zws_at ho, hz]; rfl) (ty := .int) rfl rfl hd kk
    · exact va_alen hX.1 rfl hX.2.2.2.2.1 hP o 1 (x := (n, .inl (M o))) (by rw [Zws_at ho, hz]; rfl) (ty := .byte) rfl rfl hd kk
  · obtain ⟨scr, h1, h2, h3, h4, h5⟩ := hX.old (Zar_old ha ho) hS
    exact W.alen (n := nI n) hX.1 rfl h1 h2 (by show Int32.ofNat scr.slots.size = _; rw [h4]; rfl) rfl rfl hd kk
theorem Zs_iast {pc len r1 r2 o n : Nat} {hs : List Nat} {z : List (Nat × Nat)} {i x : Int32} (hX : ZOK X k fr tab) (hne : cs ≠ []) (ho : o < Zno) (hsh : Zsh o = (0, n, z)) (hin : vp_in i n) (kk : ZP X tab cs l st (Zu M o i.toNatClampNeg x)) : ZP X tab ((pc, len, .iastore, r1, r2, hs) :: cs) l (.int x :: .int i :: .ref o :: st) M := by
  intro hsf H locs ls hP hS hl
  have hd := hX.dec hsf
  have hle : len = 1 := by have h := hX.ls hsf; simpa [Zls, Zlen] using h
  have hx := hX.nx hsf hne
  subst hle
  refine va_iast hX.1 rfl hX.2.2.2.2.1 hP (hX.D M) hS o 0 (cA := zcA X 0) (n := n) (f := M o) (by rw [Zws_at ho, hsh]; rfl) rfl hin hd (fun H1 locs1 hP1 _ hS1 => ?_)
  have := kk (Zsuf_tl hsf) H1 locs1 ls (by unfold Zpic; rw [← Zws_set (show _ = Zce (zad X) (zcA X) (upd (M o) i.toNatClampNeg x) (Zsh o) by first | (rw [hsh]; done) | (rw [hsh]; rfl))]; exact hP1) hS1 hl
  rw [← hx] at this
  exact this
theorem Zs_bast {pc len r1 r2 o n : Nat} {hs : List Nat} {z : List (Nat × Nat)} {i x : Int32} (hX : ZOK X k fr tab) (hne : cs ≠ []) (ho : o < Zno) (hsh : Zsh o = (1, n, z)) (hin : vp_in i n) (kk : ZP X tab cs l st (Zu M o i.toNatClampNeg (vp_nar .byte x))) : ZP X tab ((pc, len, .bastore, r1, r2, hs) :: cs) l (.int x :: .int i :: .ref o :: st) M := by
  intro hsf H locs ls hP hS hl
  have hd := hX.dec hsf
  have hle : len = 1 := by have h := hX.ls hsf; simpa [Zls, Zlen] using h
  have hx := hX.nx hsf hne
  subst hle
  refine va_bast hX.1 rfl hX.2.2.2.2.1 hP (hX.D M) hS o 1 (cA := zcA X 1) (n := n) (f := M o) (by rw [Zws_at ho, hsh]; rfl) rfl hin hd (fun H1 locs1 hP1 _ hS1 => ?_)
  have := kk (Zsuf_tl hsf) H1 locs1 ls (by unfold Zpic; rw [← Zws_set (show _ = Zce (zad X) (zcA X) (upd (M o) i.toNatClampNeg (vp_nar .byte x)) (Zsh o) by first | (rw [hsh]; done) | (rw [hsh]; rfl))]; exact hP1) hS1 hl
  rw [← hx] at this
  exact this
theorem Zs_gets {pc len i r1 r2 : Nat} {hs : List Nat} {q : String × String × String} (hX : ZOK X k fr tab) (hne : cs ≠ []) (hq : ZstL r1 = some q) (kk : ZP X tab cs l (.ref r1 :: st) M) : ZP X tab ((pc, len, .getstatic i, r1, r2, hs) :: cs) l st M := by
  refine Zs1 hX hne rfl kk (fun hc H locs ls hP hS hl hd kk => ?_)
  exact va_gets hX.1 rfl (hX.2.2.2.2.2.2.2.1.2 _ _ hq) hS hX.2.2.1 (hX.wo hc (by simp [Zwo, hq])) (fun x h => h) hd kk
-- branches
theorem Zs_goto {pc len r1 r2 : Nat} {off : Int} {hs : List Nat} (hX : ZOK X k fr tab) (kk : ZP X tab (Zsf tab r1) l st M) : ZP X tab ((pc, len, .goto off, r1, r2, hs) :: cs) l st M := by
  intro hsf H locs ls hP hS hl
  have hd := hX.dec hsf
  have hle : len = 3 := by have h := hX.ls hsf; simpa [Zls, Zlen] using h
  subst hle
  have hc := hX.ck hsf
  simp only [Zck, Bool.and_eq_true, decide_eq_true_eq] at hc
  have := kk (Zsuf_sf _ _) H locs ls hP hS hl
  rw [Zsf_pc hc.2.2] at this
  exact lv_goto hX.1 rfl hd hc.2.1 this
/-- both ways of a branch -/
theorem Zs_br {pc len r1 r2 : Nat} {ins : Instr} {hs : List Nat} {st' : List Value} {C : Prop} {off : Int} (hX : ZOK X k fr tab) (hne : cs ≠ []) (hn : Zlen ins = some 3) (hck : Zck k tab (pc, len, ins, r1, r2, hs) = true → (pc : Int) + off = (r1 : Int) ∧ Zhp tab r1 = true)
    (row : ∀ (H : Heap) (locs : List Loc) (ls : Array Slot), (pc : Int) + off = (r1 : Int) → decode (zc X).code pc = .ok (ins, 3) → (C → ZW X H locs (F0 (zm X) r1 ls (st'.map (Ztr (zad X))))) → (¬ C → ZW X H locs (F0 (zm X) (pc + 3) ls (st'.map (Ztr (zad X))))) → ZW X H locs (F0 (zm X) pc ls (st.map (Ztr (zad X)))))
    (kt : C → ZP X tab (Zsf tab r1) l st' M) (kf : ¬ C → ZP X tab cs l st' M) : ZP X tab ((pc, len, ins, r1, r2, hs) :: cs) l st M := by
  intro hsf H locs ls hP hS hl
  have hd := hX.dec hsf
  have hle : len = 3 := by have h := hX.ls hsf; simpa [Zls, hn] using h
  have hx := hX.nx hsf hne
  subst hle
  obtain ⟨h1, h2⟩ := hck (hX.ck hsf)
  refine row H locs ls h1 hd (fun c => ?_) (fun c => ?_)
  · have := kt c (Zsuf_sf _ _) H locs ls hP hS hl
    rw [Zsf_pc h2] at this
    exact this
  · have := kf c (Zsuf_tl hsf) H locs ls hP hS hl
    rw [← hx] at this
    exact this
section ZB
variable {pc len r1 r2 : Nat} {off : Int} {hs : List Nat} {x y : Int32}
theorem Zck_if {co : Jvm.ClassFile.Cond} (h : Zck k tab (pc, len, .ifCond co off, r1, r2, hs) = true) : (pc : Int) + off = (r1 : Int) ∧ Zhp tab r1 = true := by
  simp only [Zck, Bool.and_eq_true, decide_eq_true_eq] at h
  exact h.2
theorem Zck_ic {co : Jvm.ClassFile.Cond} (h : Zck k tab (pc, len, .if_icmp co off, r1, r2, hs) = true) : (pc : Int) + off = (r1 : Int) ∧ Zhp tab r1 = true := by
  simp only [Zck, Bool.and_eq_true, decide_eq_true_eq] at h
  exact h.2
theorem Zs_ieq (hX : ZOK X k fr tab) (hne : cs ≠ []) (kt : x = y → ZP X tab (Zsf tab r1) l st M) (kf : ¬ x = y → ZP X tab cs l st M) : ZP X tab ((pc, len, .if_icmp .eq off, r1, r2, hs) :: cs) l (.int y :: .int x :: st) M :=
  Zs_br hX hne rfl Zck_ic (fun H locs ls ht hd a b => lv_icmp_eq hX.1 rfl hd ht a b) kt kf
theorem Zs_ine (hX : ZOK X k fr tab) (hne : cs ≠ []) (kt : ¬ x = y → ZP X tab (Zsf tab r1) l st M) (kf : x = y → ZP X tab cs l st M) : ZP X tab ((pc, len, .if_icmp .ne off, r1, r2, hs) :: cs) l (.int y :: .int x :: st) M :=
  Zs_br (C := ¬ x = y) hX hne rfl Zck_ic (fun H locs ls ht hd a b => lv_icmp_ne hX.1 rfl hd ht a (fun h => b (fun n => n h))) kt (fun h => kf (Classical.not_not.mp h))
theorem Zs_ilt (hX : ZOK X k fr tab) (hne : cs ≠ []) (kt : x < y → ZP X tab (Zsf tab r1) l st M) (kf : ¬ x < y → ZP X tab cs l st M) : ZP X tab ((pc, len, .if_icmp .lt off, r1, r2, hs) :: cs) l (.int y :: .int x :: st) M :=
  Zs_br hX hne rfl Zck_ic (fun H locs ls ht hd a b => lv_icmp_lt hX.1 rfl hd ht a b) kt kf
theorem Zs_ige (hX : ZOK X k fr tab) (hne : cs ≠ []) (kt : y ≤ x → ZP X tab (Zsf tab r1) l st M) (kf : ¬ y ≤ x → ZP X tab cs l st M) : ZP X tab ((pc, len, .if_icmp .ge off, r1, r2, hs) :: cs) l (.int y :: .int x :: st) M :=
  Zs_br hX hne rfl Zck_ic (fun H locs ls ht hd a b => lv_icmp_ge hX.1 rfl hd ht a b) kt kf
theorem Zs_igt (hX : ZOK X k fr tab) (hne : cs ≠ []) (kt : y < x → ZP X tab (Zsf tab r1) l st M) (kf : ¬ y < x → ZP X tab cs l st M) : ZP X tab ((pc, len, .if_icmp .gt off, r1, r2, hs) :: cs) l (.int y :: .int x :: st) M :=
  Zs_br hX hne rfl Zck_ic (fun H locs ls ht hd a b => lv_icmp_gt hX.1 rfl hd ht a b) kt kf
theorem Zs_ile (hX : ZOK X k fr tab) (hne : cs ≠ []) (kt : x ≤ y → ZP X tab (Zsf tab r1) l st M) (kf : ¬ x ≤ y → ZP X tab cs l st M) : ZP X tab ((pc, len, .if_icmp .le off, r1, r2, hs) :: cs) l (.int y :: .int x :: st) M :=
  Zs_br hX hne rfl Zck_ic (fun H locs ls ht hd a b => lv_icmp_le hX.1 rfl hd ht a b) kt kf
theorem Zs_eq (hX : ZOK X k fr tab) (hne : cs ≠ []) (kt : x = 0 → ZP X tab (Zsf tab r1) l st M) (kf : ¬ x = 0 → ZP X tab cs l st M) : ZP X tab ((pc, len, .ifCond .eq off, r1, r2, hs) :: cs) l (.int x :: st) M :=
  Zs_br hX hne rfl Zck_if (fun H locs ls ht hd a b => lv_if_eq hX.1 rfl hd ht a b) kt kf
theorem Zs_ne (hX : ZOK X k fr tab) (hne : cs ≠ []) (kt : ¬ x = 0 → ZP X tab (Zsf tab r1) l st M) (kf : x = 0 → ZP X tab cs l st M) : ZP X tab ((pc, len, .ifCond .ne off, r1, r2, hs) :: cs) l (.int x :: st) M :=
  Zs_br (C := ¬ x = 0) hX hne rfl Zck_if (fun H locs ls ht hd a b => lv_if_ne hX.1 rfl hd ht a (fun h => b (fun n => n h))) kt (fun h => kf (Classical.not_not.mp h))
theorem Zs_lt (hX : ZOK X k fr tab) (hne : cs ≠ []) (kt : x < 0 → ZP X tab (Zsf tab r1) l st M) (kf : ¬ x < 0 → ZP X tab cs l st M) : ZP X tab ((pc, len, .ifCond .lt off, r1, r2, hs) :: cs) l (.int x :: st) M :=
  Zs_br hX hne rfl Zck_if (fun H locs ls ht hd a b => lv_if_lt hX.1 rfl hd ht a b) kt kf
theorem Zs_ge (hX : ZOK X k fr tab) (hne : cs ≠ []) (kt : 0 ≤ x → ZP X tab (Zsf tab r1) l st M) (kf : ¬ 0 ≤ x → ZP X tab cs l st M) : ZP X tab ((pc, len, .ifCond .ge off, r1, r2, hs) :: cs) l (.int x :: st) M :=
  Zs_br hX hne rfl Zck_if (fun H locs ls ht hd a b => lv_if_ge hX.1 rfl hd ht a b) kt kf
theorem Zs_gt (hX : ZOK X k fr tab) (hne : cs ≠ []) (kt : 0 < x → ZP X tab (Zsf tab r1) l st M) (kf : ¬ 0 < x → ZP X tab cs l st M) : ZP X tab ((pc, len, .ifCond .gt off, r1, r2, hs) :: cs) l (.int x :: st) M :=
  Zs_br hX hne rfl Zck_if (fun H locs ls ht hd a b => lv_if_gt hX.1 rfl hd ht a b) kt kf
theorem Zs_le (hX : ZOK X k fr tab) (hne : cs ≠ []) (kt : x ≤ 0 → ZP X tab (Zsf tab r1) l st M) (kf : ¬ x ≤ 0 → ZP X tab cs l st M) : ZP X tab ((pc, len, .ifCond .le off, r1, r2, hs) :: cs) l (.int x :: st) M :=
  Zs_br hX hne rfl Zck_if (fun H locs ls ht hd a b => lv_if_le hX.1 rfl hd ht a b) kt kf
end ZB
theorem Zs_ifnull {pc len r1 r2 o : Nat} {off : Int} {hs : List Nat} (hX : ZOK X k fr tab) (hne : cs ≠ []) (kk : ZP X tab cs l st M) : ZP X tab ((pc, len, .ifnull off, r1, r2, hs) :: cs) l (.ref o :: st) M :=
  Zs1 hX hne rfl kk (fun hc H locs ls hP hS hl hd k => lv_ifnull hX.1 rfl hd k)
-- switches
def Zswk (pc : Nat) (ins : Instr) (ks : List (Int32 × Nat)) (dt : Nat) : Bool := match ins with
  | .tableswitch d lo hi offs => decide (ks.map (fun q => q.1.toInt) = (List.range offs.size).map (fun i : Nat => lo + (i : Int))) && decide (offs.toList.map (fun o => (pc : Int) + o) = ks.map (fun q => (q.2 : Int))) && decide ((pc : Int) + d = (dt : Int)) && decide (hi = lo + (offs.size : Int) - 1)
  | .lookupswitch d ps => decide (ps.toList.map (fun q => (q.1, (pc : Int) + q.2)) = ks.map (fun q => (q.1.toInt, (q.2 : Int)))) && decide ((pc : Int) + d = (dt : Int)) && (ps.toList.zip (ps.toList.drop 1)).all (fun (a, next) => a.1 < next.1)
  | _ => false
theorem Zsl_or (x : Int32) (d : Nat) : ∀ ks : List (Int32 × Nat), (∃ (i : Nat) (q : Int32 × Nat), ks[i]? = some q ∧ x = q.1 ∧ Zsl x d ks = q.2) ∨ ((∀ (i : Nat) (q : Int32 × Nat), ks[i]? = some q → ¬ x = q.1) ∧ Zsl x d ks = d) := by
  intro ks
  induction ks with
  | nil => exact Or.inr ⟨fun i q h => by simp at h, rfl⟩
  | cons q r ih =>
    by_cases h : x = q.1
    · exact Or.inl ⟨0, q, rfl, h, by simp [Zsl, h]⟩
    · rcases ih with ⟨i, q', h1, h2, h3⟩ | ⟨h1, h2⟩
      · exact Or.inl ⟨i + 1, q', by simpa using h1, h2, by rw [Zsl, if_neg h]; exact h3⟩
      · refine Or.inr ⟨fun i q' h' => ?_, by rw [Zsl, if_neg h]; exact h2⟩
        cases i with
        | zero => simp at h'; subst h'; exact h
        | succ i => exact h1 i q' (by simpa using h')
theorem Zlk_off (x : Int32) (pc dt : Nat) (d : Int) (hd : (pc : Int) + d = (dt : Int)) : ∀ (ps : List (Int × Int)) (ks : List (Int32 × Nat)), ps.map (fun q => (q.1, (pc : Int) + q.2)) = ks.map (fun q => (q.1.toInt, (q.2 : Int))) → (pc : Int) + Op.lookupswitch.offset ps d x.toInt = (Zsl x dt ks : Int) := by
  intro ps
  induction ps with
  | nil =>
    intro ks h
    cases ks with
    | nil => exact hd
    | cons a r => simp at h
  | cons p r ih =>
    intro ks h
    cases ks with
    | nil => simp at h
    | cons q s =>
      simp only [List.map_cons, List.cons.injEq, Prod.mk.injEq] at h
      obtain ⟨⟨h1, h2⟩, h3⟩ := h
      obtain ⟨pa, po⟩ := p
      rw [Op.lookupswitch.offset_cons, Zsl]
      by_cases hx : x = q.1
      · rw [if_pos hx, if_pos (by rw [hx]; exact h1)]
        exact h2
      · rw [if_neg hx, if_neg (fun e => hx (Int32.toInt_inj.mp (by rw [← h1]; exact e.symm)))]
        exact ih s h3
theorem Zs_sw {pc len r1 r2 t : Nat} {ins : Instr} {hs : List Nat} {x : Int32} (ks : List (Int32 × Nat)) (dt : Nat) (hX : ZOK X k fr tab) (hk : Zswk pc ins ks dt = true) (hp : (Zhp tab dt && ks.all (fun q => Zhp tab q.2)) = true) (ht : Zsl x dt ks = t) (kk : ZP X tab (Zsf tab t) l st M) : ZP X tab ((pc, len, ins, r1, r2, hs) :: cs) l (.int x :: st) M := by
  intro hsf H locs ls hP hS hl
  have hd := hX.dec hsf
  have hpt : Zhp tab t = true := by
    simp only [Bool.and_eq_true] at hp
    rcases Zsl_or x dt ks with ⟨i, q, h1, -, h3⟩ | ⟨-, h3⟩
    · rw [← ht, h3]; exact List.all_eq_true.mp hp.2 q (List.mem_of_getElem? h1)
    · rw [← ht, h3]; exact hp.1
  have kk2 := kk (Zsuf_sf _ _) H locs ls hP hS hl
  rw [Zsf_pc hpt] at kk2
  cases ins with
  | tableswitch d lo hi offs =>
    simp only [Zswk, Bool.and_eq_true, decide_eq_true_eq] at hk
    obtain ⟨⟨⟨k1, k2⟩, k3⟩, k4⟩ := hk
    have hlen : ks.length = offs.size := by have := congrArg List.length k1; simpa using this
    have key : ∀ (i : Nat) (q : Int32 × Nat), ks[i]? = some q → q.1.toInt = lo + (i : Int) ∧ ∃ o, offs[i]? = some o ∧ (pc : Int) + o = (q.2 : Int) := by
      intro i q hq
      have hi := (List.getElem?_eq_some_iff.mp hq).1
      have e1 := congrArg (fun z => z[i]?) k1
      simp only [List.getElem?_map, hq, Option.map_some, List.getElem?_range (show i < offs.size by omega)] at e1
      have e2 := congrArg (fun z => z[i]?) k2
      simp only [List.getElem?_map, hq, Option.map_some] at e2
      refine ⟨Option.some.inj e1, ?_⟩
      have h3 : offs[i]? = some offs[i] := Array.getElem?_eq_getElem (by omega)
      refine ⟨offs[i], h3, ?_⟩
      rw [show offs.toList[i]? = some offs[i] by rw [Array.getElem?_toList]; exact h3] at e2
      exact Option.some.inj e2
    rcases Zsl_or x dt ks with ⟨i, q, h1, h2, h3⟩ | ⟨h1, h2⟩
    · obtain ⟨g1, o, g2, g3⟩ := key i q h1
      have hi := (List.getElem?_eq_some_iff.mp h1).1
      rw [h3] at ht
      subst ht
      exact lv_tableIn hX.1 rfl hd (by rw [h2, g1]; omega) (by rw [h2, g1]; omega) (off := o) (by rw [h2, g1]; rw [show (lo + (i : Int) - lo).toNat = i by omega]; exact g2) g3 kk2
    · rw [h2] at ht
      subst ht
      refine lv_tableOut hX.1 rfl hd ?_ k3 kk2
      by_cases h : x.toInt < lo
      · exact Or.inl h
      · by_cases h' : hi < x.toInt
        · exact Or.inr h'
        · exfalso
          have hj : (x.toInt - lo).toNat < ks.length := by omega
          obtain ⟨g1, -⟩ := key _ _ (List.getElem?_eq_getElem hj)
          exact h1 _ _ (List.getElem?_eq_getElem hj) (Int32.toInt_inj.mp (by rw [g1]; omega))
  | lookupswitch d ps =>
    simp only [Zswk, Bool.and_eq_true, decide_eq_true_eq] at hk
    obtain ⟨⟨k1, k2⟩, k3⟩ := hk
    exact lv_lookup hX.1 rfl hd k3 rfl (by show (pc : Int) + _ = _; rw [Zlk_off x pc dt d k2 _ _ k1, ht]) kk2
  | _ => simp [Zswk] at hk
-- calls
theorem Zblind {as : List Value} {D : va_G} {ad : Nat → Nat} {cA : Nat → ClassId} {sc : Nat × (Nat → Int32)} {sz : Nat} {M : Zmem} : FrameBlind (va_Pc as (fun U => U.heap.size = sz ∧ Zwd D ad cA sc M U)) := by
  intro a U g mk h
  obtain ⟨h0, h1, hP, hK, hi, ⟨ho, hz⟩, hn⟩ := h
  refine ⟨h0, h1, hP, va_K.moved (u := U) (U := U.calling g mk a) (Vm.Alike.refl U.vm) hK, hi, ⟨fun o q h => ⟨(ho o q h).1.moved (u := U) (U := U.calling g mk a) (Vm.Alike.refl U.vm), (ho o q h).2⟩, fun o q h => (hz o q h).moved (u := U) (U := U.calling g mk a) (Vm.Alike.refl U.vm)⟩, fun w hw => ?_⟩
  refine va_Nw.same ?_ (rfl : U.vm = (U.calling g mk a).vm) (hn w hw)
  have := (List.mem_filter.mp hw).2
  cases w <;> first | rfl | (simp [Zisn] at this)
theorem Zwd_at (hX : ZOK X k fr tab) {H : Heap} {locs : List Loc} {U : State} (hP : Zpic X M H) (hS : va_S (zA X) (zs X).heap H locs) (hU : U.heap = H) (hW : (zs X).WarmedH U.vm) : Zwd (zD X) (zad X) (zcA X) (zsc X) M U := by
  obtain ⟨hx, hb, hown, hts, hK, ⟨hi, hA⟩, hsz, ⟨ho, hz⟩, hn, hch, hfr, hml, hce⟩ := id hX
  have hsub : ∀ q, ZA (zad X) q → zA X q := by rintro q ⟨i, h1, rfl⟩; exact hA i h1
  refine ⟨by rw [hU]; exact hP, va_K.moved hW.alike hK, hi, ⟨fun o q h => ?_, fun o q h => ?_⟩, fun w hw => ?_⟩
  · obtain ⟨h1, h2⟩ := ho o q h
    exact ⟨by rw [hU]; exact (h1.kept (hS.2.1 _ h1.lt h2)).moved hW.alike, fun h3 => h2 (hsub _ h3)⟩
  · have h1 := hz o q h
    rw [hU]
    exact ((h1.kept (fun a h3 h4 => hS.2.1 a h3 h4)).narrow hsub).moved hW.alike
  · have h1 := (List.mem_filter.mp hw).2
    have h2 := hn w hw
    cases w <;> first | (exact va_Nw.warmM hW h2) | (simp [Zisn] at h1)
theorem Zgood {w : Cond} (h : w ∈ Ztg) : GoodIn Ztg (w :: Ztg) := by
  intro v hw
  rcases List.mem_cons.mp hw with rfl | hw
  · exact ⟨h, good_of_word (List.mem_filter.mp h).2⟩
  · exact ⟨hw, good_of_word (List.mem_filter.mp hw).2⟩
/-- behind a call -/
theorem Zbehind {pc : Nat} {Post' : Option Value → Zmem → Prop} {a : Array Value} {ls : Array Slot} {st0 rest : List Value} {H : Heap} {locs : List Loc} (hX : ZOK X k fr tab) (hS : va_S (zA X) (zs X).heap H locs)
    (hr : va_Run (zp X) (zl X) (ze X) (zR X) (zs X) (zm X) (za X) (zb X) (zme X) (zc X) H locs (zk X) (zn X) 0 0 (F0 (zm X) pc ls st0) rest (ZQF (zD X) (zad X) (zcA X) Post' (ZAA (zad X) H.size) a) (ZAA (zad X) H.size))
    (kk : ∀ (r : Option Value) (M' : Zmem) (H1 : Heap) (locs1 : List Loc), Zri r → Post' r M' → Zpic X M' H1 → va_S (zA X) (zs X).heap H1 locs1 → ZW X H1 locs1 (F0 (zm X) (pc + 3) ls (r.toList ++ rest))) : ZW X H locs (F0 (zm X) pc ls st0) := by
  obtain ⟨hx, hb, hown, hts, hK, ⟨hi, hA⟩, hsz, ⟨ho, hz⟩, hn, hch, hfr, hml, hce⟩ := id hX
  have hF : ∀ q, ZAA (zad X) H.size q → zA X q := by
    rintro q (⟨i, h1, rfl⟩ | h)
    · exact hA i h1
    · exact hsz q (Nat.le_trans hS.1 h)
  intro T hT XT
  obtain ⟨v, st₀, t, T', L, h0, X', hL, e1, e2, ⟨⟨r, M', hv, hri, hp, hPt⟩, hz, hk⟩, st⟩ := hr T hT XT
  cases hv
  rw [h0] at hz hk
  obtain ⟨t2, a1, b1⟩ := kk v M' T'.heap (locs ++ L) hri hp (by unfold Zpic; rw [e1]; exact hPt)
    ⟨Nat.le_trans hS.1 (by rw [e1]; exact hz), fun q h1 h2 => by rw [e1, hk q (Nat.lt_of_lt_of_le h1 hS.1) (fun z => h2 (hF q z))]; exact hS.2.1 q h1 h2, fun q hq => by
      rcases List.mem_append.mp hq with h | h
      · exact hS.2.2 q h
      · exact hF _ (hL q h)⟩ T' rfl X'
  exact ⟨t2, st t2 a1, b1⟩
theorem Zri_tr {ad : Nat → Nat} {r : Option Value} (h : Zri r) (rest : List Value) : (r.toList ++ rest).map (Ztr ad) = r.toList ++ rest.map (Ztr ad) := by
  rcases h with rfl | ⟨v, rfl⟩ <;> rfl
theorem Zcat_tr (ad : Nat → Nat) (rest : List Value) : ((rest.map (Ztr ad)).map fun v => v.category) = rest.map fun v => v.category := by
  rw [List.map_map]
  apply List.map_congr_left
  intro v _
  exact Ztr_cat ad v
theorem Zs_calls {pc len r1 r2 i fr' : Nat} {hs : List Nat} {as rest : List Value} {Post' : Option Value → Zmem → Prop} (hX : ZOK X k fr tab) (hne : cs ≠ []) (hr2 : r2 < 2) (hC : ZC r1 fr' as M Post') (hfr : fr' + 1 ≤ fr) (hst : st = as.reverse ++ rest) (hlen : as.length = Zna r1) (hmt : r1 < ZmtL.length) (hcat : (rest.map fun v => v.category).sum ≤ 8)
    (kk : ∀ (r : Option Value) (M' : Zmem), Post' r M' → ZP X tab cs l (r.toList ++ rest) M') : ZP X tab ((pc, len, .invokestatic i, r1, r2, hs) :: cs) l st M := by
  intro hsf H locs ls hP hS hl
  have hd := hX.dec hsf
  have hle : len = 3 := by have h := hX.ls hsf; simpa [Zls, Zlen] using h
  have hx := hX.nx hsf hne
  subst hle
  obtain ⟨h6, h7, h8, h5⟩ := Zmt_at hmt
  have hwo : ∀ w ∈ ([.static (Zmt r1).1, .initialized (Zmt r1).1.cls, .code (Zmt r1).1 (Zmt r1).2.1 (Zmt r1).2.2.1 (Zmt r1).2.2.2] : List Cond), w ∈ Ztg := by
    intro w hw
    refine hX.wg hsf ?_
    rcases (show r2 = 0 ∨ r2 = 1 by omega) with rfl | rfl
    · exact List.mem_cons_of_mem _ hw
    · exact hw
  have h2 := hX.2.2.2.1 _ (hwo _ List.mem_cons_self)
  have h3 := hX.2.2.2.1 _ (hwo _ (List.mem_cons_of_mem _ List.mem_cons_self))
  have h4 := hwo _ (List.mem_cons_of_mem _ (List.mem_cons_of_mem _ List.mem_cons_self))
  have hfit := hX.2.2.2.2.2.2.2.2.2.2.1
  have hce := hX.2.2.2.2.2.2.2.2.2.2.2.2
  have hR : (Zrm fr').frames + 1 ≤ (zR X).frames ∧ 8 + ((Zmt r1).2.2.1 + 11) + (Zrm fr').locals ≤ (zR X).locals := by
    simp only [Zrm]
    omega
  have hpre : PreS (zs X) H (va_Pc (as.map (Ztr (zad X))) (fun U => U.heap.size = H.size ∧ Zwd (zD X) (zad X) (zcA X) (zsc X) M U)) (as.map (Ztr (zad X))) := ⟨Zblind, fun U hU hW => ⟨rfl, by rw [hU], Zwd_at hX hP hS hU hW⟩⟩
  have hM := hC (zl X) (zD X) (zad X) (zcA X) (zsc X) H.size
  subst hst
  rw [List.map_append, List.map_reverse]
  refine Zbehind hX hS (rest := rest.map (Ztr (zad X))) (Post' := Post') (a := (as.map (Ztr (zad X))).toArray) ?_ (fun r M' H1 locs1 hri hp hP1 hS1 => ?_)
  · rcases (show r2 = 0 ∨ r2 = 1 by omega) with rfl | rfl
    · exact va_runS (As := as.map (Ztr (zad X))) ⟨hX.1, rfl, rfl, hX.2.2.1, hX.2.2.2.1⟩ hM ⟨callB_of (Zna r1) hX.2.2.2.1 (Zgood h4) rfl rfl rfl h3 (hX.wo hsf List.mem_cons_self) ⟨h6, h7, h8⟩ hR, h2⟩ hpre rfl (by rw [List.length_map]; exact hlen) hl.1 rfl (lv_room (by rw [Zcat_tr]; exact hcat)) hd hce
    · exact va_runSN (As := as.map (Ztr (zad X))) ⟨hX.1, rfl, rfl, hX.2.2.1, hX.2.2.2.1⟩ hM ⟨va_cnB (Zna r1) hX.2.2.2.1 (Zgood h4) rfl rfl rfl (hX.wn hsf List.mem_cons_self) h3 ⟨h6, h7, h8⟩ hR, h2, trivial⟩ hpre rfl (by rw [List.length_map]; exact hlen) hl.1 rfl (lv_room (by rw [Zcat_tr]; exact hcat)) hd hce
  · have := kk r M' hp (Zsuf_tl hsf) H1 locs1 ls hP1 hS1 hl
    rw [← hx, Zri_tr hri] at this
    exact this
theorem Zs_callv {pc len r1 r2 i fr' o : Nat} {hs : List Nat} {fs : List (Nat × Nat)} {as rest : List Value} {Post' : Option Value → Zmem → Prop} (hX : ZOK X k fr tab) (hne : cs ≠ []) (hC : ZC r1 fr' (.ref o :: as) M Post') (hfr : fr' + 1 ≤ fr) (ho : o < Zno) (hsh : Zsh o = (4, r2, fs)) (hst : st = as.reverse ++ .ref o :: rest) (hlen : as.length = Zna r1) (hmt : r1 < ZmtL.length) (hcat : (rest.map fun v => v.category).sum ≤ 8)
    (kk : ∀ (r : Option Value) (M' : Zmem), Post' r M' → ZP X tab cs l (r.toList ++ rest) M') : ZP X tab ((pc, len, .invokevirtual i, r1, r2, hs) :: cs) l st M := by
  intro hsf H locs ls hP hS hl
  have hd := hX.dec hsf
  have hle : len = 3 := by have h := hX.ls hsf; simpa [Zls, Zlen] using h
  have hx := hX.nx hsf hne
  subst hle
  obtain ⟨h6, h7, h8, h5⟩ := Zmt_at hmt
  have hc := hX.ck hsf
  simp only [Zck, Bool.and_eq_true, beq_iff_eq] at hc
  obtain ⟨-, hci⟩ := hc
  have hwo : ∀ w ∈ ([.methodLink (Zmt k).1.cls i (Zmt r1).1, .instanceMethod (Zmt r1).1, .initialized (Zmt r1).1.cls, .code (Zmt r1).1 (Zmt r1).2.1 (Zmt r1).2.2.1 (Zmt r1).2.2.2, .selects (Zmt r1).1.cls (Zmt r1).1 (Zmt r1).1] : List Cond), w ∈ Ztg := fun w hw => hX.wg hsf hw
  have g : ∀ (n : Nat) (w : Cond), ([.methodLink (Zmt k).1.cls i (Zmt r1).1, .instanceMethod (Zmt r1).1, .initialized (Zmt r1).1.cls, .code (Zmt r1).1 (Zmt r1).2.1 (Zmt r1).2.2.1 (Zmt r1).2.2.2, .selects (Zmt r1).1.cls (Zmt r1).1 (Zmt r1).1] : List Cond)[n]? = some w → w.before (za X) (zs X) = true := fun n w h => hX.2.2.2.1 _ (hwo w (List.mem_of_getElem? h))
  have hfit := hX.2.2.2.2.2.2.2.2.2.2.1
  have hce := hX.2.2.2.2.2.2.2.2.2.2.2.2
  have hR : (Zrm fr').frames + 1 ≤ (zR X).frames ∧ 8 + ((Zmt r1).2.2.1 + 11) + (Zrm fr').locals ≤ (zR X).locals := by
    simp only [Zrm]
    omega
  obtain ⟨q, hq, h10⟩ := Zci_at ho hsh hmt hci
  have hrecv := va_recv hX.2.2.2.2.1 hP hq (a := zad X o) (q0 := o) (fs := Zfs (zad X) (M o) 0 fs) (by rw [Zws_at ho, hsh]; rfl)
  rw [h10] at hrecv
  have hpre : PreV (zs X) H (Zmt r1).1.cls (zad X o) (va_Pc ((Value.ref o :: as).map (Ztr (zad X))) (fun U => U.heap.size = H.size ∧ Zwd (zD X) (zad X) (zcA X) (zsc X) M U)) (as.map (Ztr (zad X))) := ⟨Zblind, hrecv, fun U hU hW => ⟨rfl, by rw [hU], Zwd_at hX hP hS hU hW⟩⟩
  have hM := hC (zl X) (zD X) (zad X) (zcA X) (zsc X) H.size
  subst hst
  rw [List.map_append, List.map_reverse, List.map_cons]
  refine Zbehind hX hS (rest := rest.map (Ztr (zad X))) (Post' := Post') (a := (Value.ref (zad X o) :: as.map (Ztr (zad X))).toArray) ?_ (fun r M' H1 locs1 hri hp hP1 hS1 => ?_)
  · exact va_runV (As := as.map (Ztr (zad X))) (C := (Zmt r1).1.cls) ⟨hX.1, rfl, rfl, hX.2.2.1, hX.2.2.2.1⟩ hM ⟨callB_of (Zna r1) hX.2.2.2.1 (Zgood (hwo _ (List.mem_of_getElem? (i := 3) rfl))) rfl rfl rfl (g 2 _ rfl) (g 0 _ rfl) ⟨h6, h7, h8⟩ hR, g 1 _ rfl, g 4 _ rfl⟩ hpre rfl (by rw [List.length_map]; exact hlen) hl.1 rfl (lv_room (by rw [Zcat_tr]; exact hcat)) hd hce
  · have := kk r M' hp (Zsuf_tl hsf) H1 locs1 ls hP1 hS1 hl
    rw [← hx, Zri_tr hri] at this
    exact this
/-- System.arraycopy from a row of numbers to another one -/
theorem Zs_copy {pc len r1 i a n0 n1 o0 o1 : Nat} {hs : List Nat} {z0 z1 : List (Nat × Nat)} {sp dp n : Int32} (hX : ZOK X k fr tab) (hne : cs ≠ []) (hfr : 1 ≤ fr) (h0 : o0 < Zno) (h1 : o1 < Zno) (ha : a = 0 ∨ a = 1) (hs0 : Zsh o0 = (a, n0, z0)) (hs1 : Zsh o1 = (a, n1, z1)) (hsp : ¬ sp < 0) (hdp : ¬ dp < 0) (hn : ¬ n < 0) (hn0 : sp.toNatClampNeg + n.toNatClampNeg ≤ n0) (hn1 : dp.toNatClampNeg + n.toNatClampNeg ≤ n1)
    (hby : a = 1 → ∀ j, j < n.toNatClampNeg → fits .byte (.int (M o0 (sp.toNatClampNeg + j))) = true) (hrest : (st.map fun v => v.category).sum ≤ 8)
    (kk : ZP X tab cs l st (fun q => if q = o1 then va_cpy (M o0) (M o1) sp.toNatClampNeg dp.toNatClampNeg n.toNatClampNeg else M q)) : ZP X tab ((pc, len, .invokestatic i, r1, 2, hs) :: cs) l (.int n :: .int dp :: .ref o1 :: .int sp :: .ref o0 :: st) M := by
  intro hsf H locs ls hP hS hl
  have hd := hX.dec hsf
  have hle : len = 3 := by have h := hX.ls hsf; simpa [Zls, Zlen] using h
  have hx := hX.nx hsf hne
  subst hle
  have g : ∀ (n : Nat) (w : Cond), ([.methodLink (Zmt k).1.cls i arraycopyName, .native arraycopyName, .static arraycopyName, .initialized "java/lang/System"] : List Cond)[n]? = some w → w.before (za X) (zs X) = true := fun n w h => hX.wo hsf (List.mem_of_getElem? h)
  have hfit := hX.2.2.2.2.2.2.2.2.2.2.1
  have hset : ∀ e, e = Zce (zad X) (zcA X) (va_cpy (M o0) (M o1) sp.toNatClampNeg dp.toNatClampNeg n.toNatClampNeg) (Zsh o1) → (Zws (zad X) (zcA X) M).set o1 (zad X o1, e) = Zws (zad X) (zcA X) (fun q => if q = o1 then va_cpy (M o0) (M o1) sp.toNatClampNeg dp.toNatClampNeg n.toNatClampNeg else M q) := by
    intro e he
    apply List.ext_getElem?
    intro j
    rw [List.getElem?_set]
    by_cases hj : o1 = j
    · subst hj
      rw [if_pos rfl, if_pos (by simpa [Zws] using h1), Zws_at h1, he]
      simp
    · rw [if_neg hj]
      by_cases hl : j < Zno
      · rw [Zws_at hl, Zws_at hl, if_neg (fun q => hj q.symm)]
      · simp [Zws, hl]
  have fin : ∀ (H1 : Heap) (locs1 : List Loc), va_P (zD X) Zcl ((Zws (zad X) (zcA X) M).set o1 (zad X o1, Zce (zad X) (zcA X) (va_cpy (M o0) (M o1) sp.toNatClampNeg dp.toNatClampNeg n.toNatClampNeg) (Zsh o1))) H1 → va_S (zA X) (zs X).heap H1 locs1 → ZW X H1 locs1 (F0 (zm X) (pc + 3) ls (st.map (Ztr (zad X)))) := by
    intro H1 locs1 hP1 hS1
    have := kk (Zsuf_tl hsf) H1 locs1 ls (by unfold Zpic; rw [← hset _ rfl]; exact hP1) hS1 hl
    rw [← hx] at this
    exact this
  have hroom : ((st.map (Ztr (zad X))).map fun v => v.category).sum + (nativeFrameWords "java/lang/System" "arraycopy" 5 + 11) ≤ (zR X).locals := by
    rw [Zcat_tr]
    have : nativeFrameWords "java/lang/System" "arraycopy" 5 + 11 ≤ 32 := by decide +kernel
    omega
  rcases ha with rfl | rfl
  · refine va_copyi hX.1 rfl hl.1.symm hX.2.2.1 (g 0 _ rfl) (g 1 _ rfl) (g 2 _ rfl) (g 3 _ rfl) hX.2.2.2.2.1 hP (hX.D M) hS o0 o1 0 0 (c0 := zcA X 0) (c1 := zcA X 0) (n0 := n0) (n1 := n1) (f := M o0) (g := M o1) (ty := .int) (by rw [Zws_at h0, hs0]; rfl) (by rw [Zws_at h1, hs1]; rfl) rfl rfl rfl hsp hdp hn hn0 hn1 (fun j _ => rfl) (by omega) hroom hd (fun H1 locs1 hP1 _ hS1 => fin H1 locs1 ?_ hS1)
    rw [hs1]
    exact hP1
  · refine va_copyi hX.1 rfl hl.1.symm hX.2.2.1 (g 0 _ rfl) (g 1 _ rfl) (g 2 _ rfl) (g 3 _ rfl) hX.2.2.2.2.1 hP (hX.D M) hS o0 o1 1 1 (c0 := zcA X 1) (c1 := zcA X 1) (n0 := n0) (n1 := n1) (f := M o0) (g := M o1) (ty := .byte) (by rw [Zws_at h0, hs0]; rfl) (by rw [Zws_at h1, hs1]; rfl) rfl rfl rfl hsp hdp hn hn0 hn1 (hby rfl) (by omega) hroom hd (fun H1 locs1 hP1 _ hS1 => fin H1 locs1 ?_ hS1)
    rw [hs1]
    exact hP1
-- locals forgotten
theorem Zs_sub {l' : List (Nat × Value)} (h0 : l'.map (fun q => Zget l q.1) = l'.map (fun q => some q.2)) (kk : ZP X tab cs l' st M) : ZP X tab cs l st M := by
  intro hsf H locs ls hP hS hl
  refine kk hsf H locs ls hP hS ⟨hl.1, hl.2.1, fun q hq => ?_⟩
  obtain ⟨p, hp, rfl⟩ := List.mem_map.mp hq
  exact hl.2.2 _ (List.mem_map.mpr ⟨p, Zget_in (List.map_inj_left.mp h0 p hp), rfl⟩)
end ZR

-- returns
def ZE (X : Zx) (k : Nat) (Post : Option Value → Zmem → Prop) : Prop :=
  (∀ (v : Int32) (M' : Zmem), ((Zmt k).2.2.2 = some .int ∨ ((Zmt k).2.2.2 = some .boolean ∧ (v = 0 ∨ v = 1))) → Post (some (.int v)) M' → ∀ (pc : Nat) (H : Heap) (locs : List Loc) (ls : Array Slot), decode (zc X).code pc = .ok (.ireturn, 1) → Zpic X M' H → va_S (zA X) (zs X).heap H locs → ZW X H locs (F0 (zm X) pc ls [.int v])) ∧
  ((Zmt k).2.2.2 = none → ∀ M' : Zmem, Post none M' → ∀ (pc : Nat) (H : Heap) (locs : List Loc) (ls : Array Slot), decode (zc X).code pc = .ok (.return_, 1) → Zpic X M' H → va_S (zA X) (zs X).heap H locs → ZW X H locs (F0 (zm X) pc ls []))
section ZRR
variable {X : Zx} {k fr : Nat} {tab cs : List Zent} {l : List (Nat × Value)} {M : Zmem} {Post : Option Value → Zmem → Prop} {pc len r1 r2 : Nat} {hs : List Nat}
theorem Zs_ret {v : Int32} (hX : ZOK X k fr tab) (hE : ZE X k Post) (hr : (Zmt k).2.2.2 = some .int) (hp : Post (some (.int v)) M) : ZP X tab ((pc, len, .ireturn, r1, r2, hs) :: cs) l [.int v] M := by
  intro hsf H locs ls hP hS hl
  have hd := hX.dec hsf
  have hle : len = 1 := by have h := hX.ls hsf; simpa [Zls, Zlen] using h
  subst hle
  exact hE.1 v M (Or.inl hr) hp pc H locs ls hd hP hS
theorem Zs_retz {v : Int32} (hX : ZOK X k fr tab) (hE : ZE X k Post) (hr : (Zmt k).2.2.2 = some .boolean) (hv : v = 0 ∨ v = 1) (hp : Post (some (.int v)) M) : ZP X tab ((pc, len, .ireturn, r1, r2, hs) :: cs) l [.int v] M := by
  intro hsf H locs ls hP hS hl
  have hd := hX.dec hsf
  have hle : len = 1 := by have h := hX.ls hsf; simpa [Zls, Zlen] using h
  subst hle
  exact hE.1 v M (Or.inr ⟨hr, hv⟩) hp pc H locs ls hd hP hS
theorem Zs_retv (hX : ZOK X k fr tab) (hE : ZE X k Post) (hr : (Zmt k).2.2.2 = none) (hp : Post none M) : ZP X tab ((pc, len, .return_, r1, r2, hs) :: cs) l [] M := by
  intro hsf H locs ls hP hS hl
  have hd := hX.dec hsf
  have hle : len = 1 := by have h := hX.ls hsf; simpa [Zls, Zlen] using h
  subst hle
  exact hE.2 hr M hp pc H locs ls hd hP hS
end ZRR
theorem Zargs_tr (ad : Nat → Nat) : ∀ (as : List Value) (n : Nat), lv_args n (as.map (Ztr ad)) = (lv_args n as).map (Zl ad) := by
  intro as
  induction as with
  | nil => intro n; rfl
  | cons a as ih =>
    intro n
    simp only [List.map_cons, lv_args, Ztr_cat, ih, Zl]
theorem Zsl_tr (ad : Nat → Nat) : ∀ as : List Value, (lg_sl (as.map (Ztr ad))).length = (lg_sl as).length := by
  intro as
  induction as with
  | nil => rfl
  | cons a as ih =>
    cases a <;> simp_all [lg_sl, Ztr, Value.category]
theorem Zmet {l : Launch} {y : MethodName} {ws ws' : List Cond} {rm : Room} {Pc : Array Value → State → Prop} {Qc : Array Value → State → Outcome → State → Prop} {mc ms : Nat} {free : Addr → Prop} {cc : ByteArray} {maxL : Nat} {ret : Option FieldType}
    (hy : plainFor y = true) (hw : ws = Cond.code y cc maxL ret :: ws')
    (body : ∀ p e s m args below meth c s₁, BodyLoose p l y (headSpec ws rm) cc maxL ret e s m args below meth c s₁ → c.maxLocals = maxL → Pc args s →
      W p l e (headSpec ws rm).room s m args below meth c s.heap [] 0 0 (MQ below Qc args s mc ms free) (entryFrame m args maxL)) : Met l y ws rm Pc Qc mc ms free := by
  refine MetFree.of_bodyRF (code := cc) (maxLocals := maxL) (ret := ret) hy ?_ ?_
  · intro args s m h hn
    obtain ⟨meth, c, h1, h2, h3, h4, h5, h6, -, -⟩ := Cond.code_spec hn (atoms_spec (ws := ws) h _ (by rw [hw]; exact List.mem_cons_self))
    exact ⟨meth, c, h1, h2, h3, h4, h5, h6⟩
  · intro p e s m args below meth c s₁ B hml hP _ hst
    have hh0 : s₁.heap = s.heap := by rw [B.state]; rfl
    obtain ⟨t, a1, o, b1, b2, b3⟩ := body p e s m args below meth c s₁ B hml hP s₁ hh0 (Stand.of_body B)
    exact ⟨t, o, hst.trans a1, b1, b2, ⟨b3.1, b3.2⟩⟩
theorem ZmtP_ok : ∀ k, k < ZmtL.length → plainFor (Zmt k).1 = true := by decide +kernel
theorem ZC_of {k fr : Nat} {as : List Value} {M : Zmem} {Post : Option Value → Zmem → Prop} (tab : List Zent) (hk : Zchk k tab) (hsl : (lg_sl as).length ≤ (Zmt k).2.2.1) (hpl : k < ZmtL.length) (hpc : Zpc tab = 0)
    (h : ∀ X : Zx, ZOK X k fr tab → ZE X k Post → ZP X tab tab (lv_args 0 as) [] M) : ZC k fr as M Post := by
  intro l D ad cA sc sz
  refine Zmet (cc := (Zmt k).2.1) (maxL := (Zmt k).2.2.1) (ret := (Zmt k).2.2.2) (ZmtP_ok k hpl) rfl ?_
  intro p e s m args below meth c s₁ B hml hv
  obtain ⟨rfl, hsz, hP, hK, hi, ⟨ho, hz⟩, hn⟩ := hv
  have hts := atoms_spec (ws := .code (Zmt k).1 (Zmt k).2.1 (Zmt k).2.2.1 (Zmt k).2.2.2 :: Ztg) B.pre
  have hown : s.vm.findClass (Zmt k).1.cls = some m.cls := findClass_of_methodNamed B.named
  have hlocks := B.notSynchronized
  have hr := B.returns
  have key := h (p, l, e, Zrm fr, s, m, (as.map (Ztr ad)).toArray, below, meth, c, D, ad, cA, ZAA ad sz, sc, 0, 0, MQ below (ZQF D ad cA Post (ZAA ad sz)) (as.map (Ztr ad)).toArray s 0 0 (ZAA ad sz)) ?_ ?_
  · have hl := lv_entry (as.map (Ztr ad)) (n := (Zmt k).2.2.1) (by rw [Zsl_tr]; exact hsl)
    rw [lg_entry_eq]
    have h2 := key ⟨[], rfl⟩ s.heap [] _ hP va_S.rf (by rw [← Zargs_tr]; show lv_has _ c.maxLocals _; rw [hml]; exact hl)
    rw [hpc] at h2
    exact h2
  · refine ⟨B.exec, B.bytes, hown, fun w hw => hts w (List.mem_cons_of_mem _ hw), hK, ⟨hi, fun i h => Or.inl ⟨i, h, rfl⟩⟩, fun q hq => Or.inr (by rw [← hsz]; exact hq), ⟨fun o q hq => ?_, fun o q hq => ?_⟩, hn, hk, ⟨Nat.le_refl _, Nat.le_refl _⟩, hml, ⟨Nat.le_refl _, Nat.le_refl _⟩⟩
    · obtain ⟨h1, h2⟩ := ho o q hq
      refine ⟨h1, ?_⟩
      rintro (h3 | h3)
      · exact h2 h3
      · have := h1.lt
        rw [hsz] at this
        exact absurd h3 (Nat.not_le.mpr this)
    · obtain ⟨cf, kf, fi, f, a, cell, h1, h2, h3, h4, h5, h6, h7, h8⟩ := hz o q hq
      refine ⟨cf, kf, fi, f, a, cell, h1, h2, h3, h4, h5, h6, h7, ?_⟩
      rintro (h9 | h9)
      · exact h8 h9
      · have := (Array.getElem?_eq_some_iff.mp h5).1
        rw [hsz] at this
        exact absurd h9 (Nat.not_le.mpr this)
  · refine ⟨fun v M' hret hp pc H locs ls hd hP hS => ?_, fun hret M' hp pc H locs ls hd hP hS => ?_⟩
    · have hq : ∀ t : State, t.heap = H → s.WarmedH t.vm → ZQF D ad cA Post (ZAA ad sz) (as.map (Ztr ad)).toArray s (.returned (some (.int v))) t := fun t ht hW => ⟨⟨some (.int v), M', rfl, Or.inr ⟨v, rfl⟩, hp, by rw [ht]; exact hP⟩, hS.F ht⟩
      rcases hret with hret | ⟨hret, hv⟩
      · exact W.iret (v := v) B.exec rfl (by show meth.sig.returnType = _; rw [hr, hret]) hq hS.2.2 hd hlocks
      · exact W.zret (v := v) (ty := .boolean) B.exec rfl (by show meth.sig.returnType = _; rw [hr, hret]) (by rcases hv with rfl | rfl <;> rfl) hq hS.2.2 hd hlocks
    · exact W.vret B.exec rfl (by show meth.sig.returnType = _; rw [hr, hret]) (fun t ht hW => ⟨⟨none, M', rfl, Or.inl rfl, hp, by rw [ht]; exact hP⟩, hS.F ht⟩) hS.2.2 hd hlocks
-- many straight instructions at once
def Zpk (r1 r2 : Nat) (l : List (Nat × Value)) (st : List Value) (M : Zmem) : Option (Option Prop × List (Nat × Value) × List Value × Zmem) := match r2 with
  | 0 => some (none, l, .int (nI r1) :: st, M)
  | _ => some (none, l, .int (-(nI r1)) :: st, M)
def Zld (r1 : Nat) (l : List (Nat × Value)) (st : List Value) (M : Zmem) : Option (Option Prop × List (Nat × Value) × List Value × Zmem) := match Zget l r1 with
  | some (.int x) => some (none, l, .int x :: st, M)
  | _ => none
def Zla (r1 : Nat) (l : List (Nat × Value)) (st : List Value) (M : Zmem) : Option (Option Prop × List (Nat × Value) × List Value × Zmem) := match Zget l r1 with
  | some (.ref o) => some (none, l, .ref o :: st, M)
  | _ => none
def Zsi (r1 : Nat) (l : List (Nat × Value)) (st : List Value) (M : Zmem) : Option (Option Prop × List (Nat × Value) × List Value × Zmem) := match st with
  | .int x :: st => some (none, Zset l r1 (.int x), st, M)
  | _ => none
def Zsa (r1 : Nat) (l : List (Nat × Value)) (st : List Value) (M : Zmem) : Option (Option Prop × List (Nat × Value) × List Value × Zmem) := match st with
  | .ref x :: st => some (none, Zset l r1 (.ref x), st, M)
  | _ => none
def Znth {α : Type} : List α → Nat → Option α
  | [], _ => none
  | a :: _, 0 => some a
  | _ :: r, n + 1 => Znth r n
theorem Znth_eq {α : Type} : ∀ (l : List α) (n : Nat), Znth l n = l[n]? := by
  intro l
  induction l with
  | nil => intro n; cases n <;> rfl
  | cons a r ih => intro n; cases n with
    | zero => rfl
    | succ n => simp [Znth, ih]
def Zgf (r1 r2 : Nat) (l : List (Nat × Value)) (st : List Value) (M : Zmem) : Option (Option Prop × List (Nat × Value) × List Value × Zmem) := match st with
  | .ref o :: st => (match Nat.blt o Zno, Zsh o with
    | true, (4, ci, fs) => (match Nat.beq ci r1, Znth fs r2 with
      | true, some (0, _) => some (none, l, .int (M o r2) :: st, M)
      | true, some (1, _) => some (none, l, .int (M o r2) :: st, M)
      | true, some (2, j) => some (none, l, .ref j :: st, M)
      | _, _ => none)
    | _, _ => none)
  | _ => none
def Zpf (r1 r2 : Nat) (l : List (Nat × Value)) (st : List Value) (M : Zmem) : Option (Option Prop × List (Nat × Value) × List Value × Zmem) := match st with
  | .int x :: .ref o :: st => (match Nat.blt o Zno, Zsh o with
    | true, (4, ci, fs) => (match Nat.beq ci r1, Znth fs r2 with
      | true, some (0, _) => some (none, l, st, Zu M o r2 x)
      | true, some (1, _) => some (some (x = nI 0 ∨ x = nI 1), l, st, Zu M o r2 x)
      | _, _ => none)
    | _, _ => none)
  | _ => none
def Zal (t : FieldType) (sc : Nat × (Nat → Int32)) (l : List (Nat × Value)) (st : List Value) (M : Zmem) : Option (Option Prop × List (Nat × Value) × List Value × Zmem) := match st with
  | .int i :: .ref o :: st => (match t, Zar sc M o with
    | .int, some (.int, n, f) => some (some (vp_in i n), l, .int (f i.toNatClampNeg) :: st, M)
    | .byte, some (.byte, n, f) => (match Nat.blt o Zno with
      | true => some (some (vp_in i n), l, .int (f i.toNatClampNeg) :: st, M)
      | false => none)
    | .char, some (.char, n, f) => (match Nat.blt o Zno with
      | false => some (some (vp_in i n), l, .int (f i.toNatClampNeg) :: st, M)
      | true => none)
    | _, _ => none)
  | _ => none
def Zas (b : Bool) (l : List (Nat × Value)) (st : List Value) (M : Zmem) : Option (Option Prop × List (Nat × Value) × List Value × Zmem) := match st with
  | .int x :: .int i :: .ref o :: st => (match b, Nat.blt o Zno, Zsh o with
    | true, true, (0, n, _) => some (some (vp_in i n), l, st, Zu M o i.toNatClampNeg x)
    | false, true, (1, n, _) => some (some (vp_in i n), l, st, Zu M o i.toNatClampNeg (vp_nar .byte x))
    | _, _, _ => none)
  | _ => none
def Zpst (sc : Nat × (Nat → Int32)) (e : Zent) (l : List (Nat × Value)) (st : List Value) (M : Zmem) : Option (Option Prop × List (Nat × Value) × List Value × Zmem) := match e with
  | (_, _, ins, r1, r2, hs) => (match ins with
    | .iconst _ => Zpk r1 r2 l st M
    | .bipush _ => Zpk r1 r2 l st M
    | .sipush _ => Zpk r1 r2 l st M
    | .ldc _ => Zpk r1 r2 l st M
    | .ldc_w _ => Zpk r1 r2 l st M
    | .ldc2_w _ => some (none, l, .long (lN r1) :: st, M)
    | .iload _ => Zld r1 l st M
    | .iload_n _ => Zld r1 l st M
    | .aload _ => Zla r1 l st M
    | .aload_n _ => Zla r1 l st M
    | .lload_n _ => (match Zget l r1 with
      | some (.long x) => some (none, l, .long x :: st, M)
      | _ => none)
    | .istore _ => Zsi r1 l st M
    | .istore_n _ => Zsi r1 l st M
    | .astore _ => Zsa r1 l st M
    | .astore_n _ => Zsa r1 l st M
    | .iinc i _ => (match hs, r2 with
      | [j], 0 => (match Nat.beq i j, Zget l j with
        | true, some (.int x) => some (none, Zset l j (.int (x + nI r1)), st, M)
        | _, _ => none)
      | [j], 1 => (match Nat.beq i j, Zget l j with
        | true, some (.int x) => some (none, Zset l j (.int (x + -(nI r1))), st, M)
        | _, _ => none)
      | _, _ => none)
    | .iadd => (match st with
      | .int y :: .int x :: st => some (none, l, .int (x + y) :: st, M)
      | _ => none)
    | .isub => (match st with
      | .int y :: .int x :: st => some (none, l, .int (x - y) :: st, M)
      | _ => none)
    | .imul => (match st with
      | .int y :: .int x :: st => some (none, l, .int (x * y) :: st, M)
      | _ => none)
    | .iand => (match st with
      | .int y :: .int x :: st => some (none, l, .int (x &&& y) :: st, M)
      | _ => none)
    | .ior => (match st with
      | .int y :: .int x :: st => some (none, l, .int (x ||| y) :: st, M)
      | _ => none)
    | .ixor => (match st with
      | .int y :: .int x :: st => some (none, l, .int (x ^^^ y) :: st, M)
      | _ => none)
    | .ishl => (match st with
      | .int y :: .int x :: st => some (none, l, .int (x <<< (y &&& 31)) :: st, M)
      | _ => none)
    | .ishr => (match st with
      | .int y :: .int x :: st => some (none, l, .int (x >>> (y &&& 31)) :: st, M)
      | _ => none)
    | .iushr => (match st with
      | .int y :: .int x :: st => some (none, l, .int ((x.toUInt32 >>> (y.toUInt32 &&& Int32.toUInt32 31)).toInt32) :: st, M)
      | _ => none)
    | .idiv => (match st with
      | .int y :: .int x :: st => some (some (¬ y = nI 0), l, .int (x / y) :: st, M)
      | _ => none)
    | .irem => (match st with
      | .int y :: .int x :: st => some (some (¬ y = nI 0), l, .int (x - x / y * y) :: st, M)
      | _ => none)
    | .ineg => (match st with
      | .int x :: st => some (none, l, .int (-x) :: st, M)
      | _ => none)
    | .i2b => (match st with
      | .int x :: st => some (none, l, .int x.toInt8.toInt32 :: st, M)
      | _ => none)
    | .i2s => (match st with
      | .int x :: st => some (none, l, .int x.toInt16.toInt32 :: st, M)
      | _ => none)
    | .i2l => (match st with
      | .int x :: st => some (none, l, .long x.toInt64 :: st, M)
      | _ => none)
    | .l2i => (match st with
      | .long x :: st => some (none, l, .int x.toInt32 :: st, M)
      | _ => none)
    | .land => (match st with
      | .long y :: .long x :: st => some (none, l, .long (x &&& y) :: st, M)
      | _ => none)
    | .lor => (match st with
      | .long y :: .long x :: st => some (none, l, .long (x ||| y) :: st, M)
      | _ => none)
    | .lshl => (match st with
      | .int y :: .long x :: st => some (none, l, .long (x <<< (y.toInt64 &&& 63)) :: st, M)
      | _ => none)
    | .lshr => (match st with
      | .int y :: .long x :: st => some (none, l, .long (x >>> (y.toInt64 &&& 63)) :: st, M)
      | _ => none)
    | .lushr => (match st with
      | .int y :: .long x :: st => some (none, l, .long (x.toUInt64 >>> (y.toInt64.toUInt64 &&& Int64.toUInt64 63)).toInt64 :: st, M)
      | _ => none)
    | .dup => (match st with
      | v :: st => (match Zone v with
        | true => some (none, l, v :: v :: st, M)
        | false => none)
      | _ => none)
    | .dup2 => (match st with
      | v :: w :: st => (match Zone v, Zone w with
        | true, true => some (none, l, v :: w :: v :: w :: st, M)
        | _, _ => none)
      | _ => none)
    | .pop => (match st with
      | v :: st => (match Zone v with
        | true => some (none, l, st, M)
        | false => none)
      | _ => none)
    | .getfield _ => Zgf r1 r2 l st M
    | .putfield _ => Zpf r1 r2 l st M
    | .iaload => Zal .int sc l st M
    | .baload => Zal .byte sc l st M
    | .caload => Zal .char sc l st M
    | .iastore => Zas true l st M
    | .bastore => Zas false l st M
    | .arraylength => (match st with
      | .ref o :: st => (match Zar sc M o with
        | some (_, n, _) => some (none, l, .int (nI n) :: st, M)
        | none => none)
      | _ => none)
    | .getstatic _ => (match ZstL r1 with
      | some _ => some (none, l, .ref r1 :: st, M)
      | none => none)
    | .ifnull _ => (match st with
      | .ref _ :: st => some (none, l, st, M)
      | _ => none)
    | _ => none)
def Zop : Option Prop → Prop
  | none => True
  | some P => P
section ZT
variable {X : Zx} {k fr : Nat} {tab cs : List Zent} {l l' : List (Nat × Value)} {st st' : List Value} {M M' : Zmem} {pc len r1 r2 : Nat} {hs : List Nat} {ins : Instr} {P : Option Prop}
theorem Zpk_ok (hX : ZOK X k fr tab) (hne : cs ≠ []) (hi : (∃ n, ins = .iconst n) ∨ (∃ n, ins = .bipush n) ∨ (∃ n, ins = .sipush n) ∨ (∃ n, ins = .ldc n) ∨ ∃ n, ins = .ldc_w n) (h : Zpk r1 r2 l st M = some (P, l', st', M')) (kk : ZP X tab cs l' st' M') : ZP X tab ((pc, len, ins, r1, r2, hs) :: cs) l st M := by
  unfold Zpk at h
  split at h <;> simp only [Option.some.injEq, Prod.mk.injEq] at h <;> obtain ⟨-, rfl, rfl, rfl⟩ := h
  · exact Zs_const hX hne rfl hi kk
  · refine Zs_const hX hne ?_ hi kk
    cases r2 with
    | zero => contradiction
    | succ n => rfl
theorem Zld_ok (hX : ZOK X k fr tab) (hne : cs ≠ []) (hi : (∃ n, ins = .iload n) ∨ ∃ n, ins = .iload_n n) (h : Zld r1 l st M = some (P, l', st', M')) (kk : ZP X tab cs l' st' M') : ZP X tab ((pc, len, ins, r1, r2, hs) :: cs) l st M := by
  unfold Zld at h
  split at h
  · rename_i x hg
    simp only [Option.some.injEq, Prod.mk.injEq] at h
    obtain ⟨-, rfl, rfl, rfl⟩ := h
    exact Zs_iload hX hne hi hg kk
  · cases h
theorem Zla_ok (hX : ZOK X k fr tab) (hne : cs ≠ []) (hi : (∃ n, ins = .aload n) ∨ ∃ n, ins = .aload_n n) (h : Zla r1 l st M = some (P, l', st', M')) (kk : ZP X tab cs l' st' M') : ZP X tab ((pc, len, ins, r1, r2, hs) :: cs) l st M := by
  unfold Zla at h
  split at h
  · rename_i x hg
    simp only [Option.some.injEq, Prod.mk.injEq] at h
    obtain ⟨-, rfl, rfl, rfl⟩ := h
    exact Zs_aload hX hne hi hg kk
  · cases h
theorem Zsi_ok (hX : ZOK X k fr tab) (hne : cs ≠ []) (hi : (∃ n, ins = .istore n) ∨ ∃ n, ins = .istore_n n) (h : Zsi r1 l st M = some (P, l', st', M')) (kk : ZP X tab cs l' st' M') : ZP X tab ((pc, len, ins, r1, r2, hs) :: cs) l st M := by
  unfold Zsi at h
  split at h
  · simp only [Option.some.injEq, Prod.mk.injEq] at h
    obtain ⟨-, rfl, rfl, rfl⟩ := h
    exact Zs_istore hX hne hi kk
  · cases h
theorem Zsa_ok (hX : ZOK X k fr tab) (hne : cs ≠ []) (hi : (∃ n, ins = .astore n) ∨ ∃ n, ins = .astore_n n) (h : Zsa r1 l st M = some (P, l', st', M')) (kk : ZP X tab cs l' st' M') : ZP X tab ((pc, len, ins, r1, r2, hs) :: cs) l st M := by
  unfold Zsa at h
  split at h
  · simp only [Option.some.injEq, Prod.mk.injEq] at h
    obtain ⟨-, rfl, rfl, rfl⟩ := h
    exact Zs_astore hX hne hi kk
  · cases h
theorem Zblt {a b : Nat} (h : Nat.blt a b = true) : a < b := by rw [Nat.blt_eq] at h; exact h
theorem Zblf {a b : Nat} (h : Nat.blt a b = false) : ¬ a < b := fun q => by
  have : Nat.blt a b = true := by rw [Nat.blt_eq]; exact q
  rw [h] at this
  cases this
theorem Zgf_ok {i : Nat} (hX : ZOK X k fr tab) (hne : cs ≠ []) (h : Zgf r1 r2 l st M = some (P, l', st', M')) (kk : ZP X tab cs l' st' M') : ZP X tab ((pc, len, .getfield i, r1, r2, hs) :: cs) l st M := by
  unfold Zgf at h
  split at h
  · rename_i o st
    split at h
    · rename_i ci fs hb hsh
      split at h
      · rename_i h1 h2
        simp only [Option.some.injEq, Prod.mk.injEq] at h
        obtain ⟨-, rfl, rfl, rfl⟩ := h
        have e := Nat.eq_of_beq_eq_true h1
        subst e
        exact Zs_getf hX hne (Zblt hb) hsh (by rw [← Znth_eq]; exact h2) rfl kk
      · rename_i h1 h2
        simp only [Option.some.injEq, Prod.mk.injEq] at h
        obtain ⟨-, rfl, rfl, rfl⟩ := h
        have e := Nat.eq_of_beq_eq_true h1
        subst e
        exact Zs_getf hX hne (Zblt hb) hsh (by rw [← Znth_eq]; exact h2) rfl kk
      · rename_i h1 h2
        simp only [Option.some.injEq, Prod.mk.injEq] at h
        obtain ⟨-, rfl, rfl, rfl⟩ := h
        have e := Nat.eq_of_beq_eq_true h1
        subst e
        exact Zs_getf hX hne (Zblt hb) hsh (by rw [← Znth_eq]; exact h2) rfl kk
      · cases h
    · cases h
  · cases h
theorem Zpf_ok {i : Nat} (hX : ZOK X k fr tab) (hne : cs ≠ []) (h : Zpf r1 r2 l st M = some (P, l', st', M')) (hP : Zop P) (kk : ZP X tab cs l' st' M') : ZP X tab ((pc, len, .putfield i, r1, r2, hs) :: cs) l st M := by
  unfold Zpf at h
  split at h
  · rename_i x o st
    split at h
    · rename_i ci fs hb hsh
      split at h
      · rename_i h1 h2
        simp only [Option.some.injEq, Prod.mk.injEq] at h
        obtain ⟨-, rfl, rfl, rfl⟩ := h
        have e := Nat.eq_of_beq_eq_true h1
        subst e
        rw [Znth_eq] at h2
        exact Zs_putf hX hne (Zblt hb) hsh h2 rfl (fun q hq => ⟨.int, by rw [Zsh_ty (Zblt hb) hsh h2 hq rfl]; rfl, rfl, rfl⟩) kk
      · rename_i h1 h2
        simp only [Option.some.injEq, Prod.mk.injEq] at h
        obtain ⟨rfl, rfl, rfl, rfl⟩ := h
        have e := Nat.eq_of_beq_eq_true h1
        subst e
        rw [Znth_eq] at h2
        refine Zs_putf hX hne (Zblt hb) hsh h2 rfl (fun q hq => ⟨.boolean, by rw [Zsh_tz (Zblt hb) hsh h2 hq rfl]; rfl, ?_⟩) kk
        rcases hP with rfl | rfl <;> exact ⟨rfl, rfl⟩
      · cases h
    · cases h
  · cases h
theorem Zal_ok {t : FieldType} (hX : ZOK X k fr tab) (hne : cs ≠ []) (hi : (ins = .iaload ∧ t = .int) ∨ (ins = .baload ∧ t = .byte) ∨ (ins = .caload ∧ t = .char)) (h : Zal t (zsc X) l st M = some (P, l', st', M')) (hP : Zop P) (kk : ZP X tab cs l' st' M') : ZP X tab ((pc, len, ins, r1, r2, hs) :: cs) l st M := by
  unfold Zal at h
  split at h
  · rename_i i o st
    rcases hi with ⟨rfl, rfl⟩ | ⟨rfl, rfl⟩ | ⟨rfl, rfl⟩
    · try simp only [] at h
      split at h
      · rename_i ha
        simp only [Option.some.injEq, Prod.mk.injEq] at h
        obtain ⟨rfl, rfl, rfl, rfl⟩ := h
        exact Zs_iald hX hne ha hP kk
      · contradiction
      · contradiction
      · cases h
    · split at h
      · contradiction
      · rename_i ha
        split at h
        · rename_i hb
          simp only [Option.some.injEq, Prod.mk.injEq] at h
          obtain ⟨rfl, rfl, rfl, rfl⟩ := h
          exact Zs_bald hX hne (Zblt hb) ha hP kk
        · cases h
      · contradiction
      · cases h
    · split at h
      · contradiction
      · contradiction
      · rename_i ha
        split at h
        · rename_i hb
          simp only [Option.some.injEq, Prod.mk.injEq] at h
          obtain ⟨rfl, rfl, rfl, rfl⟩ := h
          exact Zs_cald hX hne (Zblf hb) ha hP kk
        · cases h
      · cases h
  · cases h
theorem Zas_ok {b : Bool} (hX : ZOK X k fr tab) (hne : cs ≠ []) (hi : (ins = .iastore ∧ b = true) ∨ (ins = .bastore ∧ b = false)) (h : Zas b l st M = some (P, l', st', M')) (hP : Zop P) (kk : ZP X tab cs l' st' M') : ZP X tab ((pc, len, ins, r1, r2, hs) :: cs) l st M := by
  unfold Zas at h
  split at h
  · rename_i x i o st
    split at h
    · rename_i hb hsh
      simp only [Option.some.injEq, Prod.mk.injEq] at h
      obtain ⟨rfl, rfl, rfl, rfl⟩ := h
      rcases hi with ⟨rfl, hi⟩ | ⟨rfl, hi⟩
      · exact Zs_iast hX hne (Zblt hb) hsh hP kk
      · cases hi
    · rename_i hb hsh
      simp only [Option.some.injEq, Prod.mk.injEq] at h
      obtain ⟨rfl, rfl, rfl, rfl⟩ := h
      rcases hi with ⟨rfl, hi⟩ | ⟨rfl, hi⟩
      · cases hi
      · exact Zs_bast hX hne (Zblt hb) hsh hP kk
    · cases h
  · cases h
set_option maxHeartbeats 4000000 in
theorem Zpst_ok (hX : ZOK X k fr tab) (hne : cs ≠ []) {e : Zent} (h : Zpst (zsc X) e l st M = some (P, l', st', M')) (hP : Zop P) (kk : ZP X tab cs l' st' M') : ZP X tab (e :: cs) l st M := by
  obtain ⟨pc, len, ins, r1, r2, hs⟩ := e
  unfold Zpst at h
  simp only [] at h
  split at h
  · exact Zpk_ok hX hne (Or.inl ⟨_, rfl⟩) h kk
  · exact Zpk_ok hX hne (Or.inr (Or.inl ⟨_, rfl⟩)) h kk
  · exact Zpk_ok hX hne (Or.inr (Or.inr (Or.inl ⟨_, rfl⟩))) h kk
  · exact Zpk_ok hX hne (Or.inr (Or.inr (Or.inr (Or.inl ⟨_, rfl⟩)))) h kk
  · exact Zpk_ok hX hne (Or.inr (Or.inr (Or.inr (Or.inr ⟨_, rfl⟩)))) h kk
  · simp only [Option.some.injEq, Prod.mk.injEq] at h
    obtain ⟨-, rfl, rfl, rfl⟩ := h
    exact Zs_ldc2 hX hne kk
  · exact Zld_ok hX hne (Or.inl ⟨_, rfl⟩) h kk
  · exact Zld_ok hX hne (Or.inr ⟨_, rfl⟩) h kk
  · exact Zla_ok hX hne (Or.inl ⟨_, rfl⟩) h kk
  · exact Zla_ok hX hne (Or.inr ⟨_, rfl⟩) h kk
  · split at h
    · rename_i hg
      simp only [Option.some.injEq, Prod.mk.injEq] at h
      obtain ⟨-, rfl, rfl, rfl⟩ := h
      exact Zs_lload hX hne hg kk
    · cases h
  · exact Zsi_ok hX hne (Or.inl ⟨_, rfl⟩) h kk
  · exact Zsi_ok hX hne (Or.inr ⟨_, rfl⟩) h kk
  · exact Zsa_ok hX hne (Or.inl ⟨_, rfl⟩) h kk
  · exact Zsa_ok hX hne (Or.inr ⟨_, rfl⟩) h kk
  · split at h
    · split at h
      · rename_i hb hg
        simp only [Option.some.injEq, Prod.mk.injEq] at h
        obtain ⟨-, rfl, rfl, rfl⟩ := h
        exact Zs_iinc hX hne (Nat.eq_of_beq_eq_true hb) rfl hg kk
      · cases h
    · split at h
      · rename_i hb hg
        simp only [Option.some.injEq, Prod.mk.injEq] at h
        obtain ⟨-, rfl, rfl, rfl⟩ := h
        exact Zs_iinc hX hne (Nat.eq_of_beq_eq_true hb) rfl hg kk
      · cases h
    · cases h
  · split at h
    · simp only [Option.some.injEq, Prod.mk.injEq] at h
      obtain ⟨-, rfl, rfl, rfl⟩ := h
      exact Zs_bin hX hne rfl kk
    · cases h
  · split at h
    · simp only [Option.some.injEq, Prod.mk.injEq] at h
      obtain ⟨-, rfl, rfl, rfl⟩ := h
      exact Zs_bin hX hne rfl kk
    · cases h
  · split at h
    · simp only [Option.some.injEq, Prod.mk.injEq] at h
      obtain ⟨-, rfl, rfl, rfl⟩ := h
      exact Zs_bin hX hne rfl kk
    · cases h
  · split at h
    · simp only [Option.some.injEq, Prod.mk.injEq] at h
      obtain ⟨-, rfl, rfl, rfl⟩ := h
      exact Zs_bin hX hne rfl kk
    · cases h
  · split at h
    · simp only [Option.some.injEq, Prod.mk.injEq] at h
      obtain ⟨-, rfl, rfl, rfl⟩ := h
      exact Zs_bin hX hne rfl kk
    · cases h
  · split at h
    · simp only [Option.some.injEq, Prod.mk.injEq] at h
      obtain ⟨-, rfl, rfl, rfl⟩ := h
      exact Zs_bin hX hne rfl kk
    · cases h
  · split at h
    · simp only [Option.some.injEq, Prod.mk.injEq] at h
      obtain ⟨-, rfl, rfl, rfl⟩ := h
      exact Zs_bin hX hne rfl kk
    · cases h
  · split at h
    · simp only [Option.some.injEq, Prod.mk.injEq] at h
      obtain ⟨-, rfl, rfl, rfl⟩ := h
      exact Zs_bin hX hne rfl kk
    · cases h
  · split at h
    · simp only [Option.some.injEq, Prod.mk.injEq] at h
      obtain ⟨-, rfl, rfl, rfl⟩ := h
      exact Zs_bin hX hne rfl kk
    · cases h
  · split at h
    · simp only [Option.some.injEq, Prod.mk.injEq] at h
      obtain ⟨rfl, rfl, rfl, rfl⟩ := h
      exact Zs_div hX hne hP kk
    · cases h
  · split at h
    · simp only [Option.some.injEq, Prod.mk.injEq] at h
      obtain ⟨rfl, rfl, rfl, rfl⟩ := h
      exact Zs_rem hX hne hP kk
    · cases h
  · split at h
    · simp only [Option.some.injEq, Prod.mk.injEq] at h
      obtain ⟨rfl, rfl, rfl, rfl⟩ := h
      exact Zs_neg hX hne kk
    · cases h
  · split at h
    · simp only [Option.some.injEq, Prod.mk.injEq] at h
      obtain ⟨rfl, rfl, rfl, rfl⟩ := h
      exact Zs_i2b hX hne kk
    · cases h
  · split at h
    · simp only [Option.some.injEq, Prod.mk.injEq] at h
      obtain ⟨rfl, rfl, rfl, rfl⟩ := h
      exact Zs_i2s hX hne kk
    · cases h
  · split at h
    · simp only [Option.some.injEq, Prod.mk.injEq] at h
      obtain ⟨rfl, rfl, rfl, rfl⟩ := h
      exact Zs_i2l hX hne kk
    · cases h
  · split at h
    · simp only [Option.some.injEq, Prod.mk.injEq] at h
      obtain ⟨rfl, rfl, rfl, rfl⟩ := h
      exact Zs_l2i hX hne kk
    · cases h
  · split at h
    · simp only [Option.some.injEq, Prod.mk.injEq] at h
      obtain ⟨rfl, rfl, rfl, rfl⟩ := h
      exact Zs_land hX hne kk
    · cases h
  · split at h
    · simp only [Option.some.injEq, Prod.mk.injEq] at h
      obtain ⟨rfl, rfl, rfl, rfl⟩ := h
      exact Zs_lor hX hne kk
    · cases h
  · split at h
    · simp only [Option.some.injEq, Prod.mk.injEq] at h
      obtain ⟨rfl, rfl, rfl, rfl⟩ := h
      exact Zs_lshl hX hne kk
    · cases h
  · split at h
    · simp only [Option.some.injEq, Prod.mk.injEq] at h
      obtain ⟨rfl, rfl, rfl, rfl⟩ := h
      exact Zs_lshr hX hne kk
    · cases h
  · split at h
    · simp only [Option.some.injEq, Prod.mk.injEq] at h
      obtain ⟨rfl, rfl, rfl, rfl⟩ := h
      exact Zs_lushr hX hne kk
    · cases h
  · split at h
    · split at h
      · rename_i hv
        simp only [Option.some.injEq, Prod.mk.injEq] at h
        obtain ⟨rfl, rfl, rfl, rfl⟩ := h
        exact Zs_dup hX hne hv kk
      · cases h
    · cases h
  · split at h
    · split at h
      · rename_i hv hw
        simp only [Option.some.injEq, Prod.mk.injEq] at h
        obtain ⟨rfl, rfl, rfl, rfl⟩ := h
        exact Zs_dup2 hX hne hv hw kk
      · cases h
    · cases h
  · split at h
    · split at h
      · rename_i hv
        simp only [Option.some.injEq, Prod.mk.injEq] at h
        obtain ⟨rfl, rfl, rfl, rfl⟩ := h
        exact Zs_pop hX hne hv kk
      · cases h
    · cases h
  · exact Zgf_ok hX hne h kk
  · exact Zpf_ok hX hne h hP kk
  · exact Zal_ok hX hne (Or.inl ⟨rfl, rfl⟩) h hP kk
  · exact Zal_ok hX hne (Or.inr (Or.inl ⟨rfl, rfl⟩)) h hP kk
  · exact Zal_ok hX hne (Or.inr (Or.inr ⟨rfl, rfl⟩)) h hP kk
  · exact Zas_ok hX hne (Or.inl ⟨rfl, rfl⟩) h hP kk
  · exact Zas_ok hX hne (Or.inr ⟨rfl, rfl⟩) h hP kk
  · split at h
    · split at h
      · rename_i ha
        simp only [Option.some.injEq, Prod.mk.injEq] at h
        obtain ⟨rfl, rfl, rfl, rfl⟩ := h
        exact Zs_alen hX hne ha kk
      · cases h
    · cases h
  · split at h
    · rename_i hq
      simp only [Option.some.injEq, Prod.mk.injEq] at h
      obtain ⟨rfl, rfl, rfl, rfl⟩ := h
      exact Zs_gets hX hne hq kk
    · cases h
  · split at h
    · simp only [Option.some.injEq, Prod.mk.injEq] at h
      obtain ⟨rfl, rfl, rfl, rfl⟩ := h
      exact Zs_ifnull hX hne kk
    · cases h
  · cases h
end ZT
def Zisg : Instr → Bool
  | .goto _ => true
  | _ => false
def Zps (sc : Nat × (Nat → Int32)) (tab : List Zent) : Nat → List Zent → List (Nat × Value) → List Value → Zmem → List Prop → Option (List Prop × List Zent × List (Nat × Value) × List Value × Zmem)
  | 0, cs, l, st, M, ps => some (ps, cs, l, st, M)
  | _ + 1, [], _, _, _, _ => none
  | n + 1, e :: cs, l, st, M, ps => match Zisg e.2.2.1 with
    | true => Zps sc tab n (Zsf tab e.2.2.2.1) l st M ps
    | false => match cs with
      | [] => none
      | f :: cs => match Zpst sc e l st M with
        | some (none, l', st', M') => Zps sc tab n (f :: cs) l' st' M' ps
        | some (some P, l', st', M') => Zps sc tab n (f :: cs) l' st' M' (P :: ps)
        | none => none
theorem Zall_cons {P : Prop} {ps : List Prop} (h : ZallP (P :: ps)) : P ∧ ZallP ps := by
  cases ps with
  | nil => exact ⟨h, trivial⟩
  | cons Q r => exact ⟨h.2, h.1⟩
theorem Zps_all {sc : Nat × (Nat → Int32)} {tab : List Zent} : ∀ (n : Nat) {cs cs' : List Zent} {l l' : List (Nat × Value)} {st st' : List Value} {M M' : Zmem} {ps ps' : List Prop}, Zps sc tab n cs l st M ps = some (ps', cs', l', st', M') → ZallP ps' → ZallP ps := by
  intro n
  induction n with
  | zero => intro cs cs' l l' st st' M M' ps ps' h hp; simp only [Zps, Option.some.injEq, Prod.mk.injEq] at h; rw [h.1]; exact hp
  | succ n ih =>
    intro cs cs' l l' st st' M M' ps ps' h hp
    cases cs with
    | nil => simp [Zps] at h
    | cons e cs =>
      simp only [Zps] at h
      split at h
      · exact ih h hp
      · split at h
        · cases h
        · split at h
          · exact ih h hp
          · exact (Zall_cons (ih h hp)).2
          · cases h
/-- n instructions on, with what they ask -/
theorem Zs_n {X : Zx} {k fr : Nat} {tab : List Zent} (hX : ZOK X k fr tab) : ∀ (n : Nat) {cs cs' : List Zent} {l l' : List (Nat × Value)} {st st' : List Value} {M M' : Zmem} {ps ps' : List Prop}, Zps (zsc X) tab n cs l st M ps = some (ps', cs', l', st', M') → ZallP ps' → ZP X tab cs' l' st' M' → ZP X tab cs l st M := by
  intro n
  induction n with
  | zero =>
    intro cs cs' l l' st st' M M' ps ps' h _ kk
    simp only [Zps, Option.some.injEq, Prod.mk.injEq] at h
    obtain ⟨-, rfl, rfl, rfl, rfl⟩ := h
    exact kk
  | succ n ih =>
    intro cs cs' l l' st st' M M' ps ps' h hp kk
    cases cs with
    | nil => simp [Zps] at h
    | cons e cs =>
      simp only [Zps] at h
      split at h
      · rename_i hg
        obtain ⟨pc, len, ins, r1, r2, hs⟩ := e
        cases ins <;> first | (exact Zs_goto hX (ih h hp kk)) | (simp [Zisg] at hg)
      · split at h
        · cases h
        · split at h
          · rename_i hq
            exact Zpst_ok hX (by simp) hq trivial (ih h hp kk)
          · rename_i hq
            exact Zpst_ok hX (by simp) hq (Zall_cons (Zps_all n h hp)).1 (ih h hp kk)
          · cases h
/-- n instructions on -/
theorem Zgo {X : Zx} {k fr : Nat} {tab cs cs' : List Zent} {l l' : List (Nat × Value)} {st st' : List Value} {M M' : Zmem} {ps : List Prop} (hX : ZOK X k fr tab) (n : Nat) (h : Zps (zsc X) tab n cs l st M [] = some (ps, cs', l', st', M')) (hp : ZallP ps) (kk : ZP X tab cs' l' st' M') : ZP X tab cs l st M := Zs_n hX n h hp kk
end
section
/-- KnitRiver.knit(III)I -/
def Zt1 : List Zent := [(0, 1, .iload_n 1, 1, 0, []),
  (1, 3, .invokestatic 62, 39, 0, []),
  (4, 3, .ifCond .eq (20), 24, 0, []),
  (7, 1, .iload_n 2, 2, 0, []),
  (8, 1, .iconst 1, 1, 0, []),
  (9, 2, .bipush 12, 12, 0, []),
  (11, 3, .invokestatic 66, 46, 0, []),
  (14, 3, .ifCond .eq (10), 24, 0, []),
  (17, 1, .iload_n 3, 3, 0, []),
  (18, 3, .invokestatic 70, 40, 0, []),
  (21, 3, .ifCond .ne (9), 30, 0, []),
  (24, 1, .aload_n 0, 0, 0, []),
  (25, 1, .iconst 1, 1, 0, []),
  (26, 3, .invokevirtual 73, 37, 0, []),
  (29, 1, .ireturn, 0, 0, []),
  (30, 1, .aload_n 0, 0, 0, []),
  (31, 3, .getfield 10, 0, 0, []),
  (34, 3, .getfield 77, 1, 5, []),
  (37, 2, .bipush 15, 15, 0, []),
  (39, 3, .if_icmp .lt (9), 48, 0, []),
  (42, 1, .aload_n 0, 0, 0, []),
  (43, 1, .iconst 4, 4, 0, []),
  (44, 3, .invokevirtual 73, 37, 0, []),
  (47, 1, .ireturn, 0, 0, []),
  (48, 1, .aload_n 0, 0, 0, []),
  (49, 3, .getfield 10, 0, 0, []),
  (52, 1, .iload_n 1, 1, 0, []),
  (53, 1, .iload_n 2, 2, 0, []),
  (54, 1, .iload_n 3, 3, 0, []),
  (55, 3, .invokevirtual 80, 169, 1, []),
  (58, 2, .istore 4, 4, 0, []),
  (60, 1, .aload_n 0, 0, 0, []),
  (61, 3, .getfield 10, 0, 0, []),
  (64, 3, .getfield 84, 1, 6, []),
  (67, 2, .iload 4, 4, 0, []),
  (69, 3, .if_icmp .ge (9), 78, 0, []),
  (72, 1, .aload_n 0, 0, 0, []),
  (73, 1, .iconst 3, 3, 0, []),
  (74, 3, .invokevirtual 73, 37, 0, []),
  (77, 1, .ireturn, 0, 0, []),
  (78, 1, .aload_n 0, 0, 0, []),
  (79, 3, .getfield 10, 0, 0, []),
  (82, 1, .iload_n 1, 1, 0, []),
  (83, 1, .iload_n 2, 2, 0, []),
  (84, 1, .iload_n 3, 3, 0, []),
  (85, 3, .invokevirtual 87, 168, 1, []),
  (88, 1, .aload_n 0, 0, 0, []),
  (89, 3, .getfield 10, 0, 0, []),
  (92, 1, .dup, 0, 0, []),
  (93, 3, .getfield 84, 1, 6, []),
  (96, 2, .iload 4, 4, 0, []),
  (98, 1, .isub, 0, 0, []),
  (99, 3, .putfield 84, 1, 6, []),
  (102, 2, .iload 4, 4, 0, []),
  (104, 1, .ireturn, 0, 0, [])]
set_option maxRecDepth 100000 in
theorem Zk1 : Zchk 1 Zt1 := ⟨by decide +kernel, by decide +kernel, Zat_in (hs := [439, 440, 129, 441, 442, 443, 129, 444, 445, 446, 129, 447, 448, 450, 129, 451, 0, 407, 198, 448, 450, 129, 451, 0, 407, 453, 454, 130, 456, 455, 407, 201, 448, 450, 129, 451, 0, 407, 488, 489, 130, 491, 490, 407, 201, 201]) rfl, Zan_in (hs := []) rfl⟩
/-- KnitRiver.rowIs(II)I -/
def Zt2 : List Zent := [(0, 1, .aload_n 0, 0, 0, []),
  (1, 1, .iload_n 1, 1, 0, []),
  (2, 3, .invokevirtual 91, 38, 0, []),
  (5, 3, .ifCond .ne (9), 14, 0, []),
  (8, 1, .aload_n 0, 0, 0, []),
  (9, 1, .iconst 1, 1, 0, []),
  (10, 3, .invokevirtual 73, 37, 0, []),
  (13, 1, .ireturn, 0, 0, []),
  (14, 1, .iload_n 2, 2, 0, []),
  (15, 45, .tableswitch (136) 0 7 #[45, 55, 65, 75, 85, 95, 104, 114], 0, 0, []),
  (60, 1, .aload_n 0, 0, 0, []),
  (61, 3, .getfield 10, 0, 0, []),
  (64, 3, .getfield 94, 1, 0, []),
  (67, 1, .iload_n 1, 1, 0, []),
  (68, 1, .iaload, 0, 0, []),
  (69, 1, .ireturn, 0, 0, []),
  (70, 1, .aload_n 0, 0, 0, []),
  (71, 3, .getfield 10, 0, 0, []),
  (74, 3, .getfield 97, 1, 1, []),
  (77, 1, .iload_n 1, 1, 0, []),
  (78, 1, .iaload, 0, 0, []),
  (79, 1, .ireturn, 0, 0, []),
  (80, 1, .aload_n 0, 0, 0, []),
  (81, 3, .getfield 10, 0, 0, []),
  (84, 3, .getfield 100, 1, 2, []),
  (87, 1, .iload_n 1, 1, 0, []),
  (88, 1, .iaload, 0, 0, []),
  (89, 1, .ireturn, 0, 0, []),
  (90, 1, .aload_n 0, 0, 0, []),
  (91, 3, .getfield 10, 0, 0, []),
  (94, 3, .getfield 103, 1, 3, []),
  (97, 1, .iload_n 1, 1, 0, []),
  (98, 1, .iaload, 0, 0, []),
  (99, 1, .ireturn, 0, 0, []),
  (100, 1, .aload_n 0, 0, 0, []),
  (101, 3, .getfield 10, 0, 0, []),
  (104, 3, .getfield 106, 1, 4, []),
  (107, 1, .iload_n 1, 1, 0, []),
  (108, 1, .iaload, 0, 0, []),
  (109, 1, .ireturn, 0, 0, []),
  (110, 1, .aload_n 0, 0, 0, []),
  (111, 3, .getfield 10, 0, 0, []),
  (114, 1, .iload_n 1, 1, 0, []),
  (115, 3, .invokevirtual 109, 170, 1, []),
  (118, 1, .ireturn, 0, 0, []),
  (119, 1, .aload_n 0, 0, 0, []),
  (120, 3, .getfield 10, 0, 0, []),
  (123, 1, .iload_n 1, 1, 0, []),
  (124, 1, .iconst 0, 0, 0, []),
  (125, 3, .invokevirtual 112, 171, 1, []),
  (128, 1, .ireturn, 0, 0, []),
  (129, 1, .aload_n 0, 0, 0, []),
  (130, 3, .getfield 10, 0, 0, []),
  (133, 3, .getfield 94, 1, 0, []),
  (136, 1, .iload_n 1, 1, 0, []),
  (137, 1, .iaload, 0, 0, []),
  (138, 1, .aload_n 0, 0, 0, []),
  (139, 3, .getfield 10, 0, 0, []),
  (142, 3, .getfield 97, 1, 1, []),
  (145, 1, .iload_n 1, 1, 0, []),
  (146, 1, .iaload, 0, 0, []),
  (147, 3, .invokestatic 116, 146, 0, []),
  (150, 1, .ireturn, 0, 0, []),
  (151, 1, .aload_n 0, 0, 0, []),
  (152, 1, .iconst 1, 1, 0, []),
  (153, 3, .invokevirtual 73, 37, 0, []),
  (156, 1, .ireturn, 0, 0, [])]
set_option maxRecDepth 100000 in
theorem Zk2 : Zchk 2 Zt2 := ⟨by decide +kernel, by decide +kernel, Zat_in (hs := [496, 498, 129, 499, 3, 448, 450, 129, 451, 0, 407, 185, 407, 189, 407, 192, 407, 194, 407, 196, 407, 500, 501, 130, 503, 502, 407, 505, 506, 130, 508, 507, 407, 185, 407, 189, 509, 510, 138, 511, 448, 450, 129, 451, 0]) rfl, Zan_in (hs := []) rfl⟩
/-- KnitRiver.become(II)I -/
def Zt3 : List Zent := [(0, 1, .aload_n 0, 0, 0, []),
  (1, 1, .iload_n 1, 1, 0, []),
  (2, 3, .invokevirtual 91, 38, 0, []),
  (5, 3, .ifCond .eq (10), 15, 0, []),
  (8, 1, .iload_n 2, 2, 0, []),
  (9, 3, .invokestatic 62, 39, 0, []),
  (12, 3, .ifCond .ne (9), 21, 0, []),
  (15, 1, .aload_n 0, 0, 0, []),
  (16, 1, .iconst 1, 1, 0, []),
  (17, 3, .invokevirtual 73, 37, 0, []),
  (20, 1, .ireturn, 0, 0, []),
  (21, 1, .aload_n 0, 0, 0, []),
  (22, 3, .getfield 10, 0, 0, []),
  (25, 3, .getfield 94, 1, 0, []),
  (28, 1, .iload_n 1, 1, 0, []),
  (29, 1, .iaload, 0, 0, []),
  (30, 1, .istore_n 3, 3, 0, []),
  (31, 1, .aload_n 0, 0, 0, []),
  (32, 3, .getfield 10, 0, 0, []),
  (35, 3, .getfield 94, 1, 0, []),
  (38, 1, .iload_n 1, 1, 0, []),
  (39, 1, .iload_n 2, 2, 0, []),
  (40, 2, .bipush 10, 10, 0, []),
  (42, 1, .idiv, 0, 0, []),
  (43, 1, .iastore, 0, 0, []),
  (44, 1, .aload_n 0, 0, 0, []),
  (45, 3, .getfield 10, 0, 0, []),
  (48, 3, .getfield 97, 1, 1, []),
  (51, 1, .iload_n 1, 1, 0, []),
  (52, 1, .iload_n 2, 2, 0, []),
  (53, 2, .bipush 10, 10, 0, []),
  (55, 1, .irem, 0, 0, []),
  (56, 1, .iastore, 0, 0, []),
  (57, 1, .iload_n 3, 3, 0, []),
  (58, 1, .ireturn, 0, 0, [])]
set_option maxRecDepth 100000 in
theorem Zk3 : Zchk 3 Zt3 := ⟨by decide +kernel, by decide +kernel, Zat_in (hs := [496, 498, 129, 499, 3, 439, 440, 129, 441, 448, 450, 129, 451, 0, 407, 185, 407, 185, 407, 189]) rfl, Zan_in (hs := []) rfl⟩
/-- KnitRiver.as(II)I -/
def Zt4 : List Zent := [(0, 1, .aload_n 0, 0, 0, []),
  (1, 1, .iload_n 1, 1, 0, []),
  (2, 3, .invokevirtual 91, 38, 0, []),
  (5, 3, .ifCond .eq (13), 18, 0, []),
  (8, 1, .iload_n 2, 2, 0, []),
  (9, 1, .iconst 0, 0, 0, []),
  (10, 2, .bipush 6, 6, 0, []),
  (12, 3, .invokestatic 66, 46, 0, []),
  (15, 3, .ifCond .ne (9), 24, 0, []),
  (18, 1, .aload_n 0, 0, 0, []),
  (19, 1, .iconst 1, 1, 0, []),
  (20, 3, .invokevirtual 73, 37, 0, []),
  (23, 1, .ireturn, 0, 0, []),
  (24, 1, .aload_n 0, 0, 0, []),
  (25, 3, .getfield 10, 0, 0, []),
  (28, 3, .getfield 94, 1, 0, []),
  (31, 1, .iload_n 1, 1, 0, []),
  (32, 1, .iaload, 0, 0, []),
  (33, 1, .iload_n 2, 2, 0, []),
  (34, 3, .invokestatic 121, 144, 0, []),
  (37, 3, .ifCond .eq (15), 52, 0, []),
  (40, 1, .aload_n 0, 0, 0, []),
  (41, 3, .getfield 10, 0, 0, []),
  (44, 3, .getfield 97, 1, 1, []),
  (47, 1, .iload_n 1, 1, 0, []),
  (48, 1, .iaload, 0, 0, []),
  (49, 3, .goto (8), 57, 0, []),
  (52, 1, .aload_n 0, 0, 0, []),
  (53, 1, .iconst 5, 5, 0, []),
  (54, 3, .invokevirtual 73, 37, 0, []),
  (57, 1, .ireturn, 0, 0, [])]
set_option maxRecDepth 100000 in
theorem Zk4 : Zchk 4 Zt4 := ⟨by decide +kernel, by decide +kernel, Zat_in (hs := [496, 498, 129, 499, 3, 442, 443, 129, 444, 448, 450, 129, 451, 0, 407, 185, 520, 521, 138, 522, 407, 189, 448, 450, 129, 451, 0]) rfl, Zan_in (hs := []) rfl⟩
/-- KnitRiver.tie(II)I -/
def Zt5 : List Zent := [(0, 1, .aload_n 0, 0, 0, []),
  (1, 1, .iload_n 1, 1, 0, []),
  (2, 3, .invokevirtual 91, 38, 0, []),
  (5, 3, .ifCond .eq (12), 17, 0, []),
  (8, 1, .iload_n 2, 2, 0, []),
  (9, 1, .iconst 0, 0, 0, []),
  (10, 1, .iconst 1, 1, 0, []),
  (11, 3, .invokestatic 66, 46, 0, []),
  (14, 3, .ifCond .ne (9), 23, 0, []),
  (17, 1, .aload_n 0, 0, 0, []),
  (18, 1, .iconst 1, 1, 0, []),
  (19, 3, .invokevirtual 73, 37, 0, []),
  (22, 1, .ireturn, 0, 0, []),
  (23, 1, .aload_n 0, 0, 0, []),
  (24, 3, .getfield 10, 0, 0, []),
  (27, 3, .getfield 106, 1, 4, []),
  (30, 1, .iload_n 1, 1, 0, []),
  (31, 1, .iaload, 0, 0, []),
  (32, 1, .istore_n 3, 3, 0, []),
  (33, 1, .aload_n 0, 0, 0, []),
  (34, 3, .getfield 10, 0, 0, []),
  (37, 3, .getfield 106, 1, 4, []),
  (40, 1, .iload_n 1, 1, 0, []),
  (41, 1, .iload_n 2, 2, 0, []),
  (42, 1, .iastore, 0, 0, []),
  (43, 1, .iload_n 3, 3, 0, []),
  (44, 1, .ireturn, 0, 0, [])]
set_option maxRecDepth 100000 in
theorem Zk5 : Zchk 5 Zt5 := ⟨by decide +kernel, by decide +kernel, Zat_in (hs := [496, 498, 129, 499, 3, 442, 443, 129, 444, 448, 450, 129, 451, 0, 407, 196, 407, 196]) rfl, Zan_in (hs := []) rfl⟩
/-- KnitRiver.drop(I)I -/
def Zt6 : List Zent := [(0, 1, .aload_n 0, 0, 0, []),
  (1, 1, .iload_n 1, 1, 0, []),
  (2, 3, .invokevirtual 91, 38, 0, []),
  (5, 3, .ifCond .ne (9), 14, 0, []),
  (8, 1, .aload_n 0, 0, 0, []),
  (9, 1, .iconst 1, 1, 0, []),
  (10, 3, .invokevirtual 73, 37, 0, []),
  (13, 1, .ireturn, 0, 0, []),
  (14, 1, .aload_n 0, 0, 0, []),
  (15, 3, .getfield 10, 0, 0, []),
  (18, 3, .getfield 100, 1, 2, []),
  (21, 1, .iload_n 1, 1, 0, []),
  (22, 1, .iaload, 0, 0, []),
  (23, 1, .iconst 1, 1, 0, []),
  (24, 3, .if_icmp .gt (9), 33, 0, []),
  (27, 1, .aload_n 0, 0, 0, []),
  (28, 1, .iconst 3, 3, 0, []),
  (29, 3, .invokevirtual 73, 37, 0, []),
  (32, 1, .ireturn, 0, 0, []),
  (33, 1, .aload_n 0, 0, 0, []),
  (34, 3, .getfield 10, 0, 0, []),
  (37, 3, .getfield 100, 1, 2, []),
  (40, 1, .iload_n 1, 1, 0, []),
  (41, 1, .dup2, 0, 0, []),
  (42, 1, .iaload, 0, 0, []),
  (43, 1, .iconst 1, 1, 0, []),
  (44, 1, .isub, 0, 0, []),
  (45, 1, .iastore, 0, 0, []),
  (46, 1, .aload_n 0, 0, 0, []),
  (47, 3, .getfield 10, 0, 0, []),
  (50, 3, .getfield 100, 1, 2, []),
  (53, 1, .iload_n 1, 1, 0, []),
  (54, 1, .iaload, 0, 0, []),
  (55, 1, .ireturn, 0, 0, [])]
set_option maxRecDepth 100000 in
theorem Zk6 : Zchk 6 Zt6 := ⟨by decide +kernel, by decide +kernel, Zat_in (hs := [496, 498, 129, 499, 3, 448, 450, 129, 451, 0, 407, 192, 448, 450, 129, 451, 0, 407, 192, 407, 192]) rfl, Zan_in (hs := []) rfl⟩
/-- KnitRiver.tense(II)I -/
def Zt7 : List Zent := [(0, 1, .aload_n 0, 0, 0, []),
  (1, 1, .iload_n 1, 1, 0, []),
  (2, 3, .invokevirtual 91, 38, 0, []),
  (5, 3, .ifCond .eq (10), 15, 0, []),
  (8, 1, .iload_n 2, 2, 0, []),
  (9, 3, .invokestatic 70, 40, 0, []),
  (12, 3, .ifCond .ne (9), 21, 0, []),
  (15, 1, .aload_n 0, 0, 0, []),
  (16, 1, .iconst 1, 1, 0, []),
  (17, 3, .invokevirtual 73, 37, 0, []),
  (20, 1, .ireturn, 0, 0, []),
  (21, 1, .aload_n 0, 0, 0, []),
  (22, 3, .getfield 10, 0, 0, []),
  (25, 3, .getfield 103, 1, 3, []),
  (28, 1, .iload_n 1, 1, 0, []),
  (29, 1, .iaload, 0, 0, []),
  (30, 1, .istore_n 3, 3, 0, []),
  (31, 1, .aload_n 0, 0, 0, []),
  (32, 3, .getfield 10, 0, 0, []),
  (35, 3, .getfield 103, 1, 3, []),
  (38, 1, .iload_n 1, 1, 0, []),
  (39, 1, .iload_n 2, 2, 0, []),
  (40, 1, .iastore, 0, 0, []),
  (41, 1, .iload_n 3, 3, 0, []),
  (42, 1, .ireturn, 0, 0, [])]
set_option maxRecDepth 100000 in
theorem Zk7 : Zchk 7 Zt7 := ⟨by decide +kernel, by decide +kernel, Zat_in (hs := [496, 498, 129, 499, 3, 445, 446, 129, 447, 448, 450, 129, 451, 0, 407, 194, 407, 194]) rfl, Zan_in (hs := []) rfl⟩
/-- KnitRiver.pull(I)I -/
def Zt8 : List Zent := [(0, 1, .aload_n 0, 0, 0, []),
  (1, 1, .iload_n 1, 1, 0, []),
  (2, 3, .invokevirtual 91, 38, 0, []),
  (5, 3, .ifCond .eq (14), 19, 0, []),
  (8, 1, .aload_n 0, 0, 0, []),
  (9, 3, .getfield 10, 0, 0, []),
  (12, 1, .iload_n 1, 1, 0, []),
  (13, 3, .invokevirtual 125, 174, 1, []),
  (16, 3, .goto (8), 24, 0, []),
  (19, 1, .aload_n 0, 0, 0, []),
  (20, 1, .iconst 1, 1, 0, []),
  (21, 3, .invokevirtual 73, 37, 0, []),
  (24, 1, .ireturn, 0, 0, [])]
set_option maxRecDepth 100000 in
theorem Zk8 : Zchk 8 Zt8 := ⟨by decide +kernel, by decide +kernel, Zat_in (hs := [496, 498, 129, 499, 3, 407, 545, 546, 130, 548, 547, 448, 450, 129, 451, 0]) rfl, Zan_in (hs := []) rfl⟩
/-- KnitRiver.wind(II)I -/
def Zt9 : List Zent := [(0, 1, .iload_n 1, 1, 0, []),
  (1, 3, .ifCond .ne (33), 34, 0, []),
  (4, 1, .iload_n 2, 2, 0, []),
  (5, 1, .iconst 0, 0, 0, []),
  (6, 3, .sipush 9999, 9999, 0, []),
  (9, 3, .invokestatic 66, 46, 0, []),
  (12, 3, .ifCond .eq (22), 34, 0, []),
  (15, 1, .aload_n 0, 0, 0, []),
  (16, 3, .getfield 10, 0, 0, []),
  (19, 3, .getfield 84, 1, 6, []),
  (22, 1, .istore_n 3, 3, 0, []),
  (23, 1, .aload_n 0, 0, 0, []),
  (24, 3, .getfield 10, 0, 0, []),
  (27, 1, .iload_n 2, 2, 0, []),
  (28, 3, .putfield 84, 1, 6, []),
  (31, 3, .goto (42), 73, 0, []),
  (34, 1, .iload_n 1, 1, 0, []),
  (35, 1, .iconst 1, 1, 0, []),
  (36, 3, .if_icmp .ne (31), 67, 0, []),
  (39, 1, .iload_n 2, 2, 0, []),
  (40, 1, .iconst 0, 0, 0, []),
  (41, 1, .iconst 3, 3, 0, []),
  (42, 3, .invokestatic 66, 46, 0, []),
  (45, 3, .ifCond .eq (22), 67, 0, []),
  (48, 1, .aload_n 0, 0, 0, []),
  (49, 3, .getfield 10, 0, 0, []),
  (52, 3, .getfield 128, 1, 7, []),
  (55, 1, .istore_n 3, 3, 0, []),
  (56, 1, .aload_n 0, 0, 0, []),
  (57, 3, .getfield 10, 0, 0, []),
  (60, 1, .iload_n 2, 2, 0, []),
  (61, 3, .putfield 128, 1, 7, []),
  (64, 3, .goto (9), 73, 0, []),
  (67, 1, .aload_n 0, 0, 0, []),
  (68, 1, .iconst 1, 1, 0, []),
  (69, 3, .invokevirtual 73, 37, 0, []),
  (72, 1, .istore_n 3, 3, 0, []),
  (73, 1, .iload_n 3, 3, 0, []),
  (74, 1, .ireturn, 0, 0, [])]
set_option maxRecDepth 100000 in
theorem Zk9 : Zchk 9 Zt9 := ⟨by decide +kernel, by decide +kernel, Zat_in (hs := [442, 443, 129, 444, 407, 201, 407, 201, 442, 443, 129, 444, 407, 204, 407, 204, 448, 450, 129, 451, 0]) rfl, Zan_in (hs := []) rfl⟩
/-- KnitRiver.feed(JI)I -/
def Zt10 : List Zent := [(0, 1, .iload_n 3, 3, 0, []),
  (1, 1, .iconst 1, 1, 0, []),
  (2, 2, .bipush 8, 8, 0, []),
  (4, 3, .invokestatic 66, 46, 0, []),
  (7, 3, .ifCond .ne (9), 16, 0, []),
  (10, 1, .aload_n 0, 0, 0, []),
  (11, 1, .iconst 1, 1, 0, []),
  (12, 3, .invokevirtual 73, 37, 0, []),
  (15, 1, .ireturn, 0, 0, []),
  (16, 1, .aload_n 0, 0, 0, []),
  (17, 3, .getfield 10, 0, 0, []),
  (20, 3, .getfield 130, 1, 12, []),
  (23, 1, .iload_n 3, 3, 0, []),
  (24, 1, .iadd, 0, 0, []),
  (25, 2, .bipush 60, 60, 0, []),
  (27, 3, .if_icmp .le (9), 36, 0, []),
  (30, 1, .aload_n 0, 0, 0, []),
  (31, 1, .iconst 4, 4, 0, []),
  (32, 3, .invokevirtual 73, 37, 0, []),
  (35, 1, .ireturn, 0, 0, []),
  (36, 1, .iconst 0, 0, 0, []),
  (37, 2, .istore 4, 4, 0, []),
  (39, 2, .iload 4, 4, 0, []),
  (41, 1, .iload_n 3, 3, 0, []),
  (42, 3, .if_icmp .ge (46), 88, 0, []),
  (45, 1, .aload_n 0, 0, 0, []),
  (46, 3, .getfield 10, 0, 0, []),
  (49, 3, .getfield 133, 1, 11, []),
  (52, 1, .aload_n 0, 0, 0, []),
  (53, 3, .getfield 10, 0, 0, []),
  (56, 3, .getfield 130, 1, 12, []),
  (59, 1, .lload_n 1, 1, 0, []),
  (60, 2, .bipush 8, 8, 0, []),
  (62, 2, .iload 4, 4, 0, []),
  (64, 1, .imul, 0, 0, []),
  (65, 1, .lushr, 0, 0, []),
  (66, 1, .l2i, 0, 0, []),
  (67, 1, .i2b, 0, 0, []),
  (68, 1, .bastore, 0, 0, []),
  (69, 1, .aload_n 0, 0, 0, []),
  (70, 3, .getfield 10, 0, 0, []),
  (73, 1, .dup, 0, 0, []),
  (74, 3, .getfield 130, 1, 12, []),
  (77, 1, .iconst 1, 1, 0, []),
  (78, 1, .iadd, 0, 0, []),
  (79, 3, .putfield 130, 1, 12, []),
  (82, 3, .iinc 4 1, 1, 0, [4]),
  (85, 3, .goto (-46), 39, 0, []),
  (88, 1, .aload_n 0, 0, 0, []),
  (89, 3, .getfield 10, 0, 0, []),
  (92, 3, .getfield 130, 1, 12, []),
  (95, 1, .ireturn, 0, 0, [])]
set_option maxRecDepth 100000 in
theorem Zk10 : Zchk 10 Zt10 := ⟨by decide +kernel, by decide +kernel, Zat_in (hs := [442, 443, 129, 444, 448, 450, 129, 451, 0, 407, 214, 448, 450, 129, 451, 0, 407, 212, 407, 214, 407, 214, 214, 407, 214]) rfl, Zan_in (hs := []) rfl⟩
/-- KnitRiver.text(I)I -/
def Zt11 : List Zent := [(0, 1, .iload_n 1, 1, 0, []),
  (1, 3, .invokestatic 137, 42, 0, []),
  (4, 3, .ifCond .ne (9), 13, 0, []),
  (7, 1, .aload_n 0, 0, 0, []),
  (8, 1, .iconst 1, 1, 0, []),
  (9, 3, .invokevirtual 73, 37, 0, []),
  (12, 1, .ireturn, 0, 0, []),
  (13, 1, .aload_n 0, 0, 0, []),
  (14, 3, .getfield 22, 0, 2, []),
  (17, 1, .aload_n 0, 0, 0, []),
  (18, 3, .getfield 10, 0, 0, []),
  (21, 3, .getfield 133, 1, 11, []),
  (24, 1, .aload_n 0, 0, 0, []),
  (25, 3, .getfield 10, 0, 0, []),
  (28, 3, .getfield 130, 1, 12, []),
  (31, 1, .iload_n 1, 1, 0, []),
  (32, 3, .invokevirtual 140, 155, 3, []),
  (35, 1, .istore_n 2, 2, 0, []),
  (36, 1, .aload_n 0, 0, 0, []),
  (37, 3, .getfield 10, 0, 0, []),
  (40, 1, .iconst 0, 0, 0, []),
  (41, 3, .putfield 130, 1, 12, []),
  (44, 1, .iload_n 2, 2, 0, []),
  (45, 3, .ifCond .ne (14), 59, 0, []),
  (48, 2, .bipush (-10), 10, 1, []),
  (50, 1, .aload_n 0, 0, 0, []),
  (51, 3, .getfield 22, 0, 2, []),
  (54, 3, .getfield 144, 3, 2, []),
  (57, 1, .isub, 0, 0, []),
  (58, 1, .ireturn, 0, 0, []),
  (59, 1, .aload_n 0, 0, 0, []),
  (60, 3, .getfield 10, 0, 0, []),
  (63, 3, .getfield 147, 1, 15, []),
  (66, 1, .iload_n 1, 1, 0, []),
  (67, 1, .aaload, 0, 0, []),
  (68, 1, .aload_n 0, 0, 0, []),
  (69, 3, .getfield 22, 0, 2, []),
  (72, 3, .getfield 151, 3, 0, []),
  (75, 1, .aload_n 0, 0, 0, []),
  (76, 3, .getfield 22, 0, 2, []),
  (79, 3, .getfield 154, 3, 1, []),
  (82, 3, .invokevirtual 157, 184, 2, []),
  (85, 1, .iconst 1, 1, 0, []),
  (86, 1, .ireturn, 0, 0, [])]
set_option maxRecDepth 100000 in
theorem Zk11 : Zchk 11 Zt11 := ⟨by decide +kernel, by decide +kernel, Zat_in (hs := [563, 564, 129, 565, 448, 450, 129, 451, 0, 409, 407, 212, 407, 214, 566, 567, 132, 569, 568, 407, 214, 409, 269, 407, 220, 409, 265, 409, 267, 611, 612, 131, 614, 613]) rfl, Zan_in (hs := []) rfl⟩
/-- KnitRiver.untell(I)I -/
def Zt12 : List Zent := [(0, 1, .iload_n 1, 1, 0, []),
  (1, 3, .invokestatic 137, 42, 0, []),
  (4, 3, .ifCond .ne (9), 13, 0, []),
  (7, 1, .aload_n 0, 0, 0, []),
  (8, 1, .iconst 1, 1, 0, []),
  (9, 3, .invokevirtual 73, 37, 0, []),
  (12, 1, .ireturn, 0, 0, []),
  (13, 1, .aload_n 0, 0, 0, []),
  (14, 3, .getfield 10, 0, 0, []),
  (17, 3, .getfield 147, 1, 15, []),
  (20, 1, .iload_n 1, 1, 0, []),
  (21, 1, .aaload, 0, 0, []),
  (22, 3, .getfield 163, 2, 0, []),
  (25, 3, .ifCond .eq (7), 32, 0, []),
  (28, 1, .iconst 1, 1, 0, []),
  (29, 3, .goto (4), 33, 0, []),
  (32, 1, .iconst 0, 0, 0, []),
  (33, 1, .istore_n 2, 2, 0, []),
  (34, 1, .aload_n 0, 0, 0, []),
  (35, 3, .getfield 10, 0, 0, []),
  (38, 3, .getfield 147, 1, 15, []),
  (41, 1, .iload_n 1, 1, 0, []),
  (42, 1, .aaload, 0, 0, []),
  (43, 1, .iconst 0, 0, 0, []),
  (44, 3, .putfield 163, 2, 0, []),
  (47, 1, .iload_n 2, 2, 0, []),
  (48, 1, .ireturn, 0, 0, [])]
set_option maxRecDepth 100000 in
theorem Zk12 : Zchk 12 Zt12 := ⟨by decide +kernel, by decide +kernel, Zat_in (hs := [563, 564, 129, 565, 448, 450, 129, 451, 0, 407, 220, 165, 407, 220, 165]) rfl, Zan_in (hs := []) rfl⟩
/-- KnitRiver.law(IIII)I -/
def Zt13 : List Zent := [(0, 1, .iload_n 1, 1, 0, []),
  (1, 3, .invokestatic 137, 42, 0, []),
  (4, 3, .ifCond .eq (18), 22, 0, []),
  (7, 1, .aload_n 0, 0, 0, []),
  (8, 3, .getfield 10, 0, 0, []),
  (11, 1, .iload_n 1, 1, 0, []),
  (12, 1, .iload_n 2, 2, 0, []),
  (13, 1, .iload_n 3, 3, 0, []),
  (14, 2, .iload 4, 4, 0, []),
  (16, 3, .invokevirtual 167, 172, 1, []),
  (19, 3, .goto (8), 27, 0, []),
  (22, 1, .aload_n 0, 0, 0, []),
  (23, 1, .iconst 1, 1, 0, []),
  (24, 3, .invokevirtual 73, 37, 0, []),
  (27, 1, .ireturn, 0, 0, [])]
set_option maxRecDepth 100000 in
theorem Zk13 : Zchk 13 Zt13 := ⟨by decide +kernel, by decide +kernel, Zat_in (hs := [563, 564, 129, 565, 407, 644, 461, 130, 463, 462, 448, 450, 129, 451, 0]) rfl, Zan_in (hs := []) rfl⟩
/-- KnitRiver.season(I)I -/
def Zt14 : List Zent := [(0, 1, .iload_n 1, 1, 0, []),
  (1, 3, .invokestatic 171, 41, 0, []),
  (4, 3, .ifCond .ne (9), 13, 0, []),
  (7, 1, .aload_n 0, 0, 0, []),
  (8, 1, .iconst 1, 1, 0, []),
  (9, 3, .invokevirtual 73, 37, 0, []),
  (12, 1, .ireturn, 0, 0, []),
  (13, 1, .aload_n 0, 0, 0, []),
  (14, 3, .getfield 10, 0, 0, []),
  (17, 3, .getfield 174, 1, 8, []),
  (20, 3, .sipush 9999, 9999, 0, []),
  (23, 3, .if_icmp .ge (14), 37, 0, []),
  (26, 1, .aload_n 0, 0, 0, []),
  (27, 3, .getfield 10, 0, 0, []),
  (30, 1, .iload_n 1, 1, 0, []),
  (31, 3, .invokevirtual 177, 176, 1, []),
  (34, 3, .goto (8), 42, 0, []),
  (37, 1, .aload_n 0, 0, 0, []),
  (38, 1, .iconst 3, 3, 0, []),
  (39, 3, .invokevirtual 73, 37, 0, []),
  (42, 1, .ireturn, 0, 0, [])]
set_option maxRecDepth 100000 in
theorem Zk14 : Zchk 14 Zt14 := ⟨by decide +kernel, by decide +kernel, Zat_in (hs := [649, 650, 129, 651, 448, 450, 129, 451, 0, 407, 206, 407, 652, 653, 130, 655, 654, 448, 450, 129, 451, 0]) rfl, Zan_in (hs := []) rfl⟩
/-- KnitRiver.loose(I)I -/
def Zt15 : List Zent := [(0, 1, .iload_n 1, 1, 0, []),
  (1, 1, .iconst 1, 1, 0, []),
  (2, 2, .bipush 30, 30, 0, []),
  (4, 3, .invokestatic 66, 46, 0, []),
  (7, 3, .ifCond .ne (9), 16, 0, []),
  (10, 1, .aload_n 0, 0, 0, []),
  (11, 1, .iconst 1, 1, 0, []),
  (12, 3, .invokevirtual 73, 37, 0, []),
  (15, 1, .ireturn, 0, 0, []),
  (16, 1, .aload_n 0, 0, 0, []),
  (17, 3, .getfield 10, 0, 0, []),
  (20, 3, .getfield 174, 1, 8, []),
  (23, 1, .iload_n 1, 1, 0, []),
  (24, 1, .iadd, 0, 0, []),
  (25, 3, .sipush 9999, 9999, 0, []),
  (28, 3, .if_icmp .le (9), 37, 0, []),
  (31, 1, .aload_n 0, 0, 0, []),
  (32, 1, .iconst 3, 3, 0, []),
  (33, 3, .invokevirtual 73, 37, 0, []),
  (36, 1, .ireturn, 0, 0, []),
  (37, 1, .iconst 0, 0, 0, []),
  (38, 1, .istore_n 2, 2, 0, []),
  (39, 1, .iconst 0, 0, 0, []),
  (40, 1, .istore_n 3, 3, 0, []),
  (41, 1, .iload_n 3, 3, 0, []),
  (42, 1, .iload_n 1, 1, 0, []),
  (43, 3, .if_icmp .ge (36), 79, 0, []),
  (46, 1, .iload_n 2, 2, 0, []),
  (47, 1, .aload_n 0, 0, 0, []),
  (48, 3, .getfield 10, 0, 0, []),
  (51, 1, .aload_n 0, 0, 0, []),
  (52, 3, .getfield 10, 0, 0, []),
  (55, 3, .invokevirtual 180, 178, 1, []),
  (58, 2, .bipush 120, 120, 0, []),
  (60, 1, .irem, 0, 0, []),
  (61, 3, .invokevirtual 177, 176, 1, []),
  (64, 1, .ior, 0, 0, []),
  (65, 1, .istore_n 2, 2, 0, []),
  (66, 1, .aload_n 0, 0, 0, []),
  (67, 3, .getfield 10, 0, 0, []),
  (70, 3, .invokevirtual 184, 177, 1, []),
  (73, 3, .iinc 3 1, 1, 0, [3]),
  (76, 3, .goto (-35), 41, 0, []),
  (79, 1, .iload_n 2, 2, 0, []),
  (80, 1, .ireturn, 0, 0, [])]
set_option maxRecDepth 100000 in
theorem Zk15 : Zchk 15 Zt15 := ⟨by decide +kernel, by decide +kernel, Zat_in (hs := [442, 443, 129, 444, 448, 450, 129, 451, 0, 407, 206, 448, 450, 129, 451, 0, 407, 407, 666, 667, 130, 669, 668, 652, 653, 130, 655, 654, 407, 671, 672, 130, 674, 673]) rfl, Zan_in (hs := []) rfl⟩
/-- KnitRiver.seed(I)I -/
def Zt16 : List Zent := [(0, 1, .aload_n 0, 0, 0, []),
  (1, 3, .getfield 10, 0, 0, []),
  (4, 3, .getfield 187, 1, 10, []),
  (7, 1, .istore_n 2, 2, 0, []),
  (8, 1, .aload_n 0, 0, 0, []),
  (9, 3, .getfield 10, 0, 0, []),
  (12, 1, .iload_n 1, 1, 0, []),
  (13, 3, .putfield 187, 1, 10, []),
  (16, 1, .iload_n 2, 2, 0, []),
  (17, 1, .ireturn, 0, 0, [])]
set_option maxRecDepth 100000 in
theorem Zk16 : Zchk 16 Zt16 := ⟨by decide +kernel, by decide +kernel, Zat_in (hs := [407, 210, 407, 210]) rfl, Zan_in (hs := []) rfl⟩
/-- KnitRiver.flow(III)I -/
def Zt17 : List Zent := [(0, 1, .iload_n 1, 1, 0, []),
  (1, 3, .invokestatic 171, 41, 0, []),
  (4, 3, .ifCond .eq (27), 31, 0, []),
  (7, 1, .iload_n 2, 2, 0, []),
  (8, 1, .iconst 0, 0, 0, []),
  (9, 1, .aload_n 0, 0, 0, []),
  (10, 3, .getfield 10, 0, 0, []),
  (13, 3, .getfield 77, 1, 5, []),
  (16, 3, .invokestatic 66, 46, 0, []),
  (19, 3, .ifCond .eq (12), 31, 0, []),
  (22, 1, .iload_n 3, 3, 0, []),
  (23, 1, .iconst 0, 0, 0, []),
  (24, 1, .iconst 1, 1, 0, []),
  (25, 3, .invokestatic 66, 46, 0, []),
  (28, 3, .ifCond .ne (9), 37, 0, []),
  (31, 1, .aload_n 0, 0, 0, []),
  (32, 1, .iconst 1, 1, 0, []),
  (33, 3, .invokevirtual 73, 37, 0, []),
  (36, 1, .ireturn, 0, 0, []),
  (37, 1, .aload_n 0, 0, 0, []),
  (38, 3, .getfield 10, 0, 0, []),
  (41, 1, .iload_n 1, 1, 0, []),
  (42, 1, .iconst 0, 0, 0, []),
  (43, 3, .invokevirtual 190, 175, 1, []),
  (46, 2, .istore 4, 4, 0, []),
  (48, 1, .iload_n 3, 3, 0, []),
  (49, 3, .ifCond .ne (15), 64, 0, []),
  (52, 1, .aload_n 0, 0, 0, []),
  (53, 3, .getfield 10, 0, 0, []),
  (56, 3, .getfield 193, 1, 16, []),
  (59, 1, .iload_n 2, 2, 0, []),
  (60, 1, .iaload, 0, 0, []),
  (61, 3, .goto (5), 66, 0, []),
  (64, 2, .iload 4, 4, 0, []),
  (66, 1, .ireturn, 0, 0, [])]
set_option maxRecDepth 100000 in
theorem Zk17 : Zchk 17 Zt17 := ⟨by decide +kernel, by decide +kernel, Zat_in (hs := [649, 650, 129, 651, 407, 198, 442, 443, 129, 444, 442, 443, 129, 444, 448, 450, 129, 451, 0, 407, 684, 657, 130, 659, 658, 407, 222]) rfl, Zan_in (hs := []) rfl⟩
/-- KnitRiver.course(II)I -/
def Zt18 : List Zent := [(0, 1, .iload_n 1, 1, 0, []),
  (1, 1, .iconst 0, 0, 0, []),
  (2, 1, .aload_n 0, 0, 0, []),
  (3, 3, .getfield 10, 0, 0, []),
  (6, 3, .getfield 77, 1, 5, []),
  (9, 3, .invokestatic 66, 46, 0, []),
  (12, 3, .ifCond .eq (12), 24, 0, []),
  (15, 1, .iload_n 2, 2, 0, []),
  (16, 1, .iconst 0, 0, 0, []),
  (17, 1, .iconst 1, 1, 0, []),
  (18, 3, .invokestatic 66, 46, 0, []),
  (21, 3, .ifCond .ne (9), 30, 0, []),
  (24, 1, .aload_n 0, 0, 0, []),
  (25, 1, .iconst 1, 1, 0, []),
  (26, 3, .invokevirtual 73, 37, 0, []),
  (29, 1, .ireturn, 0, 0, []),
  (30, 1, .aload_n 0, 0, 0, []),
  (31, 3, .getfield 29, 0, 3, []),
  (34, 1, .aload_n 0, 0, 0, []),
  (35, 3, .getfield 10, 0, 0, []),
  (38, 3, .invokevirtual 196, 140, 4, []),
  (41, 1, .iload_n 2, 2, 0, []),
  (42, 3, .ifCond .ne (15), 57, 0, []),
  (45, 1, .aload_n 0, 0, 0, []),
  (46, 3, .getfield 29, 0, 3, []),
  (49, 3, .getfield 200, 4, 0, []),
  (52, 1, .iload_n 1, 1, 0, []),
  (53, 1, .iaload, 0, 0, []),
  (54, 3, .goto (12), 66, 0, []),
  (57, 1, .aload_n 0, 0, 0, []),
  (58, 3, .getfield 29, 0, 3, []),
  (61, 3, .getfield 203, 4, 1, []),
  (64, 1, .iload_n 1, 1, 0, []),
  (65, 1, .iaload, 0, 0, []),
  (66, 1, .ireturn, 0, 0, [])]
set_option maxRecDepth 100000 in
theorem Zk18 : Zchk 18 Zt18 := ⟨by decide +kernel, by decide +kernel, Zat_in (hs := [407, 198, 442, 443, 129, 444, 442, 443, 129, 444, 448, 450, 129, 451, 0, 410, 407, 689, 690, 133, 692, 691, 410, 294, 410, 297]) rfl, Zan_in (hs := []) rfl⟩
/-- KnitRiver.crosses()I -/
def Zt19 : List Zent := [(0, 1, .aload_n 0, 0, 0, []),
  (1, 3, .getfield 29, 0, 3, []),
  (4, 1, .aload_n 0, 0, 0, []),
  (5, 3, .getfield 10, 0, 0, []),
  (8, 3, .invokevirtual 196, 140, 4, []),
  (11, 1, .aload_n 0, 0, 0, []),
  (12, 3, .getfield 29, 0, 3, []),
  (15, 3, .invokevirtual 206, 141, 4, []),
  (18, 1, .ireturn, 0, 0, [])]
set_option maxRecDepth 100000 in
theorem Zk19 : Zchk 19 Zt19 := ⟨by decide +kernel, by decide +kernel, Zat_in (hs := [410, 407, 689, 690, 133, 692, 691, 410, 710, 711, 133, 713, 712]) rfl, Zan_in (hs := []) rfl⟩
/-- KnitRiver.reach(III)I -/
def Zt20 : List Zent := [(0, 1, .iload_n 1, 1, 0, []),
  (1, 2, .bipush (-9), 9, 1, []),
  (3, 2, .bipush 9, 9, 0, []),
  (5, 3, .invokestatic 66, 46, 0, []),
  (8, 3, .ifCond .eq (24), 32, 0, []),
  (11, 1, .iload_n 2, 2, 0, []),
  (12, 2, .bipush (-9), 9, 1, []),
  (14, 2, .bipush 9, 9, 0, []),
  (16, 3, .invokestatic 66, 46, 0, []),
  (19, 3, .ifCond .eq (13), 32, 0, []),
  (22, 1, .iload_n 3, 3, 0, []),
  (23, 2, .bipush (-2), 2, 1, []),
  (25, 1, .iconst 4, 4, 0, []),
  (26, 3, .invokestatic 66, 46, 0, []),
  (29, 3, .ifCond .ne (9), 38, 0, []),
  (32, 1, .aload_n 0, 0, 0, []),
  (33, 1, .iconst 1, 1, 0, []),
  (34, 3, .invokevirtual 73, 37, 0, []),
  (37, 1, .ireturn, 0, 0, []),
  (38, 1, .aload_n 0, 0, 0, []),
  (39, 3, .getfield 29, 0, 3, []),
  (42, 1, .aload_n 0, 0, 0, []),
  (43, 3, .getfield 10, 0, 0, []),
  (46, 3, .invokevirtual 196, 140, 4, []),
  (49, 1, .aload_n 0, 0, 0, []),
  (50, 3, .getfield 36, 0, 4, []),
  (53, 1, .aload_n 0, 0, 0, []),
  (54, 3, .getfield 10, 0, 0, []),
  (57, 1, .aload_n 0, 0, 0, []),
  (58, 3, .getfield 29, 0, 3, []),
  (61, 1, .iload_n 1, 1, 0, []),
  (62, 1, .iload_n 2, 2, 0, []),
  (63, 3, .invokevirtual 209, 149, 5, []),
  (66, 3, .ifCond .ne (9), 75, 0, []),
  (69, 1, .aload_n 0, 0, 0, []),
  (70, 1, .iconst 2, 2, 0, []),
  (71, 3, .invokevirtual 73, 37, 0, []),
  (74, 1, .ireturn, 0, 0, []),
  (75, 1, .iload_n 3, 3, 0, []),
  (76, 2, .bipush (-2), 2, 1, []),
  (78, 3, .if_icmp .ne (11), 89, 0, []),
  (81, 1, .aload_n 0, 0, 0, []),
  (82, 3, .getfield 36, 0, 4, []),
  (85, 3, .getfield 213, 5, 1, []),
  (88, 1, .ireturn, 0, 0, []),
  (89, 1, .iload_n 3, 3, 0, []),
  (90, 1, .iconst (-1), 1, 1, []),
  (91, 3, .if_icmp .ne (13), 104, 0, []),
  (94, 1, .aload_n 0, 0, 0, []),
  (95, 3, .getfield 36, 0, 4, []),
  (98, 3, .getfield 216, 5, 2, []),
  (101, 3, .goto (11), 112, 0, []),
  (104, 1, .aload_n 0, 0, 0, []),
  (105, 3, .getfield 36, 0, 4, []),
  (108, 1, .iload_n 3, 3, 0, []),
  (109, 3, .invokevirtual 219, 148, 5, []),
  (112, 1, .ireturn, 0, 0, [])]
set_option maxRecDepth 100000 in
theorem Zk20 : Zchk 20 Zt20 := ⟨by decide +kernel, by decide +kernel, Zat_in (hs := [442, 443, 129, 444, 442, 443, 129, 444, 442, 443, 129, 444, 448, 450, 129, 451, 0, 410, 407, 689, 690, 133, 692, 691, 411, 407, 410, 722, 723, 134, 725, 724, 448, 450, 129, 451, 0, 411, 321, 411, 323, 411, 750, 751, 134, 753, 752]) rfl, Zan_in (hs := []) rfl⟩
/-- KnitRiver.ease(II)I -/
def Zt21 : List Zent := [(0, 1, .iload_n 1, 1, 0, []),
  (1, 3, .invokestatic 171, 41, 0, []),
  (4, 3, .ifCond .eq (12), 16, 0, []),
  (7, 1, .iload_n 2, 2, 0, []),
  (8, 1, .iconst 0, 0, 0, []),
  (9, 1, .iconst 1, 1, 0, []),
  (10, 3, .invokestatic 66, 46, 0, []),
  (13, 3, .ifCond .ne (9), 22, 0, []),
  (16, 1, .aload_n 0, 0, 0, []),
  (17, 1, .iconst 1, 1, 0, []),
  (18, 3, .invokevirtual 73, 37, 0, []),
  (21, 1, .ireturn, 0, 0, []),
  (22, 2, .bipush (-9), 9, 1, []),
  (24, 1, .istore_n 3, 3, 0, []),
  (25, 2, .bipush 16, 16, 0, []),
  (27, 2, .istore 4, 4, 0, []),
  (29, 2, .bipush (-9), 9, 1, []),
  (31, 2, .istore 5, 5, 0, []),
  (33, 2, .iload 5, 5, 0, []),
  (35, 2, .bipush 9, 9, 0, []),
  (37, 3, .if_icmp .gt (38), 75, 0, []),
  (40, 1, .aload_n 0, 0, 0, []),
  (41, 3, .getfield 10, 0, 0, []),
  (44, 1, .iload_n 1, 1, 0, []),
  (45, 2, .iload 5, 5, 0, []),
  (47, 3, .invokevirtual 190, 175, 1, []),
  (50, 3, .invokestatic 222, 197, 0, []),
  (53, 2, .istore 6, 6, 0, []),
  (55, 2, .iload 6, 6, 0, []),
  (57, 2, .iload 4, 4, 0, []),
  (59, 3, .if_icmp .ge (10), 69, 0, []),
  (62, 2, .iload 6, 6, 0, []),
  (64, 2, .istore 4, 4, 0, []),
  (66, 2, .iload 5, 5, 0, []),
  (68, 1, .istore_n 3, 3, 0, []),
  (69, 3, .iinc 5 1, 1, 0, [5]),
  (72, 3, .goto (-39), 33, 0, []),
  (75, 1, .iload_n 2, 2, 0, []),
  (76, 3, .ifCond .ne (7), 83, 0, []),
  (79, 1, .iload_n 3, 3, 0, []),
  (80, 3, .goto (5), 85, 0, []),
  (83, 2, .iload 4, 4, 0, []),
  (85, 1, .ireturn, 0, 0, [])]
set_option maxRecDepth 100000 in
theorem Zk21 : Zchk 21 Zt21 := ⟨by decide +kernel, by decide +kernel, Zat_in (hs := [649, 650, 129, 651, 442, 443, 129, 444, 448, 450, 129, 451, 0, 407, 684, 657, 130, 659, 658, 758, 759, 141, 760]) rfl, Zan_in (hs := []) rfl⟩
/-- KnitRiver.odds(I)I -/
def Zt22 : List Zent := [(0, 1, .iload_n 1, 1, 0, []),
  (1, 1, .iconst 0, 0, 0, []),
  (2, 1, .iconst 1, 1, 0, []),
  (3, 3, .invokestatic 66, 46, 0, []),
  (6, 3, .ifCond .ne (9), 15, 0, []),
  (9, 1, .aload_n 0, 0, 0, []),
  (10, 1, .iconst 1, 1, 0, []),
  (11, 3, .invokevirtual 73, 37, 0, []),
  (14, 1, .ireturn, 0, 0, []),
  (15, 2, .bipush 50, 50, 0, []),
  (17, 1, .istore_n 2, 2, 0, []),
  (18, 1, .iload_n 2, 2, 0, []),
  (19, 1, .aload_n 0, 0, 0, []),
  (20, 3, .getfield 10, 0, 0, []),
  (23, 3, .invokevirtual 227, 173, 1, []),
  (26, 1, .iconst 1, 1, 0, []),
  (27, 1, .iadd, 0, 0, []),
  (28, 3, .invokestatic 230, 201, 0, []),
  (31, 1, .istore_n 3, 3, 0, []),
  (32, 1, .iload_n 2, 2, 0, []),
  (33, 1, .iload_n 3, 3, 0, []),
  (34, 3, .invokestatic 235, 48, 0, []),
  (37, 2, .istore 4, 4, 0, []),
  (39, 1, .iload_n 1, 1, 0, []),
  (40, 3, .ifCond .ne (7), 47, 0, []),
  (43, 1, .iload_n 3, 3, 0, []),
  (44, 3, .goto (4), 48, 0, []),
  (47, 1, .iload_n 2, 2, 0, []),
  (48, 2, .iload 4, 4, 0, []),
  (50, 3, .ifCond .le (8), 58, 0, []),
  (53, 2, .iload 4, 4, 0, []),
  (55, 3, .goto (4), 59, 0, []),
  (58, 1, .iconst 1, 1, 0, []),
  (59, 1, .idiv, 0, 0, []),
  (60, 1, .ireturn, 0, 0, [])]
set_option maxRecDepth 100000 in
theorem Zk22 : Zchk 22 Zt22 := ⟨by decide +kernel, by decide +kernel, Zat_in (hs := [442, 443, 129, 444, 448, 450, 129, 451, 0, 407, 768, 769, 130, 771, 770, 482, 483, 139, 484, 772, 773, 129, 774]) rfl, Zan_in (hs := []) rfl⟩
/-- KnitRiver.fits(II)I -/
def Zt23 : List Zent := [(0, 1, .iload_n 1, 1, 0, []),
  (1, 3, .invokestatic 238, 43, 0, []),
  (4, 3, .ifCond .eq (12), 16, 0, []),
  (7, 1, .iload_n 2, 2, 0, []),
  (8, 1, .iconst 0, 0, 0, []),
  (9, 1, .iconst 1, 1, 0, []),
  (10, 3, .invokestatic 66, 46, 0, []),
  (13, 3, .ifCond .ne (9), 22, 0, []),
  (16, 1, .aload_n 0, 0, 0, []),
  (17, 1, .iconst 1, 1, 0, []),
  (18, 3, .invokevirtual 73, 37, 0, []),
  (21, 1, .ireturn, 0, 0, []),
  (22, 1, .aload_n 0, 0, 0, []),
  (23, 3, .getfield 49, 0, 6, []),
  (26, 1, .iload_n 1, 1, 0, []),
  (27, 1, .aaload, 0, 0, []),
  (28, 1, .astore_n 3, 3, 0, []),
  (29, 1, .aload_n 3, 3, 0, []),
  (30, 3, .getfield 241, 7, 1, []),
  (33, 3, .ifCond .ne (9), 42, 0, []),
  (36, 1, .aload_n 0, 0, 0, []),
  (37, 1, .iconst 2, 2, 0, []),
  (38, 3, .invokevirtual 73, 37, 0, []),
  (41, 1, .ireturn, 0, 0, []),
  (42, 1, .aload_n 3, 3, 0, []),
  (43, 3, .getfield 244, 7, 2, []),
  (46, 3, .ifCond .ne (15), 61, 0, []),
  (49, 1, .iload_n 2, 2, 0, []),
  (50, 3, .ifCond .ne (9), 59, 0, []),
  (53, 3, .sipush 1000, 1000, 0, []),
  (56, 3, .goto (4), 60, 0, []),
  (59, 1, .iconst 0, 0, 0, []),
  (60, 1, .ireturn, 0, 0, []),
  (61, 1, .aload_n 3, 3, 0, []),
  (62, 3, .getfield 245, 7, 0, []),
  (65, 1, .iconst 0, 0, 0, []),
  (66, 1, .iaload, 0, 0, []),
  (67, 2, .istore 4, 4, 0, []),
  (69, 2, .iload 4, 4, 0, []),
  (71, 3, .invokestatic 171, 41, 0, []),
  (74, 3, .ifCond .eq (17), 91, 0, []),
  (77, 1, .aload_n 0, 0, 0, []),
  (78, 2, .iload 4, 4, 0, []),
  (80, 1, .aload_n 3, 3, 0, []),
  (81, 3, .invokevirtual 248, 45, 0, []),
  (84, 3, .ifCond .eq (7), 91, 0, []),
  (87, 1, .iconst 1, 1, 0, []),
  (88, 3, .goto (4), 92, 0, []),
  (91, 1, .iconst 0, 0, 0, []),
  (92, 2, .istore 5, 5, 0, []),
  (94, 1, .iload_n 2, 2, 0, []),
  (95, 3, .ifCond .ne (14), 109, 0, []),
  (98, 2, .iload 5, 5, 0, []),
  (100, 3, .ifCond .eq (7), 107, 0, []),
  (103, 1, .iconst 1, 1, 0, []),
  (104, 3, .goto (4), 108, 0, []),
  (107, 1, .iconst 0, 0, 0, []),
  (108, 1, .ireturn, 0, 0, []),
  (109, 2, .iload 5, 5, 0, []),
  (111, 3, .ifCond .eq (8), 119, 0, []),
  (114, 2, .iload 4, 4, 0, []),
  (116, 3, .goto (8), 124, 0, []),
  (119, 1, .aload_n 0, 0, 0, []),
  (120, 1, .iconst 2, 2, 0, []),
  (121, 3, .invokevirtual 73, 37, 0, []),
  (124, 1, .ireturn, 0, 0, [])]
set_option maxRecDepth 100000 in
theorem Zk23 : Zchk 23 Zt23 := ⟨by decide +kernel, by decide +kernel, Zat_in (hs := [779, 780, 129, 781, 442, 443, 129, 444, 448, 450, 129, 451, 0, 413, 397, 448, 450, 129, 451, 0, 399, 395, 649, 650, 129, 651, 782, 784, 129, 785, 32, 448, 450, 129, 451, 0]) rfl, Zan_in (hs := []) rfl⟩
/-- KnitRiver.voice(III)I -/
def Zt24 : List Zent := [(0, 1, .aload_n 0, 0, 0, []),
  (1, 1, .iload_n 1, 1, 0, []),
  (2, 3, .invokevirtual 91, 38, 0, []),
  (5, 3, .ifCond .eq (12), 17, 0, []),
  (8, 1, .iload_n 2, 2, 0, []),
  (9, 1, .iconst 0, 0, 0, []),
  (10, 1, .iconst 3, 3, 0, []),
  (11, 3, .invokestatic 66, 46, 0, []),
  (14, 3, .ifCond .ne (9), 23, 0, []),
  (17, 1, .aload_n 0, 0, 0, []),
  (18, 1, .iconst 1, 1, 0, []),
  (19, 3, .invokevirtual 73, 37, 0, []),
  (22, 1, .ireturn, 0, 0, []),
  (23, 1, .aload_n 0, 0, 0, []),
  (24, 3, .getfield 43, 0, 5, []),
  (27, 1, .aload_n 0, 0, 0, []),
  (28, 3, .getfield 10, 0, 0, []),
  (31, 1, .iload_n 1, 1, 0, []),
  (32, 1, .iload_n 2, 2, 0, []),
  (33, 1, .iload_n 3, 3, 0, []),
  (34, 3, .invokevirtual 252, 191, 6, []),
  (37, 3, .ifCond .eq (13), 50, 0, []),
  (40, 1, .aload_n 0, 0, 0, []),
  (41, 3, .getfield 43, 0, 5, []),
  (44, 3, .getfield 256, 6, 2, []),
  (47, 3, .goto (9), 56, 0, []),
  (50, 1, .aload_n 0, 0, 0, []),
  (51, 2, .bipush 6, 6, 0, []),
  (53, 3, .invokevirtual 73, 37, 0, []),
  (56, 1, .ireturn, 0, 0, [])]
set_option maxRecDepth 100000 in
theorem Zk24 : Zchk 24 Zt24 := ⟨by decide +kernel, by decide +kernel, Zat_in (hs := [496, 498, 129, 499, 3, 442, 443, 129, 444, 448, 450, 129, 451, 0, 412, 407, 790, 791, 135, 793, 792, 412, 345, 448, 450, 129, 451, 0]) rfl, Zan_in (hs := []) rfl⟩
/-- KnitRiver.body(I)I -/
def Zt25 : List Zent := [(0, 1, .iload_n 1, 1, 0, []),
  (1, 1, .iconst 0, 0, 0, []),
  (2, 1, .aload_n 0, 0, 0, []),
  (3, 3, .getfield 43, 0, 5, []),
  (6, 3, .getfield 259, 6, 1, []),
  (9, 1, .iconst 1, 1, 0, []),
  (10, 1, .isub, 0, 0, []),
  (11, 3, .invokestatic 66, 46, 0, []),
  (14, 3, .ifCond .eq (15), 29, 0, []),
  (17, 1, .aload_n 0, 0, 0, []),
  (18, 3, .getfield 43, 0, 5, []),
  (21, 3, .getfield 262, 6, 0, []),
  (24, 1, .iload_n 1, 1, 0, []),
  (25, 1, .iaload, 0, 0, []),
  (26, 3, .goto (8), 34, 0, []),
  (29, 1, .aload_n 0, 0, 0, []),
  (30, 1, .iconst 2, 2, 0, []),
  (31, 3, .invokevirtual 73, 37, 0, []),
  (34, 1, .ireturn, 0, 0, [])]
set_option maxRecDepth 100000 in
theorem Zk25 : Zchk 25 Zt25 := ⟨by decide +kernel, by decide +kernel, Zat_in (hs := [412, 343, 442, 443, 129, 444, 412, 341, 448, 450, 129, 451, 0]) rfl, Zan_in (hs := []) rfl⟩
/-- KnitRiver.sheet(III)I -/
def Zt26 : List Zent := [(0, 1, .iload_n 1, 1, 0, []),
  (1, 3, .invokestatic 238, 43, 0, []),
  (4, 3, .ifCond .eq (25), 29, 0, []),
  (7, 1, .iload_n 2, 2, 0, []),
  (8, 3, .ifCond .eq (27), 35, 0, []),
  (11, 1, .iload_n 2, 2, 0, []),
  (12, 2, .bipush 8, 8, 0, []),
  (14, 3, .if_icmp .eq (21), 35, 0, []),
  (17, 1, .iload_n 2, 2, 0, []),
  (18, 2, .bipush 16, 16, 0, []),
  (20, 3, .if_icmp .eq (15), 35, 0, []),
  (23, 1, .iload_n 2, 2, 0, []),
  (24, 2, .bipush 32, 32, 0, []),
  (26, 3, .if_icmp .eq (9), 35, 0, []),
  (29, 1, .aload_n 0, 0, 0, []),
  (30, 1, .iconst 1, 1, 0, []),
  (31, 3, .invokevirtual 73, 37, 0, []),
  (34, 1, .ireturn, 0, 0, []),
  (35, 1, .iload_n 2, 2, 0, []),
  (36, 3, .ifCond .ne (16), 52, 0, []),
  (39, 1, .aload_n 0, 0, 0, []),
  (40, 3, .getfield 49, 0, 6, []),
  (43, 1, .iload_n 1, 1, 0, []),
  (44, 1, .aaload, 0, 0, []),
  (45, 1, .iconst 0, 0, 0, []),
  (46, 1, .iconst 0, 0, 0, []),
  (47, 3, .invokevirtual 265, 180, 7, []),
  (50, 1, .iconst 1, 1, 0, []),
  (51, 1, .ireturn, 0, 0, []),
  (52, 1, .iload_n 3, 3, 0, []),
  (53, 3, .ifCond .ge (9), 62, 0, []),
  (56, 1, .aload_n 0, 0, 0, []),
  (57, 1, .iconst 3, 3, 0, []),
  (58, 3, .invokevirtual 73, 37, 0, []),
  (61, 1, .ireturn, 0, 0, []),
  (62, 1, .iload_n 3, 3, 0, []),
  (63, 2, .bipush 24, 24, 0, []),
  (65, 3, .if_icmp .le (9), 74, 0, []),
  (68, 1, .aload_n 0, 0, 0, []),
  (69, 1, .iconst 1, 1, 0, []),
  (70, 3, .invokevirtual 73, 37, 0, []),
  (73, 1, .ireturn, 0, 0, []),
  (74, 1, .aload_n 0, 0, 0, []),
  (75, 3, .getfield 49, 0, 6, []),
  (78, 1, .iload_n 1, 1, 0, []),
  (79, 1, .aaload, 0, 0, []),
  (80, 1, .iload_n 2, 2, 0, []),
  (81, 1, .iload_n 3, 3, 0, []),
  (82, 3, .invokevirtual 265, 180, 7, []),
  (85, 1, .iconst 1, 1, 0, []),
  (86, 1, .ireturn, 0, 0, [])]
set_option maxRecDepth 100000 in
theorem Zk26 : Zchk 26 Zt26 := ⟨by decide +kernel, by decide +kernel, Zat_in (hs := [779, 780, 129, 781, 448, 450, 129, 451, 0, 413, 821, 822, 136, 824, 823, 448, 450, 129, 451, 0, 448, 450, 129, 451, 0, 413, 821, 822, 136, 824, 823]) rfl, Zan_in (hs := []) rfl⟩
/-- KnitRiver.put(III)I -/
def Zt27 : List Zent := [(0, 1, .aload_n 0, 0, 0, []),
  (1, 1, .iload_n 1, 1, 0, []),
  (2, 3, .invokevirtual 269, 44, 0, []),
  (5, 2, .istore 4, 4, 0, []),
  (7, 2, .iload 4, 4, 0, []),
  (9, 3, .ifCond .eq (10), 19, 0, []),
  (12, 1, .aload_n 0, 0, 0, []),
  (13, 2, .iload 4, 4, 0, []),
  (15, 3, .invokevirtual 73, 37, 0, []),
  (18, 1, .ireturn, 0, 0, []),
  (19, 1, .iload_n 2, 2, 0, []),
  (20, 1, .iconst 0, 0, 0, []),
  (21, 1, .aload_n 0, 0, 0, []),
  (22, 3, .getfield 49, 0, 6, []),
  (25, 1, .iload_n 1, 1, 0, []),
  (26, 1, .aaload, 0, 0, []),
  (27, 3, .getfield 244, 7, 2, []),
  (30, 1, .iconst 1, 1, 0, []),
  (31, 1, .isub, 0, 0, []),
  (32, 3, .invokestatic 66, 46, 0, []),
  (35, 3, .ifCond .ne (9), 44, 0, []),
  (38, 1, .aload_n 0, 0, 0, []),
  (39, 1, .iconst 1, 1, 0, []),
  (40, 3, .invokevirtual 73, 37, 0, []),
  (43, 1, .ireturn, 0, 0, []),
  (44, 1, .aload_n 0, 0, 0, []),
  (45, 3, .getfield 49, 0, 6, []),
  (48, 1, .iload_n 1, 1, 0, []),
  (49, 1, .aaload, 0, 0, []),
  (50, 1, .iload_n 2, 2, 0, []),
  (51, 1, .iload_n 3, 3, 0, []),
  (52, 3, .invokevirtual 272, 181, 7, []),
  (55, 1, .iconst 1, 1, 0, []),
  (56, 1, .ireturn, 0, 0, [])]
set_option maxRecDepth 100000 in
theorem Zk27 : Zchk 27 Zt27 := ⟨by decide +kernel, by decide +kernel, Zat_in (hs := [830, 832, 129, 833, 36, 448, 450, 129, 451, 0, 413, 399, 442, 443, 129, 444, 448, 450, 129, 451, 0, 413, 834, 835, 136, 837, 836]) rfl, Zan_in (hs := []) rfl⟩
/-- KnitRiver.move(IIIII)I -/
def Zt28 : List Zent := [(0, 1, .iload_n 1, 1, 0, []),
  (1, 3, .invokestatic 238, 43, 0, []),
  (4, 3, .ifCond .eq (10), 14, 0, []),
  (7, 1, .iload_n 3, 3, 0, []),
  (8, 3, .invokestatic 238, 43, 0, []),
  (11, 3, .ifCond .ne (9), 20, 0, []),
  (14, 1, .aload_n 0, 0, 0, []),
  (15, 1, .iconst 1, 1, 0, []),
  (16, 3, .invokevirtual 73, 37, 0, []),
  (19, 1, .ireturn, 0, 0, []),
  (20, 1, .aload_n 0, 0, 0, []),
  (21, 3, .getfield 49, 0, 6, []),
  (24, 1, .iload_n 1, 1, 0, []),
  (25, 1, .aaload, 0, 0, []),
  (26, 2, .astore 6, 6, 0, []),
  (28, 1, .aload_n 0, 0, 0, []),
  (29, 3, .getfield 49, 0, 6, []),
  (32, 1, .iload_n 3, 3, 0, []),
  (33, 1, .aaload, 0, 0, []),
  (34, 2, .astore 7, 7, 0, []),
  (36, 2, .aload 6, 6, 0, []),
  (38, 3, .getfield 241, 7, 1, []),
  (41, 3, .ifCond .eq (11), 52, 0, []),
  (44, 2, .aload 7, 7, 0, []),
  (46, 3, .getfield 241, 7, 1, []),
  (49, 3, .ifCond .ne (9), 58, 0, []),
  (52, 1, .aload_n 0, 0, 0, []),
  (53, 1, .iconst 2, 2, 0, []),
  (54, 3, .invokevirtual 73, 37, 0, []),
  (57, 1, .ireturn, 0, 0, []),
  (58, 2, .aload 6, 6, 0, []),
  (60, 3, .getfield 241, 7, 1, []),
  (63, 2, .aload 7, 7, 0, []),
  (65, 3, .getfield 241, 7, 1, []),
  (68, 3, .if_icmp .eq (9), 77, 0, []),
  (71, 1, .aload_n 0, 0, 0, []),
  (72, 1, .iconst 5, 5, 0, []),
  (73, 3, .invokevirtual 73, 37, 0, []),
  (76, 1, .ireturn, 0, 0, []),
  (77, 2, .aload 6, 6, 0, []),
  (79, 1, .iload_n 2, 2, 0, []),
  (80, 2, .iload 5, 5, 0, []),
  (82, 3, .invokevirtual 275, 182, 7, []),
  (85, 3, .ifCond .eq (15), 100, 0, []),
  (88, 2, .aload 7, 7, 0, []),
  (90, 2, .iload 4, 4, 0, []),
  (92, 2, .iload 5, 5, 0, []),
  (94, 3, .invokevirtual 275, 182, 7, []),
  (97, 3, .ifCond .ne (9), 106, 0, []),
  (100, 1, .aload_n 0, 0, 0, []),
  (101, 1, .iconst 1, 1, 0, []),
  (102, 3, .invokevirtual 73, 37, 0, []),
  (105, 1, .ireturn, 0, 0, []),
  (106, 2, .aload 6, 6, 0, []),
  (108, 3, .getfield 245, 7, 0, []),
  (111, 1, .iload_n 2, 2, 0, []),
  (112, 2, .aload 7, 7, 0, []),
  (114, 3, .getfield 245, 7, 0, []),
  (117, 2, .iload 4, 4, 0, []),
  (119, 2, .iload 5, 5, 0, []),
  (121, 3, .invokestatic 278, 0, 2, []),
  (124, 2, .iload 5, 5, 0, []),
  (126, 1, .ireturn, 0, 0, [])]
set_option maxRecDepth 100000 in
theorem Zk28 : Zchk 28 Zt28 := ⟨by decide +kernel, by decide +kernel, Zat_in (hs := [779, 780, 129, 781, 779, 780, 129, 781, 448, 450, 129, 451, 0, 413, 413, 397, 397, 448, 450, 129, 451, 0, 397, 397, 448, 450, 129, 451, 0, 842, 843, 136, 845, 844, 842, 843, 136, 845, 844, 448, 450, 129, 451, 0, 395, 395, 846, 619, 618, 140]) rfl, Zan_in (hs := []) rfl⟩
/-- KnitRiver.tensions(I)I -/
def Zt29 : List Zent := [(0, 1, .aload_n 0, 0, 0, []),
  (1, 1, .iload_n 1, 1, 0, []),
  (2, 3, .invokevirtual 269, 44, 0, []),
  (5, 1, .istore_n 2, 2, 0, []),
  (6, 1, .iload_n 2, 2, 0, []),
  (7, 3, .ifCond .eq (9), 16, 0, []),
  (10, 1, .aload_n 0, 0, 0, []),
  (11, 1, .iload_n 2, 2, 0, []),
  (12, 3, .invokevirtual 73, 37, 0, []),
  (15, 1, .ireturn, 0, 0, []),
  (16, 1, .aload_n 0, 0, 0, []),
  (17, 3, .getfield 49, 0, 6, []),
  (20, 1, .iload_n 1, 1, 0, []),
  (21, 1, .aaload, 0, 0, []),
  (22, 1, .astore_n 3, 3, 0, []),
  (23, 1, .iconst 0, 0, 0, []),
  (24, 2, .istore 4, 4, 0, []),
  (26, 2, .iload 4, 4, 0, []),
  (28, 1, .aload_n 3, 3, 0, []),
  (29, 3, .getfield 244, 7, 2, []),
  (32, 3, .if_icmp .ge (51), 83, 0, []),
  (35, 2, .iload 4, 4, 0, []),
  (37, 1, .aload_n 0, 0, 0, []),
  (38, 3, .getfield 10, 0, 0, []),
  (41, 3, .getfield 77, 1, 5, []),
  (44, 3, .if_icmp .ge (39), 83, 0, []),
  (47, 1, .aload_n 3, 3, 0, []),
  (48, 3, .getfield 245, 7, 0, []),
  (51, 2, .iload 4, 4, 0, []),
  (53, 1, .iaload, 0, 0, []),
  (54, 3, .invokestatic 70, 40, 0, []),
  (57, 3, .ifCond .eq (26), 83, 0, []),
  (60, 1, .aload_n 0, 0, 0, []),
  (61, 3, .getfield 10, 0, 0, []),
  (64, 3, .getfield 103, 1, 3, []),
  (67, 2, .iload 4, 4, 0, []),
  (69, 1, .aload_n 3, 3, 0, []),
  (70, 3, .getfield 245, 7, 0, []),
  (73, 2, .iload 4, 4, 0, []),
  (75, 1, .iaload, 0, 0, []),
  (76, 1, .iastore, 0, 0, []),
  (77, 3, .iinc 4 1, 1, 0, [4]),
  (80, 3, .goto (-54), 26, 0, []),
  (83, 2, .iload 4, 4, 0, []),
  (85, 1, .ireturn, 0, 0, [])]
set_option maxRecDepth 100000 in
theorem Zk29 : Zchk 29 Zt29 := ⟨by decide +kernel, by decide +kernel, Zat_in (hs := [830, 832, 129, 833, 36, 448, 450, 129, 451, 0, 413, 399, 407, 198, 395, 445, 446, 129, 447, 407, 194, 395]) rfl, Zan_in (hs := []) rfl⟩
/-- KnitRiver.judge(I)I -/
def Zt30 : List Zent := [(0, 1, .aload_n 0, 0, 0, []),
  (1, 1, .iload_n 1, 1, 0, []),
  (2, 3, .invokevirtual 269, 44, 0, []),
  (5, 1, .istore_n 2, 2, 0, []),
  (6, 1, .iload_n 2, 2, 0, []),
  (7, 3, .ifCond .eq (9), 16, 0, []),
  (10, 1, .aload_n 0, 0, 0, []),
  (11, 1, .iload_n 2, 2, 0, []),
  (12, 3, .invokevirtual 73, 37, 0, []),
  (15, 1, .ireturn, 0, 0, []),
  (16, 1, .aload_n 0, 0, 0, []),
  (17, 3, .getfield 49, 0, 6, []),
  (20, 1, .iload_n 1, 1, 0, []),
  (21, 1, .aaload, 0, 0, []),
  (22, 1, .astore_n 3, 3, 0, []),
  (23, 1, .iconst 0, 0, 0, []),
  (24, 2, .istore 4, 4, 0, []),
  (26, 2, .iload 4, 4, 0, []),
  (28, 1, .aload_n 3, 3, 0, []),
  (29, 3, .getfield 244, 7, 2, []),
  (32, 3, .if_icmp .ge (40), 72, 0, []),
  (35, 2, .iload 4, 4, 0, []),
  (37, 1, .aload_n 0, 0, 0, []),
  (38, 3, .getfield 10, 0, 0, []),
  (41, 3, .getfield 77, 1, 5, []),
  (44, 3, .if_icmp .ge (28), 72, 0, []),
  (47, 1, .aload_n 3, 3, 0, []),
  (48, 3, .getfield 245, 7, 0, []),
  (51, 2, .iload 4, 4, 0, []),
  (53, 1, .iaload, 0, 0, []),
  (54, 1, .aload_n 0, 0, 0, []),
  (55, 3, .getfield 10, 0, 0, []),
  (58, 2, .iload 4, 4, 0, []),
  (60, 3, .invokevirtual 109, 170, 1, []),
  (63, 3, .if_icmp .ne (9), 72, 0, []),
  (66, 3, .iinc 4 1, 1, 0, [4]),
  (69, 3, .goto (-43), 26, 0, []),
  (72, 2, .iload 4, 4, 0, []),
  (74, 1, .ireturn, 0, 0, [])]
set_option maxRecDepth 100000 in
theorem Zk30 : Zchk 30 Zt30 := ⟨by decide +kernel, by decide +kernel, Zat_in (hs := [830, 832, 129, 833, 36, 448, 450, 129, 451, 0, 413, 399, 407, 198, 395, 407, 500, 501, 130, 503, 502]) rfl, Zan_in (hs := []) rfl⟩
/-- KnitRiver.image()I -/
def Zt31 : List Zent := [(0, 1, .aload_n 0, 0, 0, []),
  (1, 3, .getfield 16, 0, 1, []),
  (4, 1, .aload_n 0, 0, 0, []),
  (5, 3, .getfield 10, 0, 0, []),
  (8, 3, .invokevirtual 284, 167, 1, []),
  (11, 1, .aload_n 0, 0, 0, []),
  (12, 1, .dup, 0, 0, []),
  (13, 3, .getfield 57, 0, 8, []),
  (16, 1, .iconst 1, 1, 0, []),
  (17, 1, .iadd, 0, 0, []),
  (18, 3, .putfield 57, 0, 8, []),
  (21, 1, .aload_n 0, 0, 0, []),
  (22, 3, .getfield 57, 0, 8, []),
  (25, 1, .ireturn, 0, 0, [])]
set_option maxRecDepth 100000 in
theorem Zk31 : Zchk 31 Zt31 := ⟨by decide +kernel, by decide +kernel, Zat_in (hs := [408, 407, 859, 860, 130, 862, 861, 415, 415, 415]) rfl, Zan_in (hs := []) rfl⟩
/-- KnitRiver.restore()I -/
def Zt32 : List Zent := [(0, 1, .aload_n 0, 0, 0, []),
  (1, 3, .getfield 57, 0, 8, []),
  (4, 3, .ifCond .ne (9), 13, 0, []),
  (7, 1, .aload_n 0, 0, 0, []),
  (8, 1, .iconst 2, 2, 0, []),
  (9, 3, .invokevirtual 73, 37, 0, []),
  (12, 1, .ireturn, 0, 0, []),
  (13, 1, .aload_n 0, 0, 0, []),
  (14, 3, .getfield 10, 0, 0, []),
  (17, 1, .aload_n 0, 0, 0, []),
  (18, 3, .getfield 16, 0, 1, []),
  (21, 3, .invokevirtual 284, 167, 1, []),
  (24, 1, .aload_n 0, 0, 0, []),
  (25, 3, .getfield 10, 0, 0, []),
  (28, 3, .getfield 174, 1, 8, []),
  (31, 1, .ireturn, 0, 0, [])]
set_option maxRecDepth 100000 in
theorem Zk32 : Zchk 32 Zt32 := ⟨by decide +kernel, by decide +kernel, Zat_in (hs := [415, 448, 450, 129, 451, 0, 407, 408, 859, 860, 130, 862, 861, 407, 206]) rfl, Zan_in (hs := []) rfl⟩
/-- KnitRiver.tell(I)I -/
def Zt33 : List Zent := [(0, 1, .aload_n 0, 0, 0, []),
  (1, 3, .getfield 10, 0, 0, []),
  (4, 3, .getfield 287, 1, 14, []),
  (7, 2, .bipush 24, 24, 0, []),
  (9, 3, .if_icmp .lt (9), 18, 0, []),
  (12, 1, .aload_n 0, 0, 0, []),
  (13, 1, .iconst 4, 4, 0, []),
  (14, 3, .invokevirtual 73, 37, 0, []),
  (17, 1, .ireturn, 0, 0, []),
  (18, 1, .aload_n 0, 0, 0, []),
  (19, 3, .getfield 10, 0, 0, []),
  (22, 3, .getfield 290, 1, 13, []),
  (25, 1, .aload_n 0, 0, 0, []),
  (26, 3, .getfield 10, 0, 0, []),
  (29, 3, .getfield 287, 1, 14, []),
  (32, 1, .iload_n 1, 1, 0, []),
  (33, 1, .iastore, 0, 0, []),
  (34, 1, .aload_n 0, 0, 0, []),
  (35, 3, .getfield 10, 0, 0, []),
  (38, 1, .dup, 0, 0, []),
  (39, 3, .getfield 287, 1, 14, []),
  (42, 1, .iconst 1, 1, 0, []),
  (43, 1, .iadd, 0, 0, []),
  (44, 3, .putfield 287, 1, 14, []),
  (47, 1, .aload_n 0, 0, 0, []),
  (48, 3, .getfield 10, 0, 0, []),
  (51, 3, .getfield 287, 1, 14, []),
  (54, 1, .ireturn, 0, 0, [])]
set_option maxRecDepth 100000 in
theorem Zk33 : Zchk 33 Zt33 := ⟨by decide +kernel, by decide +kernel, Zat_in (hs := [407, 218, 448, 450, 129, 451, 0, 407, 216, 407, 218, 407, 218, 218, 407, 218]) rfl, Zan_in (hs := []) rfl⟩
/-- KnitRiver.check()I -/
def Zt34 : List Zent := [(0, 1, .aload_n 0, 0, 0, []),
  (1, 3, .getfield 10, 0, 0, []),
  (4, 3, .getfield 287, 1, 14, []),
  (7, 1, .istore_n 1, 1, 0, []),
  (8, 1, .aload_n 0, 0, 0, []),
  (9, 3, .getfield 10, 0, 0, []),
  (12, 1, .iconst 0, 0, 0, []),
  (13, 3, .putfield 287, 1, 14, []),
  (16, 1, .iconst 0, 0, 0, []),
  (17, 1, .istore_n 2, 2, 0, []),
  (18, 1, .iload_n 2, 2, 0, []),
  (19, 1, .iload_n 1, 1, 0, []),
  (20, 3, .if_icmp .ge (45), 65, 0, []),
  (23, 1, .iload_n 2, 2, 0, []),
  (24, 1, .aload_n 0, 0, 0, []),
  (25, 3, .getfield 10, 0, 0, []),
  (28, 3, .getfield 77, 1, 5, []),
  (31, 3, .if_icmp .ge (24), 55, 0, []),
  (34, 1, .aload_n 0, 0, 0, []),
  (35, 3, .getfield 10, 0, 0, []),
  (38, 3, .getfield 290, 1, 13, []),
  (41, 1, .iload_n 2, 2, 0, []),
  (42, 1, .iaload, 0, 0, []),
  (43, 1, .aload_n 0, 0, 0, []),
  (44, 3, .getfield 10, 0, 0, []),
  (47, 3, .getfield 100, 1, 2, []),
  (50, 1, .iload_n 2, 2, 0, []),
  (51, 1, .iaload, 0, 0, []),
  (52, 3, .if_icmp .eq (7), 59, 0, []),
  (55, 1, .iconst 1, 1, 0, []),
  (56, 1, .iload_n 2, 2, 0, []),
  (57, 1, .iadd, 0, 0, []),
  (58, 1, .ireturn, 0, 0, []),
  (59, 3, .iinc 2 1, 1, 0, [2]),
  (62, 3, .goto (-44), 18, 0, []),
  (65, 1, .iconst 0, 0, 0, []),
  (66, 1, .ireturn, 0, 0, [])]
set_option maxRecDepth 100000 in
theorem Zk34 : Zchk 34 Zt34 := ⟨by decide +kernel, by decide +kernel, Zat_in (hs := [407, 218, 407, 218, 407, 198, 407, 216, 407, 192]) rfl, Zan_in (hs := []) rfl⟩
/-- KnitRiver.count(I)I -/
def Zt35 : List Zent := [(0, 1, .iload_n 1, 1, 0, []),
  (1, 51, .tableswitch (123) 0 8 #[51, 59, 67, 75, 83, 91, 99, 107, 115], 0, 0, []),
  (52, 1, .aload_n 0, 0, 0, []),
  (53, 3, .getfield 10, 0, 0, []),
  (56, 3, .getfield 77, 1, 5, []),
  (59, 1, .ireturn, 0, 0, []),
  (60, 1, .aload_n 0, 0, 0, []),
  (61, 3, .getfield 10, 0, 0, []),
  (64, 3, .getfield 84, 1, 6, []),
  (67, 1, .ireturn, 0, 0, []),
  (68, 1, .aload_n 0, 0, 0, []),
  (69, 3, .getfield 10, 0, 0, []),
  (72, 3, .getfield 128, 1, 7, []),
  (75, 1, .ireturn, 0, 0, []),
  (76, 1, .aload_n 0, 0, 0, []),
  (77, 3, .getfield 10, 0, 0, []),
  (80, 3, .getfield 174, 1, 8, []),
  (83, 1, .ireturn, 0, 0, []),
  (84, 1, .aload_n 0, 0, 0, []),
  (85, 3, .getfield 10, 0, 0, []),
  (88, 3, .getfield 293, 1, 9, []),
  (91, 1, .ireturn, 0, 0, []),
  (92, 1, .aload_n 0, 0, 0, []),
  (93, 3, .getfield 10, 0, 0, []),
  (96, 3, .getfield 130, 1, 12, []),
  (99, 1, .ireturn, 0, 0, []),
  (100, 1, .aload_n 0, 0, 0, []),
  (101, 3, .getfield 10, 0, 0, []),
  (104, 3, .getfield 287, 1, 14, []),
  (107, 1, .ireturn, 0, 0, []),
  (108, 1, .aload_n 0, 0, 0, []),
  (109, 3, .getfield 43, 0, 5, []),
  (112, 3, .getfield 259, 6, 1, []),
  (115, 1, .ireturn, 0, 0, []),
  (116, 1, .aload_n 0, 0, 0, []),
  (117, 3, .getfield 10, 0, 0, []),
  (120, 3, .getfield 187, 1, 10, []),
  (123, 1, .ireturn, 0, 0, []),
  (124, 1, .aload_n 0, 0, 0, []),
  (125, 1, .iconst 1, 1, 0, []),
  (126, 3, .invokevirtual 73, 37, 0, []),
  (129, 1, .ireturn, 0, 0, [])]
set_option maxRecDepth 100000 in
theorem Zk35 : Zchk 35 Zt35 := ⟨by decide +kernel, by decide +kernel, Zat_in (hs := [407, 198, 407, 201, 407, 204, 407, 206, 407, 208, 407, 214, 407, 218, 412, 343, 407, 210, 448, 450, 129, 451, 0]) rfl, Zan_in (hs := []) rfl⟩
/-- KnitRiver.told(I)I -/
def Zt36 : List Zent := [(0, 1, .iload_n 1, 1, 0, []),
  (1, 1, .iconst 1, 1, 0, []),
  (2, 2, .bipush 6, 6, 0, []),
  (4, 3, .invokestatic 66, 46, 0, []),
  (7, 3, .ifCond .eq (12), 19, 0, []),
  (10, 1, .aload_n 0, 0, 0, []),
  (11, 3, .getfield 53, 0, 7, []),
  (14, 1, .iload_n 1, 1, 0, []),
  (15, 1, .iaload, 0, 0, []),
  (16, 3, .goto (8), 24, 0, []),
  (19, 1, .aload_n 0, 0, 0, []),
  (20, 1, .iconst 1, 1, 0, []),
  (21, 3, .invokevirtual 73, 37, 0, []),
  (24, 1, .ireturn, 0, 0, [])]
set_option maxRecDepth 100000 in
theorem Zk36 : Zchk 36 Zt36 := ⟨by decide +kernel, by decide +kernel, Zat_in (hs := [442, 443, 129, 444, 414, 448, 450, 129, 451, 0]) rfl, Zan_in (hs := []) rfl⟩
/-- KnitRiver.refuse(I)I -/
def Zt37 : List Zent := [(0, 1, .iload_n 1, 1, 0, []),
  (1, 1, .iconst 1, 1, 0, []),
  (2, 2, .bipush 6, 6, 0, []),
  (4, 3, .invokestatic 66, 46, 0, []),
  (7, 3, .ifCond .eq (13), 20, 0, []),
  (10, 1, .aload_n 0, 0, 0, []),
  (11, 3, .getfield 53, 0, 7, []),
  (14, 1, .iload_n 1, 1, 0, []),
  (15, 1, .dup2, 0, 0, []),
  (16, 1, .iaload, 0, 0, []),
  (17, 1, .iconst 1, 1, 0, []),
  (18, 1, .iadd, 0, 0, []),
  (19, 1, .iastore, 0, 0, []),
  (20, 3, .ldc_w 296, 1000000000, 1, []),
  (23, 1, .iload_n 1, 1, 0, []),
  (24, 1, .isub, 0, 0, []),
  (25, 1, .ireturn, 0, 0, [])]
set_option maxRecDepth 100000 in
theorem Zk37 : Zchk 37 Zt37 := ⟨by decide +kernel, by decide +kernel, Zat_in (hs := [442, 443, 129, 444, 414, 452]) rfl, Zan_in (hs := []) rfl⟩
/-- KnitRiver.isRow(I)Z -/
def Zt38 : List Zent := [(0, 1, .iload_n 1, 1, 0, []),
  (1, 1, .iconst 0, 0, 0, []),
  (2, 1, .aload_n 0, 0, 0, []),
  (3, 3, .getfield 10, 0, 0, []),
  (6, 3, .getfield 77, 1, 5, []),
  (9, 1, .iconst 1, 1, 0, []),
  (10, 1, .isub, 0, 0, []),
  (11, 3, .invokestatic 66, 46, 0, []),
  (14, 1, .ireturn, 0, 0, [])]
set_option maxRecDepth 100000 in
theorem Zk38 : Zchk 38 Zt38 := ⟨by decide +kernel, by decide +kernel, Zat_in (hs := [407, 198, 442, 443, 129, 444]) rfl, Zan_in (hs := []) rfl⟩
/-- KnitRiver.isStitch(I)Z -/
def Zt39 : List Zent := [(0, 1, .iload_n 0, 0, 0, []),
  (1, 1, .iconst 0, 0, 0, []),
  (2, 2, .bipush 69, 69, 0, []),
  (4, 3, .invokestatic 66, 46, 0, []),
  (7, 1, .ireturn, 0, 0, [])]
set_option maxRecDepth 100000 in
theorem Zk39 : Zchk 39 Zt39 := ⟨by decide +kernel, by decide +kernel, Zat_in (hs := [442, 443, 129, 444]) rfl, Zan_in (hs := []) rfl⟩
/-- KnitRiver.isTension(I)Z -/
def Zt40 : List Zent := [(0, 1, .iload_n 0, 0, 0, []),
  (1, 2, .bipush (-9), 9, 1, []),
  (3, 2, .bipush 9, 9, 0, []),
  (5, 3, .invokestatic 66, 46, 0, []),
  (8, 1, .ireturn, 0, 0, [])]
set_option maxRecDepth 100000 in
theorem Zk40 : Zchk 40 Zt40 := ⟨by decide +kernel, by decide +kernel, Zat_in (hs := [442, 443, 129, 444]) rfl, Zan_in (hs := []) rfl⟩
/-- KnitRiver.isWater(I)Z -/
def Zt41 : List Zent := [(0, 1, .iload_n 0, 0, 0, []),
  (1, 1, .iconst 0, 0, 0, []),
  (2, 3, .sipush 999, 999, 0, []),
  (5, 3, .invokestatic 66, 46, 0, []),
  (8, 1, .ireturn, 0, 0, [])]
set_option maxRecDepth 100000 in
theorem Zk41 : Zchk 41 Zt41 := ⟨by decide +kernel, by decide +kernel, Zat_in (hs := [442, 443, 129, 444]) rfl, Zan_in (hs := []) rfl⟩
/-- KnitRiver.isUse(I)Z -/
def Zt42 : List Zent := [(0, 1, .iload_n 0, 0, 0, []),
  (1, 1, .iconst 0, 0, 0, []),
  (2, 1, .iconst 1, 1, 0, []),
  (3, 3, .invokestatic 66, 46, 0, []),
  (6, 1, .ireturn, 0, 0, [])]
set_option maxRecDepth 100000 in
theorem Zk42 : Zchk 42 Zt42 := ⟨by decide +kernel, by decide +kernel, Zat_in (hs := [442, 443, 129, 444]) rfl, Zan_in (hs := []) rfl⟩
/-- KnitRiver.isSheet(I)Z -/
def Zt43 : List Zent := [(0, 1, .iload_n 0, 0, 0, []),
  (1, 1, .iconst 0, 0, 0, []),
  (2, 1, .iconst 3, 3, 0, []),
  (3, 3, .invokestatic 66, 46, 0, []),
  (6, 1, .ireturn, 0, 0, [])]
set_option maxRecDepth 100000 in
theorem Zk43 : Zchk 43 Zt43 := ⟨by decide +kernel, by decide +kernel, Zat_in (hs := [442, 443, 129, 444]) rfl, Zan_in (hs := []) rfl⟩
/-- KnitRiver.whyNoSheet(I)I -/
def Zt44 : List Zent := [(0, 1, .iload_n 1, 1, 0, []),
  (1, 3, .invokestatic 238, 43, 0, []),
  (4, 3, .ifCond .ne (5), 9, 0, []),
  (7, 1, .iconst 1, 1, 0, []),
  (8, 1, .ireturn, 0, 0, []),
  (9, 1, .aload_n 0, 0, 0, []),
  (10, 3, .getfield 49, 0, 6, []),
  (13, 1, .iload_n 1, 1, 0, []),
  (14, 1, .aaload, 0, 0, []),
  (15, 3, .getfield 241, 7, 1, []),
  (18, 3, .ifCond .ne (7), 25, 0, []),
  (21, 1, .iconst 2, 2, 0, []),
  (22, 3, .goto (4), 26, 0, []),
  (25, 1, .iconst 0, 0, 0, []),
  (26, 1, .ireturn, 0, 0, [])]
set_option maxRecDepth 100000 in
theorem Zk44 : Zchk 44 Zt44 := ⟨by decide +kernel, by decide +kernel, Zat_in (hs := [779, 780, 129, 781, 413, 397]) rfl, Zan_in (hs := []) rfl⟩
/-- KnitRiver.comesAsTold(ILKnitRiver$Sheet;)Z -/
def Zt45 : List Zent := [(0, 1, .aload_n 0, 0, 0, []),
  (1, 3, .getfield 10, 0, 0, []),
  (4, 1, .iload_n 1, 1, 0, []),
  (5, 1, .iconst 0, 0, 0, []),
  (6, 3, .invokevirtual 190, 175, 1, []),
  (9, 1, .pop, 0, 0, []),
  (10, 1, .iconst 0, 0, 0, []),
  (11, 1, .istore_n 3, 3, 0, []),
  (12, 1, .iload_n 3, 3, 0, []),
  (13, 1, .aload_n 2, 2, 0, []),
  (14, 3, .getfield 244, 7, 2, []),
  (17, 3, .if_icmp .ge (40), 57, 0, []),
  (20, 1, .iload_n 3, 3, 0, []),
  (21, 1, .aload_n 0, 0, 0, []),
  (22, 3, .getfield 10, 0, 0, []),
  (25, 3, .getfield 77, 1, 5, []),
  (28, 3, .if_icmp .gt (21), 49, 0, []),
  (31, 1, .aload_n 2, 2, 0, []),
  (32, 3, .getfield 245, 7, 0, []),
  (35, 1, .iload_n 3, 3, 0, []),
  (36, 1, .iaload, 0, 0, []),
  (37, 1, .aload_n 0, 0, 0, []),
  (38, 3, .getfield 10, 0, 0, []),
  (41, 3, .getfield 193, 1, 16, []),
  (44, 1, .iload_n 3, 3, 0, []),
  (45, 1, .iaload, 0, 0, []),
  (46, 3, .if_icmp .eq (5), 51, 0, []),
  (49, 1, .iconst 0, 0, 0, []),
  (50, 1, .ireturn, 0, 0, []),
  (51, 3, .iinc 3 1, 1, 0, [3]),
  (54, 3, .goto (-42), 12, 0, []),
  (57, 1, .iconst 1, 1, 0, []),
  (58, 1, .ireturn, 0, 0, [])]
set_option maxRecDepth 100000 in
theorem Zk45 : Zchk 45 Zt45 := ⟨by decide +kernel, by decide +kernel, Zat_in (hs := [407, 684, 657, 130, 659, 658, 399, 407, 198, 395, 407, 222]) rfl, Zan_in (hs := []) rfl⟩
/-- KnitRiver.within(III)Z -/
def Zt46 : List Zent := [(0, 1, .iload_n 0, 0, 0, []),
  (1, 1, .iload_n 1, 1, 0, []),
  (2, 3, .if_icmp .lt (12), 14, 0, []),
  (5, 1, .iload_n 0, 0, 0, []),
  (6, 1, .iload_n 2, 2, 0, []),
  (7, 3, .if_icmp .gt (7), 14, 0, []),
  (10, 1, .iconst 1, 1, 0, []),
  (11, 3, .goto (4), 15, 0, []),
  (14, 1, .iconst 0, 0, 0, []),
  (15, 1, .ireturn, 0, 0, [])]
set_option maxRecDepth 100000 in
theorem Zk46 : Zchk 46 Zt46 := ⟨by decide +kernel, by decide +kernel, Zat_in (hs := []) rfl, Zan_in (hs := []) rfl⟩
/-- KnitRiver.held(III)I -/
def Zt47 : List Zent := [(0, 1, .iload_n 1, 1, 0, []),
  (1, 1, .iload_n 2, 2, 0, []),
  (2, 1, .iload_n 0, 0, 0, []),
  (3, 3, .invokestatic 230, 201, 0, []),
  (6, 3, .invokestatic 297, 200, 0, []),
  (9, 1, .ireturn, 0, 0, [])]
set_option maxRecDepth 100000 in
theorem Zk47 : Zchk 47 Zt47 := ⟨by decide +kernel, by decide +kernel, Zat_in (hs := [482, 483, 139, 484, 485, 486, 139, 487]) rfl, Zan_in (hs := []) rfl⟩
/-- KnitRiver.commonDivisor(II)I -/
def Zt48 : List Zent := [(0, 1, .iload_n 0, 0, 0, []),
  (1, 1, .istore_n 2, 2, 0, []),
  (2, 1, .iload_n 1, 1, 0, []),
  (3, 1, .istore_n 3, 3, 0, []),
  (4, 1, .iconst 0, 0, 0, []),
  (5, 2, .istore 4, 4, 0, []),
  (7, 2, .iload 4, 4, 0, []),
  (9, 2, .bipush 64, 64, 0, []),
  (11, 3, .if_icmp .ge (23), 34, 0, []),
  (14, 1, .iload_n 3, 3, 0, []),
  (15, 3, .ifCond .le (19), 34, 0, []),
  (18, 1, .iload_n 2, 2, 0, []),
  (19, 1, .iload_n 3, 3, 0, []),
  (20, 1, .irem, 0, 0, []),
  (21, 2, .istore 5, 5, 0, []),
  (23, 1, .iload_n 3, 3, 0, []),
  (24, 1, .istore_n 2, 2, 0, []),
  (25, 2, .iload 5, 5, 0, []),
  (27, 1, .istore_n 3, 3, 0, []),
  (28, 3, .iinc 4 1, 1, 0, [4]),
  (31, 3, .goto (-24), 7, 0, []),
  (34, 1, .iload_n 2, 2, 0, []),
  (35, 1, .ireturn, 0, 0, [])]
set_option maxRecDepth 100000 in
theorem Zk48 : Zchk 48 Zt48 := ⟨by decide +kernel, by decide +kernel, Zat_in (hs := []) rfl, Zan_in (hs := []) rfl⟩
/-- KnitRiverModel.error(I)I -/
def Zt50 : List Zent := [(0, 1, .aload_n 0, 0, 0, []),
  (1, 3, .getfield 16, 8, 3, []),
  (4, 1, .iload_n 1, 1, 0, []),
  (5, 1, .dup2, 0, 0, []),
  (6, 1, .iaload, 0, 0, []),
  (7, 1, .iconst 1, 1, 0, []),
  (8, 1, .iadd, 0, 0, []),
  (9, 1, .iastore, 0, 0, []),
  (10, 2, .ldc 58, 1000000000, 1, []),
  (12, 1, .iload_n 1, 1, 0, []),
  (13, 1, .isub, 0, 0, []),
  (14, 1, .ireturn, 0, 0, [])]
set_option maxRecDepth 100000 in
theorem Zk50 : Zchk 50 Zt50 := ⟨by decide +kernel, by decide +kernel, Zat_in (hs := [914, 1004]) rfl, Zan_in (hs := []) rfl⟩
/-- KnitRiverModel.in(III)Z -/
def Zt51 : List Zent := [(0, 1, .iload_n 0, 0, 0, []),
  (1, 1, .iload_n 1, 1, 0, []),
  (2, 3, .if_icmp .lt (12), 14, 0, []),
  (5, 1, .iload_n 0, 0, 0, []),
  (6, 1, .iload_n 2, 2, 0, []),
  (7, 3, .if_icmp .gt (7), 14, 0, []),
  (10, 1, .iconst 1, 1, 0, []),
  (11, 3, .goto (4), 15, 0, []),
  (14, 1, .iconst 0, 0, 0, []),
  (15, 1, .ireturn, 0, 0, [])]
set_option maxRecDepth 100000 in
theorem Zk51 : Zchk 51 Zt51 := ⟨by decide +kernel, by decide +kernel, Zat_in (hs := []) rfl, Zan_in (hs := []) rfl⟩
/-- KnitRiverModel.held(III)I -/
def Zt52 : List Zent := [(0, 1, .iload_n 0, 0, 0, []),
  (1, 1, .iload_n 1, 1, 0, []),
  (2, 3, .if_icmp .ge (7), 9, 0, []),
  (5, 1, .iload_n 1, 1, 0, []),
  (6, 3, .goto (13), 19, 0, []),
  (9, 1, .iload_n 0, 0, 0, []),
  (10, 1, .iload_n 2, 2, 0, []),
  (11, 3, .if_icmp .le (7), 18, 0, []),
  (14, 1, .iload_n 2, 2, 0, []),
  (15, 3, .goto (4), 19, 0, []),
  (18, 1, .iload_n 0, 0, 0, []),
  (19, 1, .ireturn, 0, 0, [])]
set_option maxRecDepth 100000 in
theorem Zk52 : Zchk 52 Zt52 := ⟨by decide +kernel, by decide +kernel, Zat_in (hs := []) rfl, Zan_in (hs := []) rfl⟩
/-- KnitRiverModel.copyAll([I[I)V -/
def Zt53 : List Zent := [(0, 1, .iconst 0, 0, 0, []),
  (1, 1, .istore_n 2, 2, 0, []),
  (2, 1, .iload_n 2, 2, 0, []),
  (3, 3, .sipush 418, 418, 0, []),
  (6, 3, .if_icmp .ge (15), 21, 0, []),
  (9, 1, .aload_n 1, 1, 0, []),
  (10, 1, .iload_n 2, 2, 0, []),
  (11, 1, .aload_n 0, 0, 0, []),
  (12, 1, .iload_n 2, 2, 0, []),
  (13, 1, .iaload, 0, 0, []),
  (14, 1, .iastore, 0, 0, []),
  (15, 3, .iinc 2 1, 1, 0, [2]),
  (18, 3, .goto (-16), 2, 0, []),
  (21, 1, .return_, 0, 0, [])]
set_option maxRecDepth 100000 in
theorem Zk53 : Zchk 53 Zt53 := ⟨by decide +kernel, by decide +kernel, Zat_in (hs := []) rfl, Zan_in (hs := []) rfl⟩
/-- KnitRiverModel.isRow(I)Z -/
def Zt54 : List Zent := [(0, 1, .iload_n 1, 1, 0, []),
  (1, 1, .iconst 0, 0, 0, []),
  (2, 1, .aload_n 0, 0, 0, []),
  (3, 3, .getfield 7, 8, 0, []),
  (6, 2, .bipush 7, 7, 0, []),
  (8, 1, .iaload, 0, 0, []),
  (9, 1, .iconst 1, 1, 0, []),
  (10, 1, .isub, 0, 0, []),
  (11, 3, .invokestatic 59, 51, 0, []),
  (14, 1, .ireturn, 0, 0, [])]
set_option maxRecDepth 100000 in
theorem Zk54 : Zchk 54 Zt54 := ⟨by decide +kernel, by decide +kernel, Zat_in (hs := [911, 997, 998, 137, 999]) rfl, Zan_in (hs := []) rfl⟩
/-- KnitRiverModel.isTension(I)Z -/
def Zt55 : List Zent := [(0, 1, .iload_n 0, 0, 0, []),
  (1, 2, .bipush (-9), 9, 1, []),
  (3, 2, .bipush 9, 9, 0, []),
  (5, 3, .invokestatic 59, 51, 0, []),
  (8, 1, .ireturn, 0, 0, [])]
set_option maxRecDepth 100000 in
theorem Zk55 : Zchk 55 Zt55 := ⟨by decide +kernel, by decide +kernel, Zat_in (hs := [997, 998, 137, 999]) rfl, Zan_in (hs := []) rfl⟩
/-- KnitRiverModel.its(II)I -/
def Zt56 : List Zent := [(0, 1, .aload_n 0, 0, 0, []),
  (1, 3, .getfield 7, 8, 0, []),
  (4, 2, .bipush 9, 9, 0, []),
  (6, 1, .iconst 5, 5, 0, []),
  (7, 1, .iload_n 1, 1, 0, []),
  (8, 1, .imul, 0, 0, []),
  (9, 1, .iadd, 0, 0, []),
  (10, 1, .iload_n 2, 2, 0, []),
  (11, 1, .iadd, 0, 0, []),
  (12, 1, .iaload, 0, 0, []),
  (13, 1, .ireturn, 0, 0, [])]
set_option maxRecDepth 100000 in
theorem Zk56 : Zchk 56 Zt56 := ⟨by decide +kernel, by decide +kernel, Zat_in (hs := [911]) rfl, Zan_in (hs := []) rfl⟩
/-- KnitRiverModel.lays1(III)V -/
def Zt57 : List Zent := [(0, 1, .aload_n 0, 0, 0, []),
  (1, 3, .getfield 7, 8, 0, []),
  (4, 2, .bipush 9, 9, 0, []),
  (6, 1, .iconst 5, 5, 0, []),
  (7, 1, .iload_n 1, 1, 0, []),
  (8, 1, .imul, 0, 0, []),
  (9, 1, .iadd, 0, 0, []),
  (10, 1, .iload_n 2, 2, 0, []),
  (11, 1, .iadd, 0, 0, []),
  (12, 1, .iload_n 3, 3, 0, []),
  (13, 1, .iastore, 0, 0, []),
  (14, 1, .return_, 0, 0, [])]
set_option maxRecDepth 100000 in
theorem Zk57 : Zchk 57 Zt57 := ⟨by decide +kernel, by decide +kernel, Zat_in (hs := [911]) rfl, Zan_in (hs := []) rfl⟩
/-- KnitRiverModel.change1(II)I -/
def Zt58 : List Zent := [(0, 1, .aload_n 0, 0, 0, []),
  (1, 3, .getfield 7, 8, 0, []),
  (4, 1, .iload_n 1, 1, 0, []),
  (5, 1, .iaload, 0, 0, []),
  (6, 1, .istore_n 3, 3, 0, []),
  (7, 1, .aload_n 0, 0, 0, []),
  (8, 3, .getfield 7, 8, 0, []),
  (11, 1, .iload_n 1, 1, 0, []),
  (12, 1, .iload_n 2, 2, 0, []),
  (13, 1, .iastore, 0, 0, []),
  (14, 1, .iload_n 3, 3, 0, []),
  (15, 1, .ireturn, 0, 0, [])]
set_option maxRecDepth 100000 in
theorem Zk58 : Zchk 58 Zt58 := ⟨by decide +kernel, by decide +kernel, Zat_in (hs := [911, 911]) rfl, Zan_in (hs := []) rfl⟩
/-- KnitRiverModel.feed(JI)I -/
def Zt59 : List Zent := [(0, 1, .iload_n 3, 3, 0, []),
  (1, 1, .iconst 1, 1, 0, []),
  (2, 2, .bipush 8, 8, 0, []),
  (4, 3, .invokestatic 59, 51, 0, []),
  (7, 3, .ifCond .ne (9), 16, 0, []),
  (10, 1, .aload_n 0, 0, 0, []),
  (11, 1, .iconst 1, 1, 0, []),
  (12, 3, .invokevirtual 63, 50, 8, []),
  (15, 1, .ireturn, 0, 0, []),
  (16, 1, .aload_n 0, 0, 0, []),
  (17, 3, .getfield 7, 8, 0, []),
  (20, 1, .iconst 5, 5, 0, []),
  (21, 1, .iaload, 0, 0, []),
  (22, 1, .iload_n 3, 3, 0, []),
  (23, 1, .iadd, 0, 0, []),
  (24, 2, .bipush 60, 60, 0, []),
  (26, 3, .if_icmp .le (9), 35, 0, []),
  (29, 1, .aload_n 0, 0, 0, []),
  (30, 1, .iconst 4, 4, 0, []),
  (31, 3, .invokevirtual 63, 50, 8, []),
  (34, 1, .ireturn, 0, 0, []),
  (35, 1, .iconst 0, 0, 0, []),
  (36, 2, .istore 4, 4, 0, []),
  (38, 2, .iload 4, 4, 0, []),
  (40, 1, .iload_n 3, 3, 0, []),
  (41, 3, .if_icmp .ge (46), 87, 0, []),
  (44, 1, .aload_n 0, 0, 0, []),
  (45, 3, .getfield 7, 8, 0, []),
  (48, 3, .sipush 334, 334, 0, []),
  (51, 1, .aload_n 0, 0, 0, []),
  (52, 3, .getfield 7, 8, 0, []),
  (55, 1, .iconst 5, 5, 0, []),
  (56, 1, .iaload, 0, 0, []),
  (57, 1, .iadd, 0, 0, []),
  (58, 1, .lload_n 1, 1, 0, []),
  (59, 2, .bipush 8, 8, 0, []),
  (61, 2, .iload 4, 4, 0, []),
  (63, 1, .imul, 0, 0, []),
  (64, 1, .lshr, 0, 0, []),
  (65, 3, .ldc2_w 67, 255, 0, []),
  (68, 1, .land, 0, 0, []),
  (69, 1, .l2i, 0, 0, []),
  (70, 1, .iastore, 0, 0, []),
  (71, 1, .aload_n 0, 0, 0, []),
  (72, 3, .getfield 7, 8, 0, []),
  (75, 1, .iconst 5, 5, 0, []),
  (76, 1, .dup2, 0, 0, []),
  (77, 1, .iaload, 0, 0, []),
  (78, 1, .iconst 1, 1, 0, []),
  (79, 1, .iadd, 0, 0, []),
  (80, 1, .iastore, 0, 0, []),
  (81, 3, .iinc 4 1, 1, 0, [4]),
  (84, 3, .goto (-46), 38, 0, []),
  (87, 1, .aload_n 0, 0, 0, []),
  (88, 3, .getfield 7, 8, 0, []),
  (91, 1, .iconst 5, 5, 0, []),
  (92, 1, .iaload, 0, 0, []),
  (93, 1, .ireturn, 0, 0, [])]
set_option maxRecDepth 100000 in
theorem Zk59 : Zchk 59 Zt59 := ⟨by decide +kernel, by decide +kernel, Zat_in (hs := [997, 998, 137, 999, 1000, 1002, 137, 1003, 37, 911, 1000, 1002, 137, 1003, 37, 911, 911, 1005, 911, 911]) rfl, Zan_in (hs := []) rfl⟩
/-- KnitRiverModel.look()I -/
def Zt60 : List Zent := [(0, 1, .aload_n 0, 0, 0, []),
  (1, 3, .getfield 69, 8, 4, []),
  (4, 1, .aload_n 0, 0, 0, []),
  (5, 3, .getfield 7, 8, 0, []),
  (8, 1, .iconst 5, 5, 0, []),
  (9, 1, .iaload, 0, 0, []),
  (10, 3, .if_icmp .ge (19), 29, 0, []),
  (13, 1, .aload_n 0, 0, 0, []),
  (14, 3, .getfield 7, 8, 0, []),
  (17, 3, .sipush 334, 334, 0, []),
  (20, 1, .aload_n 0, 0, 0, []),
  (21, 3, .getfield 69, 8, 4, []),
  (24, 1, .iadd, 0, 0, []),
  (25, 1, .iaload, 0, 0, []),
  (26, 3, .goto (4), 30, 0, []),
  (29, 1, .iconst (-1), 1, 1, []),
  (30, 1, .ireturn, 0, 0, [])]
set_option maxRecDepth 100000 in
theorem Zk60 : Zchk 60 Zt60 := ⟨by decide +kernel, by decide +kernel, Zat_in (hs := [915, 911, 911, 915]) rfl, Zan_in (hs := []) rfl⟩
/-- KnitRiverModel.isName(I)Z -/
def Zt61 : List Zent := [(0, 1, .iload_n 1, 1, 0, []),
  (1, 2, .bipush 119, 119, 0, []),
  (3, 3, .if_icmp .eq (9), 12, 0, []),
  (6, 1, .iload_n 1, 1, 0, []),
  (7, 2, .bipush 116, 116, 0, []),
  (9, 3, .if_icmp .ne (5), 14, 0, []),
  (12, 1, .iconst 1, 1, 0, []),
  (13, 1, .ireturn, 0, 0, []),
  (14, 1, .iload_n 1, 1, 0, []),
  (15, 1, .aload_n 0, 0, 0, []),
  (16, 3, .getfield 73, 8, 7, []),
  (19, 3, .ifCond .ne (8), 27, 0, []),
  (22, 2, .bipush 98, 98, 0, []),
  (24, 3, .goto (5), 29, 0, []),
  (27, 2, .bipush 107, 107, 0, []),
  (29, 3, .if_icmp .ne (7), 36, 0, []),
  (32, 1, .iconst 1, 1, 0, []),
  (33, 3, .goto (4), 37, 0, []),
  (36, 1, .iconst 0, 0, 0, []),
  (37, 1, .ireturn, 0, 0, [])]
set_option maxRecDepth 100000 in
theorem Zk61 : Zchk 61 Zt61 := ⟨by decide +kernel, by decide +kernel, Zat_in (hs := [918]) rfl, Zan_in (hs := []) rfl⟩
/-- KnitRiverModel.step1(II)V -/
def Zt62 : List Zent := [(0, 1, .aload_n 0, 0, 0, []),
  (1, 3, .getfield 19, 8, 8, []),
  (4, 1, .iconst 2, 2, 0, []),
  (5, 1, .aload_n 0, 0, 0, []),
  (6, 3, .getfield 76, 8, 6, []),
  (9, 1, .imul, 0, 0, []),
  (10, 1, .iload_n 1, 1, 0, []),
  (11, 1, .iastore, 0, 0, []),
  (12, 1, .aload_n 0, 0, 0, []),
  (13, 3, .getfield 19, 8, 8, []),
  (16, 1, .iconst 2, 2, 0, []),
  (17, 1, .aload_n 0, 0, 0, []),
  (18, 3, .getfield 76, 8, 6, []),
  (21, 1, .imul, 0, 0, []),
  (22, 1, .iconst 1, 1, 0, []),
  (23, 1, .iadd, 0, 0, []),
  (24, 1, .iload_n 2, 2, 0, []),
  (25, 1, .iastore, 0, 0, []),
  (26, 1, .aload_n 0, 0, 0, []),
  (27, 1, .dup, 0, 0, []),
  (28, 3, .getfield 76, 8, 6, []),
  (31, 1, .iconst 1, 1, 0, []),
  (32, 1, .iadd, 0, 0, []),
  (33, 3, .putfield 76, 8, 6, []),
  (36, 1, .return_, 0, 0, [])]
set_option maxRecDepth 100000 in
theorem Zk62 : Zchk 62 Zt62 := ⟨by decide +kernel, by decide +kernel, Zat_in (hs := [919, 917, 919, 917, 917, 917]) rfl, Zan_in (hs := []) rfl⟩
/-- KnitRiverModel.whole()Z -/
def Zt63 : List Zent := [(0, 1, .aload_n 0, 0, 0, []),
  (1, 3, .invokevirtual 79, 64, 8, []),
  (4, 3, .ifCond .ne (5), 9, 0, []),
  (7, 1, .iconst 0, 0, 0, []),
  (8, 1, .ireturn, 0, 0, []),
  (9, 1, .aload_n 0, 0, 0, []),
  (10, 3, .invokevirtual 83, 60, 8, []),
  (13, 2, .bipush 124, 124, 0, []),
  (15, 3, .if_icmp .ne (32), 47, 0, []),
  (18, 1, .aload_n 0, 0, 0, []),
  (19, 1, .dup, 0, 0, []),
  (20, 3, .getfield 69, 8, 4, []),
  (23, 1, .iconst 1, 1, 0, []),
  (24, 1, .iadd, 0, 0, []),
  (25, 3, .putfield 69, 8, 4, []),
  (28, 1, .aload_n 0, 0, 0, []),
  (29, 3, .invokevirtual 79, 64, 8, []),
  (32, 3, .ifCond .ne (5), 37, 0, []),
  (35, 1, .iconst 0, 0, 0, []),
  (36, 1, .ireturn, 0, 0, []),
  (37, 1, .aload_n 0, 0, 0, []),
  (38, 1, .iconst 3, 3, 0, []),
  (39, 2, .bipush 124, 124, 0, []),
  (41, 3, .invokevirtual 87, 62, 8, []),
  (44, 3, .goto (-35), 9, 0, []),
  (47, 1, .iconst 1, 1, 0, []),
  (48, 1, .ireturn, 0, 0, [])]
set_option maxRecDepth 100000 in
theorem Zk63 : Zchk 63 Zt63 := ⟨by decide +kernel, by decide +kernel, Zat_in (hs := [1014, 1016, 137, 1017, 39, 1034, 1036, 137, 1037, 44, 915, 915, 1014, 1016, 137, 1017, 39, 1042, 1044, 137, 1045, 46]) rfl, Zan_in (hs := []) rfl⟩
/-- KnitRiverModel.both()Z -/
def Zt64 : List Zent := [(0, 1, .aload_n 0, 0, 0, []),
  (1, 3, .invokevirtual 91, 65, 8, []),
  (4, 3, .ifCond .ne (5), 9, 0, []),
  (7, 1, .iconst 0, 0, 0, []),
  (8, 1, .ireturn, 0, 0, []),
  (9, 1, .aload_n 0, 0, 0, []),
  (10, 3, .invokevirtual 83, 60, 8, []),
  (13, 2, .bipush 38, 38, 0, []),
  (15, 3, .if_icmp .ne (32), 47, 0, []),
  (18, 1, .aload_n 0, 0, 0, []),
  (19, 1, .dup, 0, 0, []),
  (20, 3, .getfield 69, 8, 4, []),
  (23, 1, .iconst 1, 1, 0, []),
  (24, 1, .iadd, 0, 0, []),
  (25, 3, .putfield 69, 8, 4, []),
  (28, 1, .aload_n 0, 0, 0, []),
  (29, 3, .invokevirtual 91, 65, 8, []),
  (32, 3, .ifCond .ne (5), 37, 0, []),
  (35, 1, .iconst 0, 0, 0, []),
  (36, 1, .ireturn, 0, 0, []),
  (37, 1, .aload_n 0, 0, 0, []),
  (38, 1, .iconst 3, 3, 0, []),
  (39, 2, .bipush 38, 38, 0, []),
  (41, 3, .invokevirtual 87, 62, 8, []),
  (44, 3, .goto (-35), 9, 0, []),
  (47, 1, .iconst 1, 1, 0, []),
  (48, 1, .ireturn, 0, 0, [])]
set_option maxRecDepth 100000 in
theorem Zk64 : Zchk 64 Zt64 := ⟨by decide +kernel, by decide +kernel, Zat_in (hs := [1018, 1020, 137, 1021, 40, 1034, 1036, 137, 1037, 44, 915, 915, 1018, 1020, 137, 1021, 40, 1042, 1044, 137, 1045, 46]) rfl, Zan_in (hs := []) rfl⟩
/-- KnitRiverModel.compared()Z -/
def Zt65 : List Zent := [(0, 1, .aload_n 0, 0, 0, []),
  (1, 3, .invokevirtual 94, 66, 8, []),
  (4, 3, .ifCond .ne (5), 9, 0, []),
  (7, 1, .iconst 0, 0, 0, []),
  (8, 1, .ireturn, 0, 0, []),
  (9, 1, .aload_n 0, 0, 0, []),
  (10, 3, .invokevirtual 83, 60, 8, []),
  (13, 1, .istore_n 1, 1, 0, []),
  (14, 1, .iload_n 1, 1, 0, []),
  (15, 2, .bipush 60, 60, 0, []),
  (17, 3, .if_icmp .eq (17), 34, 0, []),
  (20, 1, .iload_n 1, 1, 0, []),
  (21, 2, .bipush 61, 61, 0, []),
  (23, 3, .if_icmp .eq (11), 34, 0, []),
  (26, 1, .iload_n 1, 1, 0, []),
  (27, 2, .bipush 62, 62, 0, []),
  (29, 3, .if_icmp .eq (5), 34, 0, []),
  (32, 1, .iconst 1, 1, 0, []),
  (33, 1, .ireturn, 0, 0, []),
  (34, 1, .aload_n 0, 0, 0, []),
  (35, 1, .dup, 0, 0, []),
  (36, 3, .getfield 69, 8, 4, []),
  (39, 1, .iconst 1, 1, 0, []),
  (40, 1, .iadd, 0, 0, []),
  (41, 3, .putfield 69, 8, 4, []),
  (44, 1, .aload_n 0, 0, 0, []),
  (45, 3, .invokevirtual 94, 66, 8, []),
  (48, 3, .ifCond .ne (5), 53, 0, []),
  (51, 1, .iconst 0, 0, 0, []),
  (52, 1, .ireturn, 0, 0, []),
  (53, 1, .aload_n 0, 0, 0, []),
  (54, 1, .iconst 3, 3, 0, []),
  (55, 1, .iload_n 1, 1, 0, []),
  (56, 3, .invokevirtual 87, 62, 8, []),
  (59, 1, .iconst 1, 1, 0, []),
  (60, 1, .ireturn, 0, 0, [])]
set_option maxRecDepth 100000 in
theorem Zk65 : Zchk 65 Zt65 := ⟨by decide +kernel, by decide +kernel, Zat_in (hs := [1022, 1024, 137, 1025, 41, 1034, 1036, 137, 1037, 44, 915, 915, 1022, 1024, 137, 1025, 41, 1042, 1044, 137, 1045, 46]) rfl, Zan_in (hs := []) rfl⟩
/-- KnitRiverModel.sum()Z -/
def Zt66 : List Zent := [(0, 1, .aload_n 0, 0, 0, []),
  (1, 3, .invokevirtual 97, 67, 8, []),
  (4, 3, .ifCond .ne (5), 9, 0, []),
  (7, 1, .iconst 0, 0, 0, []),
  (8, 1, .ireturn, 0, 0, []),
  (9, 1, .aload_n 0, 0, 0, []),
  (10, 3, .invokevirtual 83, 60, 8, []),
  (13, 2, .bipush 43, 43, 0, []),
  (15, 3, .if_icmp .eq (12), 27, 0, []),
  (18, 1, .aload_n 0, 0, 0, []),
  (19, 3, .invokevirtual 83, 60, 8, []),
  (22, 2, .bipush 45, 45, 0, []),
  (24, 3, .if_icmp .ne (36), 60, 0, []),
  (27, 1, .aload_n 0, 0, 0, []),
  (28, 3, .invokevirtual 83, 60, 8, []),
  (31, 1, .istore_n 1, 1, 0, []),
  (32, 1, .aload_n 0, 0, 0, []),
  (33, 1, .dup, 0, 0, []),
  (34, 3, .getfield 69, 8, 4, []),
  (37, 1, .iconst 1, 1, 0, []),
  (38, 1, .iadd, 0, 0, []),
  (39, 3, .putfield 69, 8, 4, []),
  (42, 1, .aload_n 0, 0, 0, []),
  (43, 3, .invokevirtual 97, 67, 8, []),
  (46, 3, .ifCond .ne (5), 51, 0, []),
  (49, 1, .iconst 0, 0, 0, []),
  (50, 1, .ireturn, 0, 0, []),
  (51, 1, .aload_n 0, 0, 0, []),
  (52, 1, .iconst 3, 3, 0, []),
  (53, 1, .iload_n 1, 1, 0, []),
  (54, 3, .invokevirtual 87, 62, 8, []),
  (57, 3, .goto (-48), 9, 0, []),
  (60, 1, .iconst 1, 1, 0, []),
  (61, 1, .ireturn, 0, 0, [])]
set_option maxRecDepth 100000 in
theorem Zk66 : Zchk 66 Zt66 := ⟨by decide +kernel, by decide +kernel, Zat_in (hs := [1026, 1028, 137, 1029, 42, 1034, 1036, 137, 1037, 44, 1034, 1036, 137, 1037, 44, 1034, 1036, 137, 1037, 44, 915, 915, 1026, 1028, 137, 1029, 42, 1042, 1044, 137, 1045, 46]) rfl, Zan_in (hs := []) rfl⟩
/-- KnitRiverModel.product()Z -/
def Zt67 : List Zent := [(0, 1, .aload_n 0, 0, 0, []),
  (1, 3, .invokevirtual 100, 69, 8, []),
  (4, 3, .ifCond .ne (5), 9, 0, []),
  (7, 1, .iconst 0, 0, 0, []),
  (8, 1, .ireturn, 0, 0, []),
  (9, 1, .aload_n 0, 0, 0, []),
  (10, 3, .invokevirtual 83, 60, 8, []),
  (13, 2, .bipush 42, 42, 0, []),
  (15, 3, .if_icmp .eq (21), 36, 0, []),
  (18, 1, .aload_n 0, 0, 0, []),
  (19, 3, .invokevirtual 83, 60, 8, []),
  (22, 2, .bipush 47, 47, 0, []),
  (24, 3, .if_icmp .eq (12), 36, 0, []),
  (27, 1, .aload_n 0, 0, 0, []),
  (28, 3, .invokevirtual 83, 60, 8, []),
  (31, 2, .bipush 37, 37, 0, []),
  (33, 3, .if_icmp .ne (36), 69, 0, []),
  (36, 1, .aload_n 0, 0, 0, []),
  (37, 3, .invokevirtual 83, 60, 8, []),
  (40, 1, .istore_n 1, 1, 0, []),
  (41, 1, .aload_n 0, 0, 0, []),
  (42, 1, .dup, 0, 0, []),
  (43, 3, .getfield 69, 8, 4, []),
  (46, 1, .iconst 1, 1, 0, []),
  (47, 1, .iadd, 0, 0, []),
  (48, 3, .putfield 69, 8, 4, []),
  (51, 1, .aload_n 0, 0, 0, []),
  (52, 3, .invokevirtual 100, 69, 8, []),
  (55, 3, .ifCond .ne (5), 60, 0, []),
  (58, 1, .iconst 0, 0, 0, []),
  (59, 1, .ireturn, 0, 0, []),
  (60, 1, .aload_n 0, 0, 0, []),
  (61, 1, .iconst 3, 3, 0, []),
  (62, 1, .iload_n 1, 1, 0, []),
  (63, 3, .invokevirtual 87, 62, 8, []),
  (66, 3, .goto (-57), 9, 0, []),
  (69, 1, .iconst 1, 1, 0, []),
  (70, 1, .ireturn, 0, 0, [])]
set_option maxRecDepth 100000 in
theorem Zk67 : Zchk 67 Zt67 := ⟨by decide +kernel, by decide +kernel, Zat_in (hs := [1030, 1032, 137, 1033, 43, 1034, 1036, 137, 1037, 44, 1034, 1036, 137, 1037, 44, 1034, 1036, 137, 1037, 44, 1034, 1036, 137, 1037, 44, 915, 915, 1030, 1032, 137, 1033, 43, 1042, 1044, 137, 1045, 46]) rfl, Zan_in (hs := []) rfl⟩
/-- KnitRiverModel.opens()Z -/
def Zt68 : List Zent := [(0, 1, .aload_n 0, 0, 0, []),
  (1, 3, .getfield 103, 8, 5, []),
  (4, 1, .iconst 5, 5, 0, []),
  (5, 3, .if_icmp .ne (5), 10, 0, []),
  (8, 1, .iconst 0, 0, 0, []),
  (9, 1, .ireturn, 0, 0, []),
  (10, 1, .aload_n 0, 0, 0, []),
  (11, 1, .dup, 0, 0, []),
  (12, 3, .getfield 103, 8, 5, []),
  (15, 1, .iconst 1, 1, 0, []),
  (16, 1, .iadd, 0, 0, []),
  (17, 3, .putfield 103, 8, 5, []),
  (20, 1, .aload_n 0, 0, 0, []),
  (21, 1, .dup, 0, 0, []),
  (22, 3, .getfield 69, 8, 4, []),
  (25, 1, .iconst 1, 1, 0, []),
  (26, 1, .iadd, 0, 0, []),
  (27, 3, .putfield 69, 8, 4, []),
  (30, 1, .iconst 1, 1, 0, []),
  (31, 1, .ireturn, 0, 0, [])]
set_option maxRecDepth 100000 in
theorem Zk68 : Zchk 68 Zt68 := ⟨by decide +kernel, by decide +kernel, Zat_in (hs := [916, 916, 916, 915, 915]) rfl, Zan_in (hs := []) rfl⟩
/-- KnitRiverModel.one()Z -/
def Zt69 : List Zent := [(0, 1, .aload_n 0, 0, 0, []),
  (1, 3, .invokevirtual 83, 60, 8, []),
  (4, 1, .istore_n 1, 1, 0, []),
  (5, 1, .aload_n 0, 0, 0, []),
  (6, 1, .iload_n 1, 1, 0, []),
  (7, 3, .invokevirtual 106, 61, 8, []),
  (10, 3, .ifCond .eq (21), 31, 0, []),
  (13, 1, .aload_n 0, 0, 0, []),
  (14, 1, .dup, 0, 0, []),
  (15, 3, .getfield 69, 8, 4, []),
  (18, 1, .iconst 1, 1, 0, []),
  (19, 1, .iadd, 0, 0, []),
  (20, 3, .putfield 69, 8, 4, []),
  (23, 1, .aload_n 0, 0, 0, []),
  (24, 1, .iconst 1, 1, 0, []),
  (25, 1, .iload_n 1, 1, 0, []),
  (26, 3, .invokevirtual 87, 62, 8, []),
  (29, 1, .iconst 1, 1, 0, []),
  (30, 1, .ireturn, 0, 0, []),
  (31, 1, .iload_n 1, 1, 0, []),
  (32, 2, .bipush 48, 48, 0, []),
  (34, 2, .bipush 57, 57, 0, []),
  (36, 3, .invokestatic 59, 51, 0, []),
  (39, 3, .ifCond .eq (63), 102, 0, []),
  (42, 1, .iconst 0, 0, 0, []),
  (43, 1, .istore_n 2, 2, 0, []),
  (44, 1, .iconst 0, 0, 0, []),
  (45, 1, .istore_n 3, 3, 0, []),
  (46, 1, .iload_n 3, 3, 0, []),
  (47, 1, .iconst 4, 4, 0, []),
  (48, 3, .if_icmp .ge (46), 94, 0, []),
  (51, 1, .aload_n 0, 0, 0, []),
  (52, 3, .invokevirtual 83, 60, 8, []),
  (55, 2, .bipush 48, 48, 0, []),
  (57, 2, .bipush 57, 57, 0, []),
  (59, 3, .invokestatic 59, 51, 0, []),
  (62, 3, .ifCond .eq (32), 94, 0, []),
  (65, 2, .bipush 10, 10, 0, []),
  (67, 1, .iload_n 2, 2, 0, []),
  (68, 1, .imul, 0, 0, []),
  (69, 1, .aload_n 0, 0, 0, []),
  (70, 3, .invokevirtual 83, 60, 8, []),
  (73, 1, .iadd, 0, 0, []),
  (74, 2, .bipush 48, 48, 0, []),
  (76, 1, .isub, 0, 0, []),
  (77, 1, .istore_n 2, 2, 0, []),
  (78, 1, .aload_n 0, 0, 0, []),
  (79, 1, .dup, 0, 0, []),
  (80, 3, .getfield 69, 8, 4, []),
  (83, 1, .iconst 1, 1, 0, []),
  (84, 1, .iadd, 0, 0, []),
  (85, 3, .putfield 69, 8, 4, []),
  (88, 3, .iinc 3 1, 1, 0, [3]),
  (91, 3, .goto (-45), 46, 0, []),
  (94, 1, .aload_n 0, 0, 0, []),
  (95, 1, .iconst 0, 0, 0, []),
  (96, 1, .iload_n 2, 2, 0, []),
  (97, 3, .invokevirtual 87, 62, 8, []),
  (100, 1, .iconst 1, 1, 0, []),
  (101, 1, .ireturn, 0, 0, []),
  (102, 1, .iload_n 1, 1, 0, []),
  (103, 2, .bipush 33, 33, 0, []),
  (105, 3, .if_icmp .ne (37), 142, 0, []),
  (108, 1, .aload_n 0, 0, 0, []),
  (109, 3, .invokevirtual 110, 68, 8, []),
  (112, 3, .ifCond .eq (10), 122, 0, []),
  (115, 1, .aload_n 0, 0, 0, []),
  (116, 3, .invokevirtual 100, 69, 8, []),
  (119, 3, .ifCond .ne (5), 124, 0, []),
  (122, 1, .iconst 0, 0, 0, []),
  (123, 1, .ireturn, 0, 0, []),
  (124, 1, .aload_n 0, 0, 0, []),
  (125, 1, .dup, 0, 0, []),
  (126, 3, .getfield 103, 8, 5, []),
  (129, 1, .iconst 1, 1, 0, []),
  (130, 1, .isub, 0, 0, []),
  (131, 3, .putfield 103, 8, 5, []),
  (134, 1, .aload_n 0, 0, 0, []),
  (135, 1, .iconst 2, 2, 0, []),
  (136, 1, .iconst 0, 0, 0, []),
  (137, 3, .invokevirtual 87, 62, 8, []),
  (140, 1, .iconst 1, 1, 0, []),
  (141, 1, .ireturn, 0, 0, []),
  (142, 1, .iload_n 1, 1, 0, []),
  (143, 2, .bipush 40, 40, 0, []),
  (145, 3, .if_icmp .ne (26), 171, 0, []),
  (148, 1, .aload_n 0, 0, 0, []),
  (149, 3, .invokevirtual 110, 68, 8, []),
  (152, 3, .ifCond .eq (19), 171, 0, []),
  (155, 1, .aload_n 0, 0, 0, []),
  (156, 3, .invokevirtual 113, 63, 8, []),
  (159, 3, .ifCond .eq (12), 171, 0, []),
  (162, 1, .aload_n 0, 0, 0, []),
  (163, 3, .invokevirtual 83, 60, 8, []),
  (166, 2, .bipush 41, 41, 0, []),
  (168, 3, .if_icmp .eq (5), 173, 0, []),
  (171, 1, .iconst 0, 0, 0, []),
  (172, 1, .ireturn, 0, 0, []),
  (173, 1, .aload_n 0, 0, 0, []),
  (174, 1, .dup, 0, 0, []),
  (175, 3, .getfield 69, 8, 4, []),
  (178, 1, .iconst 1, 1, 0, []),
  (179, 1, .iadd, 0, 0, []),
  (180, 3, .putfield 69, 8, 4, []),
  (183, 1, .aload_n 0, 0, 0, []),
  (184, 1, .dup, 0, 0, []),
  (185, 3, .getfield 103, 8, 5, []),
  (188, 1, .iconst 1, 1, 0, []),
  (189, 1, .isub, 0, 0, []),
  (190, 3, .putfield 103, 8, 5, []),
  (193, 1, .iconst 1, 1, 0, []),
  (194, 1, .ireturn, 0, 0, [])]
set_option maxRecDepth 100000 in
theorem Zk69 : Zchk 69 Zt69 := ⟨by decide +kernel, by decide +kernel, Zat_in (hs := [1034, 1036, 137, 1037, 44, 1038, 1040, 137, 1041, 45, 915, 915, 1042, 1044, 137, 1045, 46, 997, 998, 137, 999, 1034, 1036, 137, 1037, 44, 997, 998, 137, 999, 1034, 1036, 137, 1037, 44, 915, 915, 1042, 1044, 137, 1045, 46, 1046, 1048, 137, 1049, 47, 1030, 1032, 137, 1033, 43, 916, 916, 1042, 1044, 137, 1045, 46, 1046, 1048, 137, 1049, 47, 1010, 1012, 137, 1013, 38, 1034, 1036, 137, 1037, 44, 915, 915, 916, 916]) rfl, Zan_in (hs := []) rfl⟩
/-- KnitRiverModel.hasText(I)Z -/
def Zt70 : List Zent := [(0, 1, .aload_n 0, 0, 0, []),
  (1, 3, .getfield 7, 8, 0, []),
  (4, 2, .bipush 84, 84, 0, []),
  (6, 2, .bipush 125, 125, 0, []),
  (8, 1, .iload_n 1, 1, 0, []),
  (9, 1, .imul, 0, 0, []),
  (10, 1, .iadd, 0, 0, []),
  (11, 1, .iaload, 0, 0, []),
  (12, 3, .ifCond .le (7), 19, 0, []),
  (15, 1, .iconst 1, 1, 0, []),
  (16, 3, .goto (4), 20, 0, []),
  (19, 1, .iconst 0, 0, 0, []),
  (20, 1, .ireturn, 0, 0, [])]
set_option maxRecDepth 100000 in
theorem Zk70 : Zchk 70 Zt70 := ⟨by decide +kernel, by decide +kernel, Zat_in (hs := [911]) rfl, Zan_in (hs := []) rfl⟩
/-- KnitRiverModel.text(I)I -/
def Zt71 : List Zent := [(0, 1, .iload_n 1, 1, 0, []),
  (1, 1, .iconst 0, 0, 0, []),
  (2, 1, .iconst 1, 1, 0, []),
  (3, 3, .invokestatic 59, 51, 0, []),
  (6, 3, .ifCond .ne (9), 15, 0, []),
  (9, 1, .aload_n 0, 0, 0, []),
  (10, 1, .iconst 1, 1, 0, []),
  (11, 3, .invokevirtual 63, 50, 8, []),
  (14, 1, .ireturn, 0, 0, []),
  (15, 1, .aload_n 0, 0, 0, []),
  (16, 1, .iload_n 1, 1, 0, []),
  (17, 3, .putfield 73, 8, 7, []),
  (20, 1, .aload_n 0, 0, 0, []),
  (21, 1, .iconst 0, 0, 0, []),
  (22, 3, .putfield 69, 8, 4, []),
  (25, 1, .aload_n 0, 0, 0, []),
  (26, 1, .iconst 0, 0, 0, []),
  (27, 3, .putfield 103, 8, 5, []),
  (30, 1, .aload_n 0, 0, 0, []),
  (31, 1, .iconst 0, 0, 0, []),
  (32, 3, .putfield 76, 8, 6, []),
  (35, 1, .aload_n 0, 0, 0, []),
  (36, 3, .invokevirtual 113, 63, 8, []),
  (39, 3, .ifCond .eq (20), 59, 0, []),
  (42, 1, .aload_n 0, 0, 0, []),
  (43, 3, .getfield 69, 8, 4, []),
  (46, 1, .aload_n 0, 0, 0, []),
  (47, 3, .getfield 7, 8, 0, []),
  (50, 1, .iconst 5, 5, 0, []),
  (51, 1, .iaload, 0, 0, []),
  (52, 3, .if_icmp .ne (7), 59, 0, []),
  (55, 1, .iconst 1, 1, 0, []),
  (56, 3, .goto (4), 60, 0, []),
  (59, 1, .iconst 0, 0, 0, []),
  (60, 1, .istore_n 2, 2, 0, []),
  (61, 1, .aload_n 0, 0, 0, []),
  (62, 3, .getfield 7, 8, 0, []),
  (65, 1, .iconst 5, 5, 0, []),
  (66, 1, .iconst 0, 0, 0, []),
  (67, 1, .iastore, 0, 0, []),
  (68, 1, .iload_n 2, 2, 0, []),
  (69, 3, .ifCond .ne (11), 80, 0, []),
  (72, 2, .bipush (-10), 10, 1, []),
  (74, 1, .aload_n 0, 0, 0, []),
  (75, 3, .getfield 69, 8, 4, []),
  (78, 1, .isub, 0, 0, []),
  (79, 1, .ireturn, 0, 0, []),
  (80, 2, .bipush 84, 84, 0, []),
  (82, 2, .bipush 125, 125, 0, []),
  (84, 1, .iload_n 1, 1, 0, []),
  (85, 1, .imul, 0, 0, []),
  (86, 1, .iadd, 0, 0, []),
  (87, 1, .istore_n 3, 3, 0, []),
  (88, 1, .aload_n 0, 0, 0, []),
  (89, 3, .getfield 7, 8, 0, []),
  (92, 1, .iload_n 3, 3, 0, []),
  (93, 1, .aload_n 0, 0, 0, []),
  (94, 3, .getfield 76, 8, 6, []),
  (97, 1, .iastore, 0, 0, []),
  (98, 1, .iconst 0, 0, 0, []),
  (99, 2, .istore 4, 4, 0, []),
  (101, 2, .iload 4, 4, 0, []),
  (103, 1, .iconst 2, 2, 0, []),
  (104, 1, .aload_n 0, 0, 0, []),
  (105, 3, .getfield 76, 8, 6, []),
  (108, 1, .imul, 0, 0, []),
  (109, 3, .if_icmp .ge (27), 136, 0, []),
  (112, 1, .aload_n 0, 0, 0, []),
  (113, 3, .getfield 7, 8, 0, []),
  (116, 1, .iload_n 3, 3, 0, []),
  (117, 1, .iconst 1, 1, 0, []),
  (118, 1, .iadd, 0, 0, []),
  (119, 2, .iload 4, 4, 0, []),
  (121, 1, .iadd, 0, 0, []),
  (122, 1, .aload_n 0, 0, 0, []),
  (123, 3, .getfield 19, 8, 8, []),
  (126, 2, .iload 4, 4, 0, []),
  (128, 1, .iaload, 0, 0, []),
  (129, 1, .iastore, 0, 0, []),
  (130, 3, .iinc 4 1, 1, 0, [4]),
  (133, 3, .goto (-32), 101, 0, []),
  (136, 1, .iconst 1, 1, 0, []),
  (137, 1, .ireturn, 0, 0, [])]
set_option maxRecDepth 100000 in
theorem Zk71 : Zchk 71 Zt71 := ⟨by decide +kernel, by decide +kernel, Zat_in (hs := [997, 998, 137, 999, 1000, 1002, 137, 1003, 37, 918, 915, 916, 917, 1010, 1012, 137, 1013, 38, 915, 911, 911, 915, 911, 917, 917, 911, 919]) rfl, Zan_in (hs := []) rfl⟩
/-- KnitRiverModel.untell(I)I -/
def Zt72 : List Zent := [(0, 1, .iload_n 1, 1, 0, []),
  (1, 1, .iconst 0, 0, 0, []),
  (2, 1, .iconst 1, 1, 0, []),
  (3, 3, .invokestatic 59, 51, 0, []),
  (6, 3, .ifCond .ne (9), 15, 0, []),
  (9, 1, .aload_n 0, 0, 0, []),
  (10, 1, .iconst 1, 1, 0, []),
  (11, 3, .invokevirtual 63, 50, 8, []),
  (14, 1, .ireturn, 0, 0, []),
  (15, 1, .aload_n 0, 0, 0, []),
  (16, 1, .iload_n 1, 1, 0, []),
  (17, 3, .invokevirtual 116, 70, 8, []),
  (20, 3, .ifCond .eq (7), 27, 0, []),
  (23, 1, .iconst 1, 1, 0, []),
  (24, 3, .goto (4), 28, 0, []),
  (27, 1, .iconst 0, 0, 0, []),
  (28, 1, .istore_n 2, 2, 0, []),
  (29, 1, .aload_n 0, 0, 0, []),
  (30, 3, .getfield 7, 8, 0, []),
  (33, 2, .bipush 84, 84, 0, []),
  (35, 2, .bipush 125, 125, 0, []),
  (37, 1, .iload_n 1, 1, 0, []),
  (38, 1, .imul, 0, 0, []),
  (39, 1, .iadd, 0, 0, []),
  (40, 1, .iconst 0, 0, 0, []),
  (41, 1, .iastore, 0, 0, []),
  (42, 1, .iload_n 2, 2, 0, []),
  (43, 1, .ireturn, 0, 0, [])]
set_option maxRecDepth 100000 in
theorem Zk72 : Zchk 72 Zt72 := ⟨by decide +kernel, by decide +kernel, Zat_in (hs := [997, 998, 137, 999, 1000, 1002, 137, 1003, 37, 1054, 1056, 137, 1057, 64, 911]) rfl, Zan_in (hs := []) rfl⟩
/-- KnitRiverModel.joined(III)I -/
def Zt73 : List Zent := [(0, 1, .iload_n 0, 0, 0, []),
  (1, 119, .tableswitch (217) 37 62 #[153, 203, 217, 217, 217, 127, 119, 217, 123, 217, 131, 217, 217, 217, 217, 217, 217, 217, 217, 217, 217, 217, 217, 170, 192, 181], 0, 0, []),
  (120, 1, .iload_n 1, 1, 0, []),
  (121, 1, .iload_n 2, 2, 0, []),
  (122, 1, .iadd, 0, 0, []),
  (123, 1, .ireturn, 0, 0, []),
  (124, 1, .iload_n 1, 1, 0, []),
  (125, 1, .iload_n 2, 2, 0, []),
  (126, 1, .isub, 0, 0, []),
  (127, 1, .ireturn, 0, 0, []),
  (128, 1, .iload_n 1, 1, 0, []),
  (129, 1, .iload_n 2, 2, 0, []),
  (130, 1, .imul, 0, 0, []),
  (131, 1, .ireturn, 0, 0, []),
  (132, 1, .iload_n 2, 2, 0, []),
  (133, 3, .ifCond .ne (7), 140, 0, []),
  (136, 1, .iconst 0, 0, 0, []),
  (137, 3, .goto (16), 153, 0, []),
  (140, 1, .iload_n 2, 2, 0, []),
  (141, 1, .iconst (-1), 1, 1, []),
  (142, 3, .if_icmp .ne (8), 150, 0, []),
  (145, 1, .iload_n 1, 1, 0, []),
  (146, 1, .ineg, 0, 0, []),
  (147, 3, .goto (6), 153, 0, []),
  (150, 1, .iload_n 1, 1, 0, []),
  (151, 1, .iload_n 2, 2, 0, []),
  (152, 1, .idiv, 0, 0, []),
  (153, 1, .ireturn, 0, 0, []),
  (154, 1, .iload_n 2, 2, 0, []),
  (155, 3, .ifCond .eq (8), 163, 0, []),
  (158, 1, .iload_n 2, 2, 0, []),
  (159, 1, .iconst (-1), 1, 1, []),
  (160, 3, .if_icmp .ne (7), 167, 0, []),
  (163, 1, .iconst 0, 0, 0, []),
  (164, 3, .goto (6), 170, 0, []),
  (167, 1, .iload_n 1, 1, 0, []),
  (168, 1, .iload_n 2, 2, 0, []),
  (169, 1, .irem, 0, 0, []),
  (170, 1, .ireturn, 0, 0, []),
  (171, 1, .iload_n 1, 1, 0, []),
  (172, 1, .iload_n 2, 2, 0, []),
  (173, 3, .if_icmp .ge (7), 180, 0, []),
  (176, 1, .iconst 1, 1, 0, []),
  (177, 3, .goto (4), 181, 0, []),
  (180, 1, .iconst 0, 0, 0, []),
  (181, 1, .ireturn, 0, 0, []),
  (182, 1, .iload_n 1, 1, 0, []),
  (183, 1, .iload_n 2, 2, 0, []),
  (184, 3, .if_icmp .le (7), 191, 0, []),
  (187, 1, .iconst 1, 1, 0, []),
  (188, 3, .goto (4), 192, 0, []),
  (191, 1, .iconst 0, 0, 0, []),
  (192, 1, .ireturn, 0, 0, []),
  (193, 1, .iload_n 1, 1, 0, []),
  (194, 1, .iload_n 2, 2, 0, []),
  (195, 3, .if_icmp .ne (7), 202, 0, []),
  (198, 1, .iconst 1, 1, 0, []),
  (199, 3, .goto (4), 203, 0, []),
  (202, 1, .iconst 0, 0, 0, []),
  (203, 1, .ireturn, 0, 0, []),
  (204, 1, .iload_n 1, 1, 0, []),
  (205, 3, .ifCond .eq (11), 216, 0, []),
  (208, 1, .iload_n 2, 2, 0, []),
  (209, 3, .ifCond .eq (7), 216, 0, []),
  (212, 1, .iconst 1, 1, 0, []),
  (213, 3, .goto (4), 217, 0, []),
  (216, 1, .iconst 0, 0, 0, []),
  (217, 1, .ireturn, 0, 0, []),
  (218, 1, .iload_n 1, 1, 0, []),
  (219, 3, .ifCond .ne (7), 226, 0, []),
  (222, 1, .iload_n 2, 2, 0, []),
  (223, 3, .ifCond .eq (7), 230, 0, []),
  (226, 1, .iconst 1, 1, 0, []),
  (227, 3, .goto (4), 231, 0, []),
  (230, 1, .iconst 0, 0, 0, []),
  (231, 1, .ireturn, 0, 0, [])]
set_option maxRecDepth 100000 in
theorem Zk73 : Zchk 73 Zt73 := ⟨by decide +kernel, by decide +kernel, Zat_in (hs := []) rfl, Zan_in (hs := []) rfl⟩
/-- KnitRiverModel.worked(I)I -/
def Zt74 : List Zent := [(0, 2, .bipush 84, 84, 0, []),
  (2, 2, .bipush 125, 125, 0, []),
  (4, 1, .iload_n 1, 1, 0, []),
  (5, 1, .imul, 0, 0, []),
  (6, 1, .iadd, 0, 0, []),
  (7, 1, .istore_n 2, 2, 0, []),
  (8, 1, .iconst 0, 0, 0, []),
  (9, 1, .istore_n 3, 3, 0, []),
  (10, 1, .iconst 0, 0, 0, []),
  (11, 2, .istore 4, 4, 0, []),
  (13, 2, .iload 4, 4, 0, []),
  (15, 1, .aload_n 0, 0, 0, []),
  (16, 3, .getfield 7, 8, 0, []),
  (19, 1, .iload_n 2, 2, 0, []),
  (20, 1, .iaload, 0, 0, []),
  (21, 3, .if_icmp .ge (142), 163, 0, []),
  (24, 1, .aload_n 0, 0, 0, []),
  (25, 3, .getfield 7, 8, 0, []),
  (28, 1, .iload_n 2, 2, 0, []),
  (29, 1, .iconst 1, 1, 0, []),
  (30, 1, .iadd, 0, 0, []),
  (31, 1, .iconst 2, 2, 0, []),
  (32, 2, .iload 4, 4, 0, []),
  (34, 1, .imul, 0, 0, []),
  (35, 1, .iadd, 0, 0, []),
  (36, 1, .iaload, 0, 0, []),
  (37, 2, .istore 5, 5, 0, []),
  (39, 1, .aload_n 0, 0, 0, []),
  (40, 3, .getfield 7, 8, 0, []),
  (43, 1, .iload_n 2, 2, 0, []),
  (44, 1, .iconst 2, 2, 0, []),
  (45, 1, .iadd, 0, 0, []),
  (46, 1, .iconst 2, 2, 0, []),
  (47, 2, .iload 4, 4, 0, []),
  (49, 1, .imul, 0, 0, []),
  (50, 1, .iadd, 0, 0, []),
  (51, 1, .iaload, 0, 0, []),
  (52, 2, .istore 6, 6, 0, []),
  (54, 2, .iload 5, 5, 0, []),
  (56, 3, .ifCond .eq (9), 65, 0, []),
  (59, 2, .iload 5, 5, 0, []),
  (61, 1, .iconst 1, 1, 0, []),
  (62, 3, .if_icmp .ne (32), 94, 0, []),
  (65, 1, .aload_n 0, 0, 0, []),
  (66, 3, .getfield 25, 8, 10, []),
  (69, 1, .iload_n 3, 3, 0, []),
  (70, 2, .iload 5, 5, 0, []),
  (72, 3, .ifCond .ne (8), 80, 0, []),
  (75, 2, .iload 6, 6, 0, []),
  (77, 3, .goto (10), 87, 0, []),
  (80, 1, .aload_n 0, 0, 0, []),
  (81, 3, .getfield 22, 8, 9, []),
  (84, 2, .iload 6, 6, 0, []),
  (86, 1, .iaload, 0, 0, []),
  (87, 1, .iastore, 0, 0, []),
  (88, 3, .iinc 3 1, 1, 0, [3]),
  (91, 3, .goto (66), 157, 0, []),
  (94, 2, .iload 5, 5, 0, []),
  (96, 1, .iconst 2, 2, 0, []),
  (97, 3, .if_icmp .ne (30), 127, 0, []),
  (100, 1, .aload_n 0, 0, 0, []),
  (101, 3, .getfield 25, 8, 10, []),
  (104, 1, .iload_n 3, 3, 0, []),
  (105, 1, .iconst 1, 1, 0, []),
  (106, 1, .isub, 0, 0, []),
  (107, 1, .aload_n 0, 0, 0, []),
  (108, 3, .getfield 25, 8, 10, []),
  (111, 1, .iload_n 3, 3, 0, []),
  (112, 1, .iconst 1, 1, 0, []),
  (113, 1, .isub, 0, 0, []),
  (114, 1, .iaload, 0, 0, []),
  (115, 3, .ifCond .ne (7), 122, 0, []),
  (118, 1, .iconst 1, 1, 0, []),
  (119, 3, .goto (4), 123, 0, []),
  (122, 1, .iconst 0, 0, 0, []),
  (123, 1, .iastore, 0, 0, []),
  (124, 3, .goto (33), 157, 0, []),
  (127, 3, .iinc 3 (-1), 1, 1, [3]),
  (130, 1, .aload_n 0, 0, 0, []),
  (131, 3, .getfield 25, 8, 10, []),
  (134, 1, .iload_n 3, 3, 0, []),
  (135, 1, .iconst 1, 1, 0, []),
  (136, 1, .isub, 0, 0, []),
  (137, 2, .iload 6, 6, 0, []),
  (139, 1, .aload_n 0, 0, 0, []),
  (140, 3, .getfield 25, 8, 10, []),
  (143, 1, .iload_n 3, 3, 0, []),
  (144, 1, .iconst 1, 1, 0, []),
  (145, 1, .isub, 0, 0, []),
  (146, 1, .iaload, 0, 0, []),
  (147, 1, .aload_n 0, 0, 0, []),
  (148, 3, .getfield 25, 8, 10, []),
  (151, 1, .iload_n 3, 3, 0, []),
  (152, 1, .iaload, 0, 0, []),
  (153, 3, .invokestatic 119, 73, 0, []),
  (156, 1, .iastore, 0, 0, []),
  (157, 3, .iinc 4 1, 1, 0, [4]),
  (160, 3, .goto (-147), 13, 0, []),
  (163, 1, .aload_n 0, 0, 0, []),
  (164, 3, .getfield 25, 8, 10, []),
  (167, 1, .iconst 0, 0, 0, []),
  (168, 1, .iaload, 0, 0, []),
  (169, 1, .ireturn, 0, 0, [])]
set_option maxRecDepth 100000 in
theorem Zk74 : Zchk 74 Zt74 := ⟨by decide +kernel, by decide +kernel, Zat_in (hs := [911, 911, 911, 921, 920, 921, 921, 921, 921, 921, 1084, 1085, 137, 1086, 921]) rfl, Zan_in (hs := []) rfl⟩
/-- KnitRiverModel.saidOf(IIII)I -/
def Zt75 : List Zent := [(0, 1, .iconst 2, 2, 0, []),
  (1, 1, .iload_n 3, 3, 0, []),
  (2, 1, .imul, 0, 0, []),
  (3, 2, .iload 4, 4, 0, []),
  (5, 1, .isub, 0, 0, []),
  (6, 2, .istore 5, 5, 0, []),
  (8, 1, .iload_n 1, 1, 0, []),
  (9, 39, .tableswitch (98) 1 6 #[39, 44, 51, 56, 63, 93], 0, 0, []),
  (48, 2, .iload 5, 5, 0, []),
  (50, 1, .iconst 1, 1, 0, []),
  (51, 1, .iadd, 0, 0, []),
  (52, 1, .ireturn, 0, 0, []),
  (53, 1, .iconst 3, 3, 0, []),
  (54, 2, .iload 5, 5, 0, []),
  (56, 1, .imul, 0, 0, []),
  (57, 1, .iconst 2, 2, 0, []),
  (58, 1, .idiv, 0, 0, []),
  (59, 1, .ireturn, 0, 0, []),
  (60, 2, .iload 5, 5, 0, []),
  (62, 1, .iconst 2, 2, 0, []),
  (63, 1, .idiv, 0, 0, []),
  (64, 1, .ireturn, 0, 0, []),
  (65, 2, .iload 5, 5, 0, []),
  (67, 1, .iconst 1, 1, 0, []),
  (68, 1, .iadd, 0, 0, []),
  (69, 1, .iload_n 2, 2, 0, []),
  (70, 1, .iadd, 0, 0, []),
  (71, 1, .ireturn, 0, 0, []),
  (72, 1, .aload_n 0, 0, 0, []),
  (73, 3, .getfield 7, 8, 0, []),
  (76, 1, .iconst 2, 2, 0, []),
  (77, 1, .iaload, 0, 0, []),
  (78, 1, .iconst 4, 4, 0, []),
  (79, 1, .irem, 0, 0, []),
  (80, 1, .iconst 3, 3, 0, []),
  (81, 3, .if_icmp .ne (12), 93, 0, []),
  (84, 1, .iconst 3, 3, 0, []),
  (85, 2, .iload 5, 5, 0, []),
  (87, 1, .imul, 0, 0, []),
  (88, 1, .iconst 2, 2, 0, []),
  (89, 1, .idiv, 0, 0, []),
  (90, 3, .goto (11), 101, 0, []),
  (93, 1, .iconst 3, 3, 0, []),
  (94, 2, .iload 5, 5, 0, []),
  (96, 1, .imul, 0, 0, []),
  (97, 1, .iconst 2, 2, 0, []),
  (98, 1, .idiv, 0, 0, []),
  (99, 1, .iconst 2, 2, 0, []),
  (100, 1, .idiv, 0, 0, []),
  (101, 1, .ireturn, 0, 0, []),
  (102, 2, .iload 5, 5, 0, []),
  (104, 1, .iload_n 3, 3, 0, []),
  (105, 1, .iadd, 0, 0, []),
  (106, 1, .ireturn, 0, 0, []),
  (107, 2, .iload 5, 5, 0, []),
  (109, 1, .ireturn, 0, 0, [])]
set_option maxRecDepth 100000 in
theorem Zk75 : Zchk 75 Zt75 := ⟨by decide +kernel, by decide +kernel, Zat_in (hs := [911]) rfl, Zan_in (hs := []) rfl⟩
/-- KnitRiverModel.yarnTold(III)I -/
def Zt76 : List Zent := [(0, 1, .aload_n 0, 0, 0, []),
  (1, 3, .getfield 22, 8, 9, []),
  (4, 2, .bipush 98, 98, 0, []),
  (6, 1, .iload_n 1, 1, 0, []),
  (7, 1, .iastore, 0, 0, []),
  (8, 1, .aload_n 0, 0, 0, []),
  (9, 3, .getfield 22, 8, 9, []),
  (12, 2, .bipush 119, 119, 0, []),
  (14, 1, .iload_n 2, 2, 0, []),
  (15, 1, .iastore, 0, 0, []),
  (16, 1, .aload_n 0, 0, 0, []),
  (17, 3, .getfield 22, 8, 9, []),
  (20, 2, .bipush 116, 116, 0, []),
  (22, 1, .iload_n 3, 3, 0, []),
  (23, 1, .iastore, 0, 0, []),
  (24, 1, .aload_n 0, 0, 0, []),
  (25, 1, .iconst 0, 0, 0, []),
  (26, 3, .invokevirtual 116, 70, 8, []),
  (29, 3, .ifCond .eq (11), 40, 0, []),
  (32, 1, .aload_n 0, 0, 0, []),
  (33, 1, .iconst 0, 0, 0, []),
  (34, 3, .invokevirtual 123, 74, 8, []),
  (37, 3, .goto (4), 41, 0, []),
  (40, 1, .iload_n 1, 1, 0, []),
  (41, 1, .iconst 1, 1, 0, []),
  (42, 2, .bipush 99, 99, 0, []),
  (44, 3, .invokestatic 126, 52, 0, []),
  (47, 1, .ireturn, 0, 0, [])]
set_option maxRecDepth 100000 in
theorem Zk76 : Zchk 76 Zt76 := ⟨by decide +kernel, by decide +kernel, Zat_in (hs := [920, 920, 920, 1054, 1056, 137, 1057, 64, 1080, 1082, 137, 1083, 68, 1087, 1088, 137, 1089]) rfl, Zan_in (hs := []) rfl⟩
/-- KnitRiverModel.holdsTold(III)I -/
def Zt77 : List Zent := [(0, 1, .aload_n 0, 0, 0, []),
  (1, 3, .getfield 22, 8, 9, []),
  (4, 2, .bipush 119, 119, 0, []),
  (6, 1, .iload_n 1, 1, 0, []),
  (7, 1, .iastore, 0, 0, []),
  (8, 1, .aload_n 0, 0, 0, []),
  (9, 3, .getfield 22, 8, 9, []),
  (12, 2, .bipush 116, 116, 0, []),
  (14, 1, .iload_n 2, 2, 0, []),
  (15, 1, .iastore, 0, 0, []),
  (16, 1, .aload_n 0, 0, 0, []),
  (17, 3, .getfield 22, 8, 9, []),
  (20, 2, .bipush 107, 107, 0, []),
  (22, 1, .iload_n 3, 3, 0, []),
  (23, 1, .iastore, 0, 0, []),
  (24, 1, .aload_n 0, 0, 0, []),
  (25, 1, .iconst 1, 1, 0, []),
  (26, 3, .invokevirtual 116, 70, 8, []),
  (29, 3, .ifCond .eq (11), 40, 0, []),
  (32, 1, .aload_n 0, 0, 0, []),
  (33, 1, .iconst 1, 1, 0, []),
  (34, 3, .invokevirtual 123, 74, 8, []),
  (37, 3, .goto (9), 46, 0, []),
  (40, 1, .iload_n 1, 1, 0, []),
  (41, 2, .bipush 10, 10, 0, []),
  (43, 1, .iload_n 2, 2, 0, []),
  (44, 1, .isub, 0, 0, []),
  (45, 1, .imul, 0, 0, []),
  (46, 1, .iconst 0, 0, 0, []),
  (47, 3, .sipush 999, 999, 0, []),
  (50, 3, .invokestatic 126, 52, 0, []),
  (53, 1, .ireturn, 0, 0, [])]
set_option maxRecDepth 100000 in
theorem Zk77 : Zchk 77 Zt77 := ⟨by decide +kernel, by decide +kernel, Zat_in (hs := [920, 920, 920, 1054, 1056, 137, 1057, 64, 1080, 1082, 137, 1083, 68, 1087, 1088, 137, 1089]) rfl, Zan_in (hs := []) rfl⟩
/-- KnitRiverModel.yarnAs(III)I -/
def Zt78 : List Zent := [(0, 1, .aload_n 0, 0, 0, []),
  (1, 1, .aload_n 0, 0, 0, []),
  (2, 1, .iload_n 1, 1, 0, []),
  (3, 2, .bipush 10, 10, 0, []),
  (5, 1, .idiv, 0, 0, []),
  (6, 1, .iload_n 1, 1, 0, []),
  (7, 2, .bipush 10, 10, 0, []),
  (9, 1, .irem, 0, 0, []),
  (10, 1, .iload_n 2, 2, 0, []),
  (11, 1, .iload_n 3, 3, 0, []),
  (12, 3, .invokevirtual 129, 75, 8, []),
  (15, 1, .iload_n 2, 2, 0, []),
  (16, 1, .iload_n 3, 3, 0, []),
  (17, 3, .invokevirtual 133, 76, 8, []),
  (20, 1, .ireturn, 0, 0, [])]
set_option maxRecDepth 100000 in
theorem Zk78 : Zchk 78 Zt78 := ⟨by decide +kernel, by decide +kernel, Zat_in (hs := [1072, 1074, 137, 1075, 66, 1076, 1078, 137, 1079, 67]) rfl, Zan_in (hs := []) rfl⟩
/-- KnitRiverModel.yarnOf(I)I -/
def Zt79 : List Zent := [(0, 1, .aload_n 0, 0, 0, []),
  (1, 2, .bipush 10, 10, 0, []),
  (3, 1, .aload_n 0, 0, 0, []),
  (4, 1, .iload_n 1, 1, 0, []),
  (5, 1, .iconst 0, 0, 0, []),
  (6, 3, .invokevirtual 136, 56, 8, []),
  (9, 1, .imul, 0, 0, []),
  (10, 1, .aload_n 0, 0, 0, []),
  (11, 1, .iload_n 1, 1, 0, []),
  (12, 1, .iconst 1, 1, 0, []),
  (13, 3, .invokevirtual 136, 56, 8, []),
  (16, 1, .iadd, 0, 0, []),
  (17, 1, .aload_n 0, 0, 0, []),
  (18, 1, .iload_n 1, 1, 0, []),
  (19, 1, .iconst 2, 2, 0, []),
  (20, 3, .invokevirtual 136, 56, 8, []),
  (23, 1, .aload_n 0, 0, 0, []),
  (24, 1, .iload_n 1, 1, 0, []),
  (25, 1, .iconst 3, 3, 0, []),
  (26, 3, .invokevirtual 136, 56, 8, []),
  (29, 3, .invokevirtual 140, 78, 8, []),
  (32, 1, .ireturn, 0, 0, [])]
set_option maxRecDepth 100000 in
theorem Zk79 : Zchk 79 Zt79 := ⟨by decide +kernel, by decide +kernel, Zat_in (hs := [1102, 1104, 137, 1105, 71, 1102, 1104, 137, 1105, 71, 1102, 1104, 137, 1105, 71, 1102, 1104, 137, 1105, 71, 1068, 1070, 137, 1071, 65]) rfl, Zan_in (hs := []) rfl⟩
/-- KnitRiverModel.holdsBy(II)I -/
def Zt80 : List Zent := [(0, 1, .aload_n 0, 0, 0, []),
  (1, 1, .aload_n 0, 0, 0, []),
  (2, 1, .iload_n 1, 1, 0, []),
  (3, 1, .iconst 2, 2, 0, []),
  (4, 3, .invokevirtual 136, 56, 8, []),
  (7, 1, .aload_n 0, 0, 0, []),
  (8, 1, .iload_n 1, 1, 0, []),
  (9, 1, .iconst 3, 3, 0, []),
  (10, 3, .invokevirtual 136, 56, 8, []),
  (13, 1, .iload_n 2, 2, 0, []),
  (14, 1, .iadd, 0, 0, []),
  (15, 2, .bipush (-9), 9, 1, []),
  (17, 2, .bipush 9, 9, 0, []),
  (19, 3, .invokestatic 126, 52, 0, []),
  (22, 1, .aload_n 0, 0, 0, []),
  (23, 1, .iload_n 1, 1, 0, []),
  (24, 1, .iconst 0, 0, 0, []),
  (25, 3, .invokevirtual 136, 56, 8, []),
  (28, 3, .invokevirtual 143, 77, 8, []),
  (31, 1, .ireturn, 0, 0, [])]
set_option maxRecDepth 100000 in
theorem Zk80 : Zchk 80 Zt80 := ⟨by decide +kernel, by decide +kernel, Zat_in (hs := [1102, 1104, 137, 1105, 71, 1102, 1104, 137, 1105, 71, 1087, 1088, 137, 1089, 1102, 1104, 137, 1105, 71, 1114, 1116, 137, 1117, 74]) rfl, Zan_in (hs := []) rfl⟩
/-- KnitRiverModel.bendsAs(II)I -/
def Zt81 : List Zent := [(0, 1, .iload_n 0, 0, 0, []),
  (1, 35, .lookupswitch (51) #[(1, 35), (4, 41), (6, 49)], 0, 0, []),
  (36, 1, .iload_n 1, 1, 0, []),
  (37, 1, .iconst 3, 3, 0, []),
  (38, 1, .irem, 0, 0, []),
  (39, 1, .iconst 1, 1, 0, []),
  (40, 1, .isub, 0, 0, []),
  (41, 1, .ireturn, 0, 0, []),
  (42, 1, .iconst 2, 2, 0, []),
  (43, 1, .iload_n 1, 1, 0, []),
  (44, 1, .iconst 3, 3, 0, []),
  (45, 1, .irem, 0, 0, []),
  (46, 1, .iconst 1, 1, 0, []),
  (47, 1, .isub, 0, 0, []),
  (48, 1, .imul, 0, 0, []),
  (49, 1, .ireturn, 0, 0, []),
  (50, 1, .iconst 2, 2, 0, []),
  (51, 1, .ireturn, 0, 0, []),
  (52, 1, .iconst 0, 0, 0, []),
  (53, 1, .ireturn, 0, 0, [])]
set_option maxRecDepth 100000 in
theorem Zk81 : Zchk 81 Zt81 := ⟨by decide +kernel, by decide +kernel, Zat_in (hs := []) rfl, Zan_in (hs := []) rfl⟩
/-- KnitRiverModel.letDown(II)V -/
def Zt82 : List Zent := [(0, 1, .aload_n 0, 0, 0, []),
  (1, 3, .getfield 28, 8, 11, []),
  (4, 1, .iconst 0, 0, 0, []),
  (5, 1, .iload_n 1, 1, 0, []),
  (6, 1, .iastore, 0, 0, []),
  (7, 1, .aload_n 0, 0, 0, []),
  (8, 1, .iconst 0, 0, 0, []),
  (9, 3, .putfield 146, 8, 12, []),
  (12, 1, .iconst 0, 0, 0, []),
  (13, 1, .istore_n 3, 3, 0, []),
  (14, 1, .iload_n 3, 3, 0, []),
  (15, 1, .aload_n 0, 0, 0, []),
  (16, 3, .getfield 7, 8, 0, []),
  (19, 2, .bipush 7, 7, 0, []),
  (21, 1, .iaload, 0, 0, []),
  (22, 3, .if_icmp .ge (74), 96, 0, []),
  (25, 1, .aload_n 0, 0, 0, []),
  (26, 1, .iload_n 3, 3, 0, []),
  (27, 1, .iload_n 2, 2, 0, []),
  (28, 3, .invokevirtual 149, 80, 8, []),
  (31, 2, .istore 4, 4, 0, []),
  (33, 1, .aload_n 0, 0, 0, []),
  (34, 1, .dup, 0, 0, []),
  (35, 3, .getfield 146, 8, 12, []),
  (38, 1, .aload_n 0, 0, 0, []),
  (39, 3, .getfield 28, 8, 11, []),
  (42, 1, .iload_n 3, 3, 0, []),
  (43, 1, .iaload, 0, 0, []),
  (44, 2, .iload 4, 4, 0, []),
  (46, 3, .if_icmp .le (9), 55, 0, []),
  (49, 1, .iconst 1, 1, 0, []),
  (50, 1, .iload_n 3, 3, 0, []),
  (51, 1, .ishl, 0, 0, []),
  (52, 3, .goto (4), 56, 0, []),
  (55, 1, .iconst 0, 0, 0, []),
  (56, 1, .ior, 0, 0, []),
  (57, 3, .putfield 146, 8, 12, []),
  (60, 1, .aload_n 0, 0, 0, []),
  (61, 3, .getfield 28, 8, 11, []),
  (64, 1, .iload_n 3, 3, 0, []),
  (65, 1, .iconst 1, 1, 0, []),
  (66, 1, .iadd, 0, 0, []),
  (67, 1, .aload_n 0, 0, 0, []),
  (68, 3, .getfield 28, 8, 11, []),
  (71, 1, .iload_n 3, 3, 0, []),
  (72, 1, .iaload, 0, 0, []),
  (73, 2, .iload 4, 4, 0, []),
  (75, 3, .if_icmp .le (8), 83, 0, []),
  (78, 2, .iload 4, 4, 0, []),
  (80, 3, .goto (9), 89, 0, []),
  (83, 1, .aload_n 0, 0, 0, []),
  (84, 3, .getfield 28, 8, 11, []),
  (87, 1, .iload_n 3, 3, 0, []),
  (88, 1, .iaload, 0, 0, []),
  (89, 1, .iastore, 0, 0, []),
  (90, 3, .iinc 3 1, 1, 0, [3]),
  (93, 3, .goto (-79), 14, 0, []),
  (96, 1, .return_, 0, 0, [])]
set_option maxRecDepth 100000 in
theorem Zk82 : Zchk 82 Zt82 := ⟨by decide +kernel, by decide +kernel, Zat_in (hs := [922, 923, 911, 1110, 1112, 137, 1113, 73, 923, 922, 923, 922, 922, 922]) rfl, Zan_in (hs := []) rfl⟩
/-- KnitRiverModel.aSeason(I)I -/
def Zt83 : List Zent := [(0, 1, .aload_n 0, 0, 0, []),
  (1, 1, .iload_n 1, 1, 0, []),
  (2, 1, .iconst 0, 0, 0, []),
  (3, 3, .invokevirtual 152, 82, 8, []),
  (6, 1, .iconst 0, 0, 0, []),
  (7, 1, .istore_n 2, 2, 0, []),
  (8, 1, .iload_n 2, 2, 0, []),
  (9, 1, .aload_n 0, 0, 0, []),
  (10, 3, .getfield 7, 8, 0, []),
  (13, 2, .bipush 7, 7, 0, []),
  (15, 1, .iaload, 0, 0, []),
  (16, 3, .if_icmp .ge (61), 77, 0, []),
  (19, 1, .aload_n 0, 0, 0, []),
  (20, 3, .getfield 146, 8, 12, []),
  (23, 1, .iload_n 2, 2, 0, []),
  (24, 1, .ishr, 0, 0, []),
  (25, 1, .iconst 1, 1, 0, []),
  (26, 1, .iand, 0, 0, []),
  (27, 1, .iconst 1, 1, 0, []),
  (28, 3, .if_icmp .ne (7), 35, 0, []),
  (31, 1, .iconst (-1), 1, 1, []),
  (32, 3, .goto (17), 49, 0, []),
  (35, 1, .aload_n 0, 0, 0, []),
  (36, 3, .getfield 28, 8, 11, []),
  (39, 1, .iload_n 2, 2, 0, []),
  (40, 1, .iaload, 0, 0, []),
  (41, 3, .ifCond .ne (7), 48, 0, []),
  (44, 1, .iconst 1, 1, 0, []),
  (45, 3, .goto (4), 49, 0, []),
  (48, 1, .iconst 0, 0, 0, []),
  (49, 1, .istore_n 3, 3, 0, []),
  (50, 1, .aload_n 0, 0, 0, []),
  (51, 1, .iload_n 2, 2, 0, []),
  (52, 1, .iconst 3, 3, 0, []),
  (53, 1, .aload_n 0, 0, 0, []),
  (54, 1, .iload_n 2, 2, 0, []),
  (55, 1, .iconst 3, 3, 0, []),
  (56, 3, .invokevirtual 136, 56, 8, []),
  (59, 1, .iload_n 3, 3, 0, []),
  (60, 1, .iadd, 0, 0, []),
  (61, 2, .bipush (-9), 9, 1, []),
  (63, 2, .bipush 9, 9, 0, []),
  (65, 3, .invokestatic 126, 52, 0, []),
  (68, 3, .invokevirtual 155, 57, 8, []),
  (71, 3, .iinc 2 1, 1, 0, [2]),
  (74, 3, .goto (-66), 8, 0, []),
  (77, 1, .aload_n 0, 0, 0, []),
  (78, 3, .getfield 7, 8, 0, []),
  (81, 1, .iconst 3, 3, 0, []),
  (82, 1, .aload_n 0, 0, 0, []),
  (83, 3, .getfield 7, 8, 0, []),
  (86, 1, .iconst 3, 3, 0, []),
  (87, 1, .iaload, 0, 0, []),
  (88, 1, .aload_n 0, 0, 0, []),
  (89, 3, .getfield 28, 8, 11, []),
  (92, 1, .aload_n 0, 0, 0, []),
  (93, 3, .getfield 7, 8, 0, []),
  (96, 2, .bipush 7, 7, 0, []),
  (98, 1, .iaload, 0, 0, []),
  (99, 1, .iaload, 0, 0, []),
  (100, 1, .iadd, 0, 0, []),
  (101, 1, .iconst 0, 0, 0, []),
  (102, 3, .sipush 9999, 9999, 0, []),
  (105, 3, .invokestatic 126, 52, 0, []),
  (108, 1, .iastore, 0, 0, []),
  (109, 1, .aload_n 0, 0, 0, []),
  (110, 3, .getfield 7, 8, 0, []),
  (113, 1, .iconst 2, 2, 0, []),
  (114, 1, .dup2, 0, 0, []),
  (115, 1, .iaload, 0, 0, []),
  (116, 1, .iconst 1, 1, 0, []),
  (117, 1, .iadd, 0, 0, []),
  (118, 1, .iastore, 0, 0, []),
  (119, 1, .aload_n 0, 0, 0, []),
  (120, 3, .getfield 146, 8, 12, []),
  (123, 1, .ireturn, 0, 0, [])]
set_option maxRecDepth 100000 in
theorem Zk83 : Zchk 83 Zt83 := ⟨by decide +kernel, by decide +kernel, Zat_in (hs := [1187, 1189, 137, 1190, 77, 911, 923, 922, 1102, 1104, 137, 1105, 71, 1087, 1088, 137, 1089, 1090, 1092, 137, 1093, 69, 911, 911, 922, 911, 1087, 1088, 137, 1089, 911, 923]) rfl, Zan_in (hs := []) rfl⟩
/-- KnitRiverModel.draw()I -/
def Zt84 : List Zent := [(0, 1, .aload_n 0, 0, 0, []),
  (1, 3, .getfield 7, 8, 0, []),
  (4, 1, .iconst 4, 4, 0, []),
  (5, 1, .aload_n 0, 0, 0, []),
  (6, 3, .getfield 7, 8, 0, []),
  (9, 1, .iconst 4, 4, 0, []),
  (10, 1, .iaload, 0, 0, []),
  (11, 2, .ldc 159, 1103515245, 0, []),
  (13, 1, .imul, 0, 0, []),
  (14, 3, .sipush 12345, 12345, 0, []),
  (17, 1, .iadd, 0, 0, []),
  (18, 1, .iastore, 0, 0, []),
  (19, 1, .aload_n 0, 0, 0, []),
  (20, 3, .getfield 7, 8, 0, []),
  (23, 1, .iconst 4, 4, 0, []),
  (24, 1, .iaload, 0, 0, []),
  (25, 2, .bipush 8, 8, 0, []),
  (27, 1, .iushr, 0, 0, []),
  (28, 1, .ireturn, 0, 0, [])]
set_option maxRecDepth 100000 in
theorem Zk84 : Zchk 84 Zt84 := ⟨by decide +kernel, by decide +kernel, Zat_in (hs := [911, 911, 1199, 911]) rfl, Zan_in (hs := []) rfl⟩
/-- KnitRiverModel.bitsOf(I)I -/
def Zt85 : List Zent := [(0, 1, .iconst 0, 0, 0, []),
  (1, 1, .istore_n 1, 1, 0, []),
  (2, 1, .iload_n 0, 0, 0, []),
  (3, 1, .istore_n 2, 2, 0, []),
  (4, 1, .iload_n 2, 2, 0, []),
  (5, 3, .ifCond .eq (15), 20, 0, []),
  (8, 3, .iinc 1 1, 1, 0, [1]),
  (11, 1, .iload_n 2, 2, 0, []),
  (12, 1, .iload_n 2, 2, 0, []),
  (13, 1, .iconst 1, 1, 0, []),
  (14, 1, .isub, 0, 0, []),
  (15, 1, .iand, 0, 0, []),
  (16, 1, .istore_n 2, 2, 0, []),
  (17, 3, .goto (-13), 4, 0, []),
  (20, 1, .iload_n 1, 1, 0, []),
  (21, 1, .ireturn, 0, 0, [])]
set_option maxRecDepth 100000 in
theorem Zk85 : Zchk 85 Zt85 := ⟨by decide +kernel, by decide +kernel, Zat_in (hs := []) rfl, Zan_in (hs := []) rfl⟩
/-- KnitRiverModel.step(II)V -/
def Zt86 : List Zent := [(0, 1, .aload_n 0, 0, 0, []),
  (1, 1, .aload_n 0, 0, 0, []),
  (2, 3, .getfield 160, 8, 15, []),
  (5, 1, .iload_n 2, 2, 0, []),
  (6, 1, .iadd, 0, 0, []),
  (7, 2, .bipush 8, 8, 0, []),
  (9, 1, .iadd, 0, 0, []),
  (10, 1, .iconst 4, 4, 0, []),
  (11, 1, .irem, 0, 0, []),
  (12, 3, .putfield 160, 8, 15, []),
  (15, 1, .aload_n 0, 0, 0, []),
  (16, 3, .getfield 31, 8, 13, []),
  (19, 1, .iload_n 1, 1, 0, []),
  (20, 1, .iconst 1, 1, 0, []),
  (21, 1, .iadd, 0, 0, []),
  (22, 1, .aload_n 0, 0, 0, []),
  (23, 3, .getfield 31, 8, 13, []),
  (26, 1, .iload_n 1, 1, 0, []),
  (27, 1, .iaload, 0, 0, []),
  (28, 1, .aload_n 0, 0, 0, []),
  (29, 3, .getfield 160, 8, 15, []),
  (32, 1, .iconst 1, 1, 0, []),
  (33, 3, .if_icmp .ne (7), 40, 0, []),
  (36, 1, .iconst 1, 1, 0, []),
  (37, 3, .goto (16), 53, 0, []),
  (40, 1, .aload_n 0, 0, 0, []),
  (41, 3, .getfield 160, 8, 15, []),
  (44, 1, .iconst 3, 3, 0, []),
  (45, 3, .if_icmp .ne (7), 52, 0, []),
  (48, 1, .iconst (-1), 1, 1, []),
  (49, 3, .goto (4), 53, 0, []),
  (52, 1, .iconst 0, 0, 0, []),
  (53, 1, .iadd, 0, 0, []),
  (54, 1, .iastore, 0, 0, []),
  (55, 1, .aload_n 0, 0, 0, []),
  (56, 3, .getfield 34, 8, 14, []),
  (59, 1, .iload_n 1, 1, 0, []),
  (60, 1, .iconst 1, 1, 0, []),
  (61, 1, .iadd, 0, 0, []),
  (62, 1, .aload_n 0, 0, 0, []),
  (63, 3, .getfield 34, 8, 14, []),
  (66, 1, .iload_n 1, 1, 0, []),
  (67, 1, .iaload, 0, 0, []),
  (68, 1, .aload_n 0, 0, 0, []),
  (69, 3, .getfield 160, 8, 15, []),
  (72, 1, .iconst 2, 2, 0, []),
  (73, 3, .if_icmp .ne (7), 80, 0, []),
  (76, 1, .iconst 1, 1, 0, []),
  (77, 3, .goto (15), 92, 0, []),
  (80, 1, .aload_n 0, 0, 0, []),
  (81, 3, .getfield 160, 8, 15, []),
  (84, 3, .ifCond .ne (7), 91, 0, []),
  (87, 1, .iconst (-1), 1, 1, []),
  (88, 3, .goto (4), 92, 0, []),
  (91, 1, .iconst 0, 0, 0, []),
  (92, 1, .iadd, 0, 0, []),
  (93, 1, .iastore, 0, 0, []),
  (94, 1, .return_, 0, 0, [])]
set_option maxRecDepth 100000 in
theorem Zk86 : Zchk 86 Zt86 := ⟨by decide +kernel, by decide +kernel, Zat_in (hs := [926, 926, 924, 924, 926, 926, 925, 925, 926, 926]) rfl, Zan_in (hs := []) rfl⟩
/-- KnitRiverModel.findCourse()V -/
def Zt87 : List Zent := [(0, 1, .aload_n 0, 0, 0, []),
  (1, 1, .aload_n 0, 0, 0, []),
  (2, 3, .getfield 7, 8, 0, []),
  (5, 1, .iconst 1, 1, 0, []),
  (6, 1, .iaload, 0, 0, []),
  (7, 3, .putfield 160, 8, 15, []),
  (10, 1, .aload_n 0, 0, 0, []),
  (11, 3, .getfield 31, 8, 13, []),
  (14, 1, .iconst 0, 0, 0, []),
  (15, 1, .iconst 0, 0, 0, []),
  (16, 1, .iastore, 0, 0, []),
  (17, 1, .aload_n 0, 0, 0, []),
  (18, 3, .getfield 34, 8, 14, []),
  (21, 1, .iconst 0, 0, 0, []),
  (22, 1, .iconst 0, 0, 0, []),
  (23, 1, .iastore, 0, 0, []),
  (24, 1, .iconst 0, 0, 0, []),
  (25, 1, .istore_n 1, 1, 0, []),
  (26, 1, .iload_n 1, 1, 0, []),
  (27, 1, .aload_n 0, 0, 0, []),
  (28, 3, .getfield 7, 8, 0, []),
  (31, 2, .bipush 7, 7, 0, []),
  (33, 1, .iaload, 0, 0, []),
  (34, 3, .if_icmp .ge (29), 63, 0, []),
  (37, 1, .aload_n 0, 0, 0, []),
  (38, 1, .iload_n 1, 1, 0, []),
  (39, 1, .aload_n 0, 0, 0, []),
  (40, 1, .iload_n 1, 1, 0, []),
  (41, 1, .iconst 0, 0, 0, []),
  (42, 3, .invokevirtual 136, 56, 8, []),
  (45, 1, .aload_n 0, 0, 0, []),
  (46, 1, .iload_n 1, 1, 0, []),
  (47, 1, .iconst 1, 1, 0, []),
  (48, 3, .invokevirtual 136, 56, 8, []),
  (51, 3, .invokestatic 163, 81, 0, []),
  (54, 3, .invokevirtual 166, 86, 8, []),
  (57, 3, .iinc 1 1, 1, 0, [1]),
  (60, 3, .goto (-34), 26, 0, []),
  (63, 1, .return_, 0, 0, [])]
set_option maxRecDepth 100000 in
theorem Zk87 : Zchk 87 Zt87 := ⟨by decide +kernel, by decide +kernel, Zat_in (hs := [911, 926, 924, 925, 911, 1102, 1104, 137, 1105, 71, 1102, 1104, 137, 1105, 71, 1118, 1119, 137, 1120, 1216, 1218, 137, 1219, 96]) rfl, Zan_in (hs := []) rfl⟩
/-- KnitRiverModel.isKind(I)Z -/
def Zt88 : List Zent := [(0, 1, .iload_n 0, 0, 0, []),
  (1, 1, .iconst 0, 0, 0, []),
  (2, 2, .bipush 69, 69, 0, []),
  (4, 3, .invokestatic 59, 51, 0, []),
  (7, 1, .ireturn, 0, 0, [])]
set_option maxRecDepth 100000 in
theorem Zk88 : Zchk 88 Zt88 := ⟨by decide +kernel, by decide +kernel, Zat_in (hs := [997, 998, 137, 999]) rfl, Zan_in (hs := []) rfl⟩
/-- KnitRiverModel.knit(III)I -/
def Zt89 : List Zent := [(0, 1, .iload_n 1, 1, 0, []),
  (1, 3, .invokestatic 168, 88, 0, []),
  (4, 3, .ifCond .eq (20), 24, 0, []),
  (7, 1, .iload_n 2, 2, 0, []),
  (8, 1, .iconst 1, 1, 0, []),
  (9, 2, .bipush 12, 12, 0, []),
  (11, 3, .invokestatic 59, 51, 0, []),
  (14, 3, .ifCond .eq (10), 24, 0, []),
  (17, 1, .iload_n 3, 3, 0, []),
  (18, 3, .invokestatic 171, 55, 0, []),
  (21, 3, .ifCond .ne (9), 30, 0, []),
  (24, 1, .aload_n 0, 0, 0, []),
  (25, 1, .iconst 1, 1, 0, []),
  (26, 3, .invokevirtual 63, 50, 8, []),
  (29, 1, .ireturn, 0, 0, []),
  (30, 1, .aload_n 0, 0, 0, []),
  (31, 3, .getfield 7, 8, 0, []),
  (34, 2, .bipush 7, 7, 0, []),
  (36, 1, .iaload, 0, 0, []),
  (37, 2, .bipush 15, 15, 0, []),
  (39, 3, .if_icmp .ne (9), 48, 0, []),
  (42, 1, .aload_n 0, 0, 0, []),
  (43, 1, .iconst 4, 4, 0, []),
  (44, 3, .invokevirtual 63, 50, 8, []),
  (47, 1, .ireturn, 0, 0, []),
  (48, 1, .aload_n 0, 0, 0, []),
  (49, 1, .iload_n 1, 1, 0, []),
  (50, 1, .iload_n 2, 2, 0, []),
  (51, 1, .iload_n 3, 3, 0, []),
  (52, 3, .invokevirtual 140, 78, 8, []),
  (55, 2, .istore 4, 4, 0, []),
  (57, 1, .aload_n 0, 0, 0, []),
  (58, 3, .getfield 7, 8, 0, []),
  (61, 1, .iconst 0, 0, 0, []),
  (62, 1, .iaload, 0, 0, []),
  (63, 2, .iload 4, 4, 0, []),
  (65, 3, .if_icmp .ge (9), 74, 0, []),
  (68, 1, .aload_n 0, 0, 0, []),
  (69, 1, .iconst 3, 3, 0, []),
  (70, 3, .invokevirtual 63, 50, 8, []),
  (73, 1, .ireturn, 0, 0, []),
  (74, 1, .aload_n 0, 0, 0, []),
  (75, 3, .getfield 7, 8, 0, []),
  (78, 2, .bipush 7, 7, 0, []),
  (80, 1, .iaload, 0, 0, []),
  (81, 2, .istore 5, 5, 0, []),
  (83, 1, .aload_n 0, 0, 0, []),
  (84, 2, .iload 5, 5, 0, []),
  (86, 1, .iconst 0, 0, 0, []),
  (87, 1, .iload_n 1, 1, 0, []),
  (88, 2, .bipush 10, 10, 0, []),
  (90, 1, .idiv, 0, 0, []),
  (91, 3, .invokevirtual 155, 57, 8, []),
  (94, 1, .aload_n 0, 0, 0, []),
  (95, 2, .iload 5, 5, 0, []),
  (97, 1, .iconst 1, 1, 0, []),
  (98, 1, .iload_n 1, 1, 0, []),
  (99, 2, .bipush 10, 10, 0, []),
  (101, 1, .irem, 0, 0, []),
  (102, 3, .invokevirtual 155, 57, 8, []),
  (105, 1, .aload_n 0, 0, 0, []),
  (106, 2, .iload 5, 5, 0, []),
  (108, 1, .iconst 2, 2, 0, []),
  (109, 1, .iload_n 2, 2, 0, []),
  (110, 3, .invokevirtual 155, 57, 8, []),
  (113, 1, .aload_n 0, 0, 0, []),
  (114, 2, .iload 5, 5, 0, []),
  (116, 1, .iconst 3, 3, 0, []),
  (117, 1, .iload_n 3, 3, 0, []),
  (118, 3, .invokevirtual 155, 57, 8, []),
  (121, 1, .aload_n 0, 0, 0, []),
  (122, 2, .iload 5, 5, 0, []),
  (124, 1, .iconst 4, 4, 0, []),
  (125, 1, .iconst 0, 0, 0, []),
  (126, 3, .invokevirtual 155, 57, 8, []),
  (129, 1, .aload_n 0, 0, 0, []),
  (130, 3, .getfield 7, 8, 0, []),
  (133, 2, .bipush 7, 7, 0, []),
  (135, 1, .dup2, 0, 0, []),
  (136, 1, .iaload, 0, 0, []),
  (137, 1, .iconst 1, 1, 0, []),
  (138, 1, .iadd, 0, 0, []),
  (139, 1, .iastore, 0, 0, []),
  (140, 1, .aload_n 0, 0, 0, []),
  (141, 3, .getfield 7, 8, 0, []),
  (144, 1, .iconst 0, 0, 0, []),
  (145, 1, .dup2, 0, 0, []),
  (146, 1, .iaload, 0, 0, []),
  (147, 2, .iload 4, 4, 0, []),
  (149, 1, .isub, 0, 0, []),
  (150, 1, .iastore, 0, 0, []),
  (151, 2, .iload 4, 4, 0, []),
  (153, 1, .ireturn, 0, 0, [])]
set_option maxRecDepth 100000 in
theorem Zk89 : Zchk 89 Zt89 := ⟨by decide +kernel, by decide +kernel, Zat_in (hs := [1062, 1063, 137, 1064, 997, 998, 137, 999, 1065, 1066, 137, 1067, 1000, 1002, 137, 1003, 37, 911, 1000, 1002, 137, 1003, 37, 1068, 1070, 137, 1071, 65, 911, 1000, 1002, 137, 1003, 37, 911, 1090, 1092, 137, 1093, 69, 1090, 1092, 137, 1093, 69, 1090, 1092, 137, 1093, 69, 1090, 1092, 137, 1093, 69, 1090, 1092, 137, 1093, 69, 911, 911]) rfl, Zan_in (hs := []) rfl⟩
/-- KnitRiverModel.rowIs(II)I -/
def Zt90 : List Zent := [(0, 1, .aload_n 0, 0, 0, []),
  (1, 1, .iload_n 1, 1, 0, []),
  (2, 3, .invokevirtual 174, 54, 8, []),
  (5, 3, .ifCond .eq (13), 18, 0, []),
  (8, 1, .iload_n 2, 2, 0, []),
  (9, 1, .iconst 0, 0, 0, []),
  (10, 2, .bipush 7, 7, 0, []),
  (12, 3, .invokestatic 59, 51, 0, []),
  (15, 3, .ifCond .ne (9), 24, 0, []),
  (18, 1, .aload_n 0, 0, 0, []),
  (19, 1, .iconst 1, 1, 0, []),
  (20, 3, .invokevirtual 63, 50, 8, []),
  (23, 1, .ireturn, 0, 0, []),
  (24, 1, .iload_n 2, 2, 0, []),
  (25, 1, .iconst 5, 5, 0, []),
  (26, 3, .if_icmp .ge (12), 38, 0, []),
  (29, 1, .aload_n 0, 0, 0, []),
  (30, 1, .iload_n 1, 1, 0, []),
  (31, 1, .iload_n 2, 2, 0, []),
  (32, 3, .invokevirtual 136, 56, 8, []),
  (35, 3, .goto (46), 81, 0, []),
  (38, 1, .iload_n 2, 2, 0, []),
  (39, 1, .iconst 5, 5, 0, []),
  (40, 3, .if_icmp .ne (11), 51, 0, []),
  (43, 1, .aload_n 0, 0, 0, []),
  (44, 1, .iload_n 1, 1, 0, []),
  (45, 3, .invokevirtual 177, 79, 8, []),
  (48, 3, .goto (33), 81, 0, []),
  (51, 1, .iload_n 2, 2, 0, []),
  (52, 2, .bipush 6, 6, 0, []),
  (54, 3, .if_icmp .ne (12), 66, 0, []),
  (57, 1, .aload_n 0, 0, 0, []),
  (58, 1, .iload_n 1, 1, 0, []),
  (59, 1, .iconst 0, 0, 0, []),
  (60, 3, .invokevirtual 149, 80, 8, []),
  (63, 3, .goto (18), 81, 0, []),
  (66, 1, .aload_n 0, 0, 0, []),
  (67, 1, .iload_n 1, 1, 0, []),
  (68, 1, .iconst 0, 0, 0, []),
  (69, 3, .invokevirtual 136, 56, 8, []),
  (72, 1, .aload_n 0, 0, 0, []),
  (73, 1, .iload_n 1, 1, 0, []),
  (74, 1, .iconst 1, 1, 0, []),
  (75, 3, .invokevirtual 136, 56, 8, []),
  (78, 3, .invokestatic 163, 81, 0, []),
  (81, 1, .ireturn, 0, 0, [])]
set_option maxRecDepth 100000 in
theorem Zk90 : Zchk 90 Zt90 := ⟨by decide +kernel, by decide +kernel, Zat_in (hs := [1098, 1100, 137, 1101, 70, 997, 998, 137, 999, 1000, 1002, 137, 1003, 37, 1102, 1104, 137, 1105, 71, 1106, 1108, 137, 1109, 72, 1110, 1112, 137, 1113, 73, 1102, 1104, 137, 1105, 71, 1102, 1104, 137, 1105, 71, 1118, 1119, 137, 1120]) rfl, Zan_in (hs := []) rfl⟩
/-- KnitRiverModel.become(II)I -/
def Zt91 : List Zent := [(0, 1, .aload_n 0, 0, 0, []),
  (1, 1, .iload_n 1, 1, 0, []),
  (2, 3, .invokevirtual 174, 54, 8, []),
  (5, 3, .ifCond .eq (10), 15, 0, []),
  (8, 1, .iload_n 2, 2, 0, []),
  (9, 3, .invokestatic 168, 88, 0, []),
  (12, 3, .ifCond .ne (9), 21, 0, []),
  (15, 1, .aload_n 0, 0, 0, []),
  (16, 1, .iconst 1, 1, 0, []),
  (17, 3, .invokevirtual 63, 50, 8, []),
  (20, 1, .ireturn, 0, 0, []),
  (21, 1, .aload_n 0, 0, 0, []),
  (22, 1, .iload_n 1, 1, 0, []),
  (23, 1, .iconst 1, 1, 0, []),
  (24, 1, .iload_n 2, 2, 0, []),
  (25, 2, .bipush 10, 10, 0, []),
  (27, 1, .irem, 0, 0, []),
  (28, 3, .invokevirtual 155, 57, 8, []),
  (31, 1, .aload_n 0, 0, 0, []),
  (32, 2, .bipush 9, 9, 0, []),
  (34, 1, .iconst 5, 5, 0, []),
  (35, 1, .iload_n 1, 1, 0, []),
  (36, 1, .imul, 0, 0, []),
  (37, 1, .iadd, 0, 0, []),
  (38, 1, .iconst 0, 0, 0, []),
  (39, 1, .iadd, 0, 0, []),
  (40, 1, .iload_n 2, 2, 0, []),
  (41, 2, .bipush 10, 10, 0, []),
  (43, 1, .idiv, 0, 0, []),
  (44, 3, .invokevirtual 180, 58, 8, []),
  (47, 1, .ireturn, 0, 0, [])]
set_option maxRecDepth 100000 in
theorem Zk91 : Zchk 91 Zt91 := ⟨by decide +kernel, by decide +kernel, Zat_in (hs := [1098, 1100, 137, 1101, 70, 1062, 1063, 137, 1064, 1000, 1002, 137, 1003, 37, 1090, 1092, 137, 1093, 69, 1125, 1127, 137, 1128, 75]) rfl, Zan_in (hs := []) rfl⟩
/-- KnitRiverModel.as(II)I -/
def Zt92 : List Zent := [(0, 1, .aload_n 0, 0, 0, []),
  (1, 1, .iload_n 1, 1, 0, []),
  (2, 3, .invokevirtual 174, 54, 8, []),
  (5, 3, .ifCond .eq (13), 18, 0, []),
  (8, 1, .iload_n 2, 2, 0, []),
  (9, 1, .iconst 0, 0, 0, []),
  (10, 2, .bipush 6, 6, 0, []),
  (12, 3, .invokestatic 59, 51, 0, []),
  (15, 3, .ifCond .ne (9), 24, 0, []),
  (18, 1, .aload_n 0, 0, 0, []),
  (19, 1, .iconst 1, 1, 0, []),
  (20, 3, .invokevirtual 63, 50, 8, []),
  (23, 1, .ireturn, 0, 0, []),
  (24, 1, .aload_n 0, 0, 0, []),
  (25, 1, .iload_n 1, 1, 0, []),
  (26, 1, .iconst 0, 0, 0, []),
  (27, 3, .invokevirtual 136, 56, 8, []),
  (30, 1, .istore_n 3, 3, 0, []),
  (31, 1, .iload_n 3, 3, 0, []),
  (32, 1, .iload_n 2, 2, 0, []),
  (33, 3, .if_icmp .eq (15), 48, 0, []),
  (36, 1, .iload_n 3, 3, 0, []),
  (37, 3, .ifCond .eq (11), 48, 0, []),
  (40, 1, .iload_n 3, 3, 0, []),
  (41, 3, .invokestatic 183, 114, 0, []),
  (44, 1, .istore_n 3, 3, 0, []),
  (45, 3, .goto (-14), 31, 0, []),
  (48, 1, .iload_n 3, 3, 0, []),
  (49, 1, .iload_n 2, 2, 0, []),
  (50, 3, .if_icmp .ne (12), 62, 0, []),
  (53, 1, .aload_n 0, 0, 0, []),
  (54, 1, .iload_n 1, 1, 0, []),
  (55, 1, .iconst 1, 1, 0, []),
  (56, 3, .invokevirtual 136, 56, 8, []),
  (59, 3, .goto (8), 67, 0, []),
  (62, 1, .aload_n 0, 0, 0, []),
  (63, 1, .iconst 5, 5, 0, []),
  (64, 3, .invokevirtual 63, 50, 8, []),
  (67, 1, .ireturn, 0, 0, [])]
set_option maxRecDepth 100000 in
theorem Zk92 : Zchk 92 Zt92 := ⟨by decide +kernel, by decide +kernel, Zat_in (hs := [1098, 1100, 137, 1101, 70, 997, 998, 137, 999, 1000, 1002, 137, 1003, 37, 1102, 1104, 137, 1105, 71, 1133, 1134, 137, 1135, 1102, 1104, 137, 1105, 71, 1000, 1002, 137, 1003, 37]) rfl, Zan_in (hs := []) rfl⟩
/-- KnitRiverModel.tie(II)I -/
def Zt93 : List Zent := [(0, 1, .aload_n 0, 0, 0, []),
  (1, 1, .iload_n 1, 1, 0, []),
  (2, 3, .invokevirtual 174, 54, 8, []),
  (5, 3, .ifCond .eq (28), 33, 0, []),
  (8, 1, .iload_n 2, 2, 0, []),
  (9, 1, .iconst 0, 0, 0, []),
  (10, 1, .iconst 1, 1, 0, []),
  (11, 3, .invokestatic 59, 51, 0, []),
  (14, 3, .ifCond .eq (19), 33, 0, []),
  (17, 1, .aload_n 0, 0, 0, []),
  (18, 2, .bipush 9, 9, 0, []),
  (20, 1, .iconst 5, 5, 0, []),
  (21, 1, .iload_n 1, 1, 0, []),
  (22, 1, .imul, 0, 0, []),
  (23, 1, .iadd, 0, 0, []),
  (24, 1, .iconst 4, 4, 0, []),
  (25, 1, .iadd, 0, 0, []),
  (26, 1, .iload_n 2, 2, 0, []),
  (27, 3, .invokevirtual 180, 58, 8, []),
  (30, 3, .goto (8), 38, 0, []),
  (33, 1, .aload_n 0, 0, 0, []),
  (34, 1, .iconst 1, 1, 0, []),
  (35, 3, .invokevirtual 63, 50, 8, []),
  (38, 1, .ireturn, 0, 0, [])]
set_option maxRecDepth 100000 in
theorem Zk93 : Zchk 93 Zt93 := ⟨by decide +kernel, by decide +kernel, Zat_in (hs := [1098, 1100, 137, 1101, 70, 997, 998, 137, 999, 1125, 1127, 137, 1128, 75, 1000, 1002, 137, 1003, 37]) rfl, Zan_in (hs := []) rfl⟩
/-- KnitRiverModel.drop(I)I -/
def Zt94 : List Zent := [(0, 1, .aload_n 0, 0, 0, []),
  (1, 1, .iload_n 1, 1, 0, []),
  (2, 3, .invokevirtual 174, 54, 8, []),
  (5, 3, .ifCond .ne (9), 14, 0, []),
  (8, 1, .aload_n 0, 0, 0, []),
  (9, 1, .iconst 1, 1, 0, []),
  (10, 3, .invokevirtual 63, 50, 8, []),
  (13, 1, .ireturn, 0, 0, []),
  (14, 1, .aload_n 0, 0, 0, []),
  (15, 1, .iload_n 1, 1, 0, []),
  (16, 1, .iconst 2, 2, 0, []),
  (17, 3, .invokevirtual 136, 56, 8, []),
  (20, 1, .iconst 1, 1, 0, []),
  (21, 3, .if_icmp .ne (9), 30, 0, []),
  (24, 1, .aload_n 0, 0, 0, []),
  (25, 1, .iconst 3, 3, 0, []),
  (26, 3, .invokevirtual 63, 50, 8, []),
  (29, 1, .ireturn, 0, 0, []),
  (30, 1, .aload_n 0, 0, 0, []),
  (31, 1, .iload_n 1, 1, 0, []),
  (32, 1, .iconst 2, 2, 0, []),
  (33, 1, .aload_n 0, 0, 0, []),
  (34, 1, .iload_n 1, 1, 0, []),
  (35, 1, .iconst 2, 2, 0, []),
  (36, 3, .invokevirtual 136, 56, 8, []),
  (39, 1, .iconst 1, 1, 0, []),
  (40, 1, .isub, 0, 0, []),
  (41, 3, .invokevirtual 155, 57, 8, []),
  (44, 1, .aload_n 0, 0, 0, []),
  (45, 1, .iload_n 1, 1, 0, []),
  (46, 1, .iconst 2, 2, 0, []),
  (47, 3, .invokevirtual 136, 56, 8, []),
  (50, 1, .ireturn, 0, 0, [])]
set_option maxRecDepth 100000 in
theorem Zk94 : Zchk 94 Zt94 := ⟨by decide +kernel, by decide +kernel, Zat_in (hs := [1098, 1100, 137, 1101, 70, 1000, 1002, 137, 1003, 37, 1102, 1104, 137, 1105, 71, 1000, 1002, 137, 1003, 37, 1102, 1104, 137, 1105, 71, 1090, 1092, 137, 1093, 69, 1102, 1104, 137, 1105, 71]) rfl, Zan_in (hs := []) rfl⟩
/-- KnitRiverModel.tense(II)I -/
def Zt95 : List Zent := [(0, 1, .aload_n 0, 0, 0, []),
  (1, 1, .iload_n 1, 1, 0, []),
  (2, 3, .invokevirtual 174, 54, 8, []),
  (5, 3, .ifCond .eq (26), 31, 0, []),
  (8, 1, .iload_n 2, 2, 0, []),
  (9, 3, .invokestatic 171, 55, 0, []),
  (12, 3, .ifCond .eq (19), 31, 0, []),
  (15, 1, .aload_n 0, 0, 0, []),
  (16, 2, .bipush 9, 9, 0, []),
  (18, 1, .iconst 5, 5, 0, []),
  (19, 1, .iload_n 1, 1, 0, []),
  (20, 1, .imul, 0, 0, []),
  (21, 1, .iadd, 0, 0, []),
  (22, 1, .iconst 3, 3, 0, []),
  (23, 1, .iadd, 0, 0, []),
  (24, 1, .iload_n 2, 2, 0, []),
  (25, 3, .invokevirtual 180, 58, 8, []),
  (28, 3, .goto (8), 36, 0, []),
  (31, 1, .aload_n 0, 0, 0, []),
  (32, 1, .iconst 1, 1, 0, []),
  (33, 3, .invokevirtual 63, 50, 8, []),
  (36, 1, .ireturn, 0, 0, [])]
set_option maxRecDepth 100000 in
theorem Zk95 : Zchk 95 Zt95 := ⟨by decide +kernel, by decide +kernel, Zat_in (hs := [1098, 1100, 137, 1101, 70, 1065, 1066, 137, 1067, 1125, 1127, 137, 1128, 75, 1000, 1002, 137, 1003, 37]) rfl, Zan_in (hs := []) rfl⟩
/-- KnitRiverModel.pull(I)I -/
def Zt96 : List Zent := [(0, 1, .aload_n 0, 0, 0, []),
  (1, 1, .iload_n 1, 1, 0, []),
  (2, 3, .invokevirtual 174, 54, 8, []),
  (5, 3, .ifCond .ne (9), 14, 0, []),
  (8, 1, .aload_n 0, 0, 0, []),
  (9, 1, .iconst 1, 1, 0, []),
  (10, 3, .invokevirtual 63, 50, 8, []),
  (13, 1, .ireturn, 0, 0, []),
  (14, 1, .iconst 0, 0, 0, []),
  (15, 1, .istore_n 2, 2, 0, []),
  (16, 1, .aload_n 0, 0, 0, []),
  (17, 3, .getfield 7, 8, 0, []),
  (20, 2, .bipush 7, 7, 0, []),
  (22, 1, .iaload, 0, 0, []),
  (23, 1, .iload_n 1, 1, 0, []),
  (24, 3, .if_icmp .le (70), 94, 0, []),
  (27, 1, .aload_n 0, 0, 0, []),
  (28, 1, .aload_n 0, 0, 0, []),
  (29, 3, .getfield 7, 8, 0, []),
  (32, 2, .bipush 7, 7, 0, []),
  (34, 1, .iaload, 0, 0, []),
  (35, 1, .iconst 1, 1, 0, []),
  (36, 1, .isub, 0, 0, []),
  (37, 1, .iconst 4, 4, 0, []),
  (38, 3, .invokevirtual 136, 56, 8, []),
  (41, 3, .ifCond .ne (53), 94, 0, []),
  (44, 1, .aload_n 0, 0, 0, []),
  (45, 3, .getfield 7, 8, 0, []),
  (48, 1, .iconst 0, 0, 0, []),
  (49, 1, .aload_n 0, 0, 0, []),
  (50, 3, .getfield 7, 8, 0, []),
  (53, 1, .iconst 0, 0, 0, []),
  (54, 1, .iaload, 0, 0, []),
  (55, 1, .aload_n 0, 0, 0, []),
  (56, 1, .aload_n 0, 0, 0, []),
  (57, 3, .getfield 7, 8, 0, []),
  (60, 2, .bipush 7, 7, 0, []),
  (62, 1, .iaload, 0, 0, []),
  (63, 1, .iconst 1, 1, 0, []),
  (64, 1, .isub, 0, 0, []),
  (65, 3, .invokevirtual 177, 79, 8, []),
  (68, 1, .iadd, 0, 0, []),
  (69, 1, .iconst 0, 0, 0, []),
  (70, 3, .sipush 9999, 9999, 0, []),
  (73, 3, .invokestatic 126, 52, 0, []),
  (76, 1, .iastore, 0, 0, []),
  (77, 1, .aload_n 0, 0, 0, []),
  (78, 3, .getfield 7, 8, 0, []),
  (81, 2, .bipush 7, 7, 0, []),
  (83, 1, .dup2, 0, 0, []),
  (84, 1, .iaload, 0, 0, []),
  (85, 1, .iconst 1, 1, 0, []),
  (86, 1, .isub, 0, 0, []),
  (87, 1, .iastore, 0, 0, []),
  (88, 3, .iinc 2 1, 1, 0, [2]),
  (91, 3, .goto (-75), 16, 0, []),
  (94, 1, .iload_n 2, 2, 0, []),
  (95, 1, .ireturn, 0, 0, [])]
set_option maxRecDepth 100000 in
theorem Zk96 : Zchk 96 Zt96 := ⟨by decide +kernel, by decide +kernel, Zat_in (hs := [1098, 1100, 137, 1101, 70, 1000, 1002, 137, 1003, 37, 911, 911, 1102, 1104, 137, 1105, 71, 911, 911, 911, 1106, 1108, 137, 1109, 72, 1087, 1088, 137, 1089, 911]) rfl, Zan_in (hs := []) rfl⟩
/-- KnitRiverModel.wind(II)I -/
def Zt97 : List Zent := [(0, 1, .iload_n 1, 1, 0, []),
  (1, 1, .iconst 0, 0, 0, []),
  (2, 1, .iconst 1, 1, 0, []),
  (3, 3, .invokestatic 59, 51, 0, []),
  (6, 3, .ifCond .eq (33), 39, 0, []),
  (9, 1, .iload_n 2, 2, 0, []),
  (10, 1, .iconst 0, 0, 0, []),
  (11, 1, .iload_n 1, 1, 0, []),
  (12, 3, .ifCond .ne (9), 21, 0, []),
  (15, 3, .sipush 9999, 9999, 0, []),
  (18, 3, .goto (4), 22, 0, []),
  (21, 1, .iconst 3, 3, 0, []),
  (22, 3, .invokestatic 59, 51, 0, []),
  (25, 3, .ifCond .eq (14), 39, 0, []),
  (28, 1, .aload_n 0, 0, 0, []),
  (29, 1, .iconst 0, 0, 0, []),
  (30, 1, .iload_n 1, 1, 0, []),
  (31, 1, .iadd, 0, 0, []),
  (32, 1, .iload_n 2, 2, 0, []),
  (33, 3, .invokevirtual 180, 58, 8, []),
  (36, 3, .goto (8), 44, 0, []),
  (39, 1, .aload_n 0, 0, 0, []),
  (40, 1, .iconst 1, 1, 0, []),
  (41, 3, .invokevirtual 63, 50, 8, []),
  (44, 1, .ireturn, 0, 0, [])]
set_option maxRecDepth 100000 in
theorem Zk97 : Zchk 97 Zt97 := ⟨by decide +kernel, by decide +kernel, Zat_in (hs := [997, 998, 137, 999, 997, 998, 137, 999, 1125, 1127, 137, 1128, 75, 1000, 1002, 137, 1003, 37]) rfl, Zan_in (hs := []) rfl⟩
/-- KnitRiverModel.law(IIII)I -/
def Zt98 : List Zent := [(0, 1, .iload_n 1, 1, 0, []),
  (1, 1, .iconst 0, 0, 0, []),
  (2, 1, .iconst 1, 1, 0, []),
  (3, 3, .invokestatic 59, 51, 0, []),
  (6, 3, .ifCond .ne (9), 15, 0, []),
  (9, 1, .aload_n 0, 0, 0, []),
  (10, 1, .iconst 1, 1, 0, []),
  (11, 3, .invokevirtual 63, 50, 8, []),
  (14, 1, .ireturn, 0, 0, []),
  (15, 1, .iload_n 1, 1, 0, []),
  (16, 3, .ifCond .ne (14), 30, 0, []),
  (19, 1, .aload_n 0, 0, 0, []),
  (20, 1, .iload_n 2, 2, 0, []),
  (21, 1, .iload_n 3, 3, 0, []),
  (22, 2, .iload 4, 4, 0, []),
  (24, 3, .invokevirtual 133, 76, 8, []),
  (27, 3, .goto (11), 38, 0, []),
  (30, 1, .aload_n 0, 0, 0, []),
  (31, 1, .iload_n 2, 2, 0, []),
  (32, 1, .iload_n 3, 3, 0, []),
  (33, 2, .iload 4, 4, 0, []),
  (35, 3, .invokevirtual 143, 77, 8, []),
  (38, 1, .ireturn, 0, 0, [])]
set_option maxRecDepth 100000 in
theorem Zk98 : Zchk 98 Zt98 := ⟨by decide +kernel, by decide +kernel, Zat_in (hs := [997, 998, 137, 999, 1000, 1002, 137, 1003, 37, 1076, 1078, 137, 1079, 67, 1114, 1116, 137, 1117, 74]) rfl, Zan_in (hs := []) rfl⟩
/-- KnitRiverModel.isWater(I)Z -/
def Zt99 : List Zent := [(0, 1, .iload_n 0, 0, 0, []),
  (1, 1, .iconst 0, 0, 0, []),
  (2, 3, .sipush 999, 999, 0, []),
  (5, 3, .invokestatic 59, 51, 0, []),
  (8, 1, .ireturn, 0, 0, [])]
set_option maxRecDepth 100000 in
theorem Zk99 : Zchk 99 Zt99 := ⟨by decide +kernel, by decide +kernel, Zat_in (hs := [997, 998, 137, 999]) rfl, Zan_in (hs := []) rfl⟩
/-- KnitRiverModel.season(I)I -/
def Zt100 : List Zent := [(0, 1, .iload_n 1, 1, 0, []),
  (1, 3, .invokestatic 186, 99, 0, []),
  (4, 3, .ifCond .ne (9), 13, 0, []),
  (7, 1, .aload_n 0, 0, 0, []),
  (8, 1, .iconst 1, 1, 0, []),
  (9, 3, .invokevirtual 63, 50, 8, []),
  (12, 1, .ireturn, 0, 0, []),
  (13, 1, .aload_n 0, 0, 0, []),
  (14, 3, .getfield 7, 8, 0, []),
  (17, 1, .iconst 2, 2, 0, []),
  (18, 1, .iaload, 0, 0, []),
  (19, 3, .sipush 9999, 9999, 0, []),
  (22, 3, .if_icmp .ne (11), 33, 0, []),
  (25, 1, .aload_n 0, 0, 0, []),
  (26, 1, .iconst 3, 3, 0, []),
  (27, 3, .invokevirtual 63, 50, 8, []),
  (30, 3, .goto (8), 38, 0, []),
  (33, 1, .aload_n 0, 0, 0, []),
  (34, 1, .iload_n 1, 1, 0, []),
  (35, 3, .invokevirtual 189, 83, 8, []),
  (38, 1, .ireturn, 0, 0, [])]
set_option maxRecDepth 100000 in
theorem Zk100 : Zchk 100 Zt100 := ⟨by decide +kernel, by decide +kernel, Zat_in (hs := [1180, 1181, 137, 1182, 1000, 1002, 137, 1003, 37, 911, 1000, 1002, 137, 1003, 37, 1183, 1185, 137, 1186, 76]) rfl, Zan_in (hs := []) rfl⟩
/-- KnitRiverModel.loose(I)I -/
def Zt101 : List Zent := [(0, 1, .iload_n 1, 1, 0, []),
  (1, 1, .iconst 1, 1, 0, []),
  (2, 2, .bipush 30, 30, 0, []),
  (4, 3, .invokestatic 59, 51, 0, []),
  (7, 3, .ifCond .ne (9), 16, 0, []),
  (10, 1, .aload_n 0, 0, 0, []),
  (11, 1, .iconst 1, 1, 0, []),
  (12, 3, .invokevirtual 63, 50, 8, []),
  (15, 1, .ireturn, 0, 0, []),
  (16, 1, .aload_n 0, 0, 0, []),
  (17, 3, .getfield 7, 8, 0, []),
  (20, 1, .iconst 2, 2, 0, []),
  (21, 1, .iaload, 0, 0, []),
  (22, 1, .iload_n 1, 1, 0, []),
  (23, 1, .iadd, 0, 0, []),
  (24, 3, .sipush 9999, 9999, 0, []),
  (27, 3, .if_icmp .le (9), 36, 0, []),
  (30, 1, .aload_n 0, 0, 0, []),
  (31, 1, .iconst 3, 3, 0, []),
  (32, 3, .invokevirtual 63, 50, 8, []),
  (35, 1, .ireturn, 0, 0, []),
  (36, 1, .iconst 0, 0, 0, []),
  (37, 1, .istore_n 2, 2, 0, []),
  (38, 1, .iconst 0, 0, 0, []),
  (39, 1, .istore_n 3, 3, 0, []),
  (40, 1, .iload_n 3, 3, 0, []),
  (41, 1, .iload_n 1, 1, 0, []),
  (42, 3, .if_icmp .ge (74), 116, 0, []),
  (45, 1, .iload_n 2, 2, 0, []),
  (46, 1, .aload_n 0, 0, 0, []),
  (47, 1, .aload_n 0, 0, 0, []),
  (48, 3, .invokevirtual 192, 84, 8, []),
  (51, 2, .bipush 120, 120, 0, []),
  (53, 1, .irem, 0, 0, []),
  (54, 3, .invokevirtual 189, 83, 8, []),
  (57, 1, .ior, 0, 0, []),
  (58, 1, .istore_n 2, 2, 0, []),
  (59, 1, .aload_n 0, 0, 0, []),
  (60, 3, .getfield 7, 8, 0, []),
  (63, 2, .bipush 7, 7, 0, []),
  (65, 1, .iaload, 0, 0, []),
  (66, 3, .ifCond .le (44), 110, 0, []),
  (69, 1, .aload_n 0, 0, 0, []),
  (70, 3, .invokevirtual 192, 84, 8, []),
  (73, 1, .aload_n 0, 0, 0, []),
  (74, 3, .getfield 7, 8, 0, []),
  (77, 2, .bipush 7, 7, 0, []),
  (79, 1, .iaload, 0, 0, []),
  (80, 1, .irem, 0, 0, []),
  (81, 2, .istore 4, 4, 0, []),
  (83, 1, .aload_n 0, 0, 0, []),
  (84, 2, .iload 4, 4, 0, []),
  (86, 1, .iconst 2, 2, 0, []),
  (87, 1, .aload_n 0, 0, 0, []),
  (88, 2, .iload 4, 4, 0, []),
  (90, 1, .iconst 2, 2, 0, []),
  (91, 3, .invokevirtual 136, 56, 8, []),
  (94, 1, .aload_n 0, 0, 0, []),
  (95, 3, .invokevirtual 192, 84, 8, []),
  (98, 1, .iconst 2, 2, 0, []),
  (99, 1, .irem, 0, 0, []),
  (100, 1, .isub, 0, 0, []),
  (101, 1, .iconst 1, 1, 0, []),
  (102, 2, .bipush 12, 12, 0, []),
  (104, 3, .invokestatic 126, 52, 0, []),
  (107, 3, .invokevirtual 155, 57, 8, []),
  (110, 3, .iinc 3 1, 1, 0, [3]),
  (113, 3, .goto (-73), 40, 0, []),
  (116, 1, .iload_n 2, 2, 0, []),
  (117, 1, .ireturn, 0, 0, [])]
set_option maxRecDepth 100000 in
theorem Zk101 : Zchk 101 Zt101 := ⟨by decide +kernel, by decide +kernel, Zat_in (hs := [997, 998, 137, 999, 1000, 1002, 137, 1003, 37, 911, 1000, 1002, 137, 1003, 37, 1195, 1197, 137, 1198, 78, 1183, 1185, 137, 1186, 76, 911, 1195, 1197, 137, 1198, 78, 911, 1102, 1104, 137, 1105, 71, 1195, 1197, 137, 1198, 78, 1087, 1088, 137, 1089, 1090, 1092, 137, 1093, 69]) rfl, Zan_in (hs := []) rfl⟩
/-- KnitRiverModel.seed(I)I -/
def Zt102 : List Zent := [(0, 1, .aload_n 0, 0, 0, []),
  (1, 1, .iconst 4, 4, 0, []),
  (2, 1, .iload_n 1, 1, 0, []),
  (3, 3, .invokevirtual 180, 58, 8, []),
  (6, 1, .ireturn, 0, 0, [])]
set_option maxRecDepth 100000 in
theorem Zk102 : Zchk 102 Zt102 := ⟨by decide +kernel, by decide +kernel, Zat_in (hs := [1125, 1127, 137, 1128, 75]) rfl, Zan_in (hs := []) rfl⟩
/-- KnitRiverModel.flow(III)I -/
def Zt103 : List Zent := [(0, 1, .iload_n 1, 1, 0, []),
  (1, 3, .invokestatic 186, 99, 0, []),
  (4, 3, .ifCond .eq (27), 31, 0, []),
  (7, 1, .iload_n 2, 2, 0, []),
  (8, 1, .iconst 0, 0, 0, []),
  (9, 1, .aload_n 0, 0, 0, []),
  (10, 3, .getfield 7, 8, 0, []),
  (13, 2, .bipush 7, 7, 0, []),
  (15, 1, .iaload, 0, 0, []),
  (16, 3, .invokestatic 59, 51, 0, []),
  (19, 3, .ifCond .eq (12), 31, 0, []),
  (22, 1, .iload_n 3, 3, 0, []),
  (23, 1, .iconst 0, 0, 0, []),
  (24, 1, .iconst 1, 1, 0, []),
  (25, 3, .invokestatic 59, 51, 0, []),
  (28, 3, .ifCond .ne (9), 37, 0, []),
  (31, 1, .aload_n 0, 0, 0, []),
  (32, 1, .iconst 1, 1, 0, []),
  (33, 3, .invokevirtual 63, 50, 8, []),
  (36, 1, .ireturn, 0, 0, []),
  (37, 1, .aload_n 0, 0, 0, []),
  (38, 1, .iload_n 1, 1, 0, []),
  (39, 1, .iconst 0, 0, 0, []),
  (40, 3, .invokevirtual 152, 82, 8, []),
  (43, 1, .iload_n 3, 3, 0, []),
  (44, 3, .ifCond .ne (12), 56, 0, []),
  (47, 1, .aload_n 0, 0, 0, []),
  (48, 3, .getfield 28, 8, 11, []),
  (51, 1, .iload_n 2, 2, 0, []),
  (52, 1, .iaload, 0, 0, []),
  (53, 3, .goto (7), 60, 0, []),
  (56, 1, .aload_n 0, 0, 0, []),
  (57, 3, .getfield 146, 8, 12, []),
  (60, 1, .ireturn, 0, 0, [])]
set_option maxRecDepth 100000 in
theorem Zk103 : Zchk 103 Zt103 := ⟨by decide +kernel, by decide +kernel, Zat_in (hs := [1180, 1181, 137, 1182, 911, 997, 998, 137, 999, 997, 998, 137, 999, 1000, 1002, 137, 1003, 37, 1187, 1189, 137, 1190, 77, 922, 923]) rfl, Zan_in (hs := []) rfl⟩
/-- KnitRiverModel.course(II)I -/
def Zt104 : List Zent := [(0, 1, .iload_n 1, 1, 0, []),
  (1, 1, .iconst 0, 0, 0, []),
  (2, 1, .aload_n 0, 0, 0, []),
  (3, 3, .getfield 7, 8, 0, []),
  (6, 2, .bipush 7, 7, 0, []),
  (8, 1, .iaload, 0, 0, []),
  (9, 3, .invokestatic 59, 51, 0, []),
  (12, 3, .ifCond .eq (12), 24, 0, []),
  (15, 1, .iload_n 2, 2, 0, []),
  (16, 1, .iconst 0, 0, 0, []),
  (17, 1, .iconst 1, 1, 0, []),
  (18, 3, .invokestatic 59, 51, 0, []),
  (21, 3, .ifCond .ne (9), 30, 0, []),
  (24, 1, .aload_n 0, 0, 0, []),
  (25, 1, .iconst 1, 1, 0, []),
  (26, 3, .invokevirtual 63, 50, 8, []),
  (29, 1, .ireturn, 0, 0, []),
  (30, 1, .aload_n 0, 0, 0, []),
  (31, 3, .invokevirtual 195, 87, 8, []),
  (34, 1, .iload_n 2, 2, 0, []),
  (35, 3, .ifCond .ne (12), 47, 0, []),
  (38, 1, .aload_n 0, 0, 0, []),
  (39, 3, .getfield 31, 8, 13, []),
  (42, 1, .iload_n 1, 1, 0, []),
  (43, 1, .iaload, 0, 0, []),
  (44, 3, .goto (9), 53, 0, []),
  (47, 1, .aload_n 0, 0, 0, []),
  (48, 3, .getfield 34, 8, 14, []),
  (51, 1, .iload_n 1, 1, 0, []),
  (52, 1, .iaload, 0, 0, []),
  (53, 1, .ireturn, 0, 0, [])]
set_option maxRecDepth 100000 in
theorem Zk104 : Zchk 104 Zt104 := ⟨by decide +kernel, by decide +kernel, Zat_in (hs := [911, 997, 998, 137, 999, 997, 998, 137, 999, 1000, 1002, 137, 1003, 37, 1212, 1214, 137, 1215, 79, 924, 925]) rfl, Zan_in (hs := []) rfl⟩
/-- KnitRiverModel.crosses()I -/
def Zt105 : List Zent := [(0, 1, .aload_n 0, 0, 0, []),
  (1, 3, .invokevirtual 195, 87, 8, []),
  (4, 1, .iconst 0, 0, 0, []),
  (5, 1, .istore_n 1, 1, 0, []),
  (6, 1, .iconst 1, 1, 0, []),
  (7, 1, .istore_n 2, 2, 0, []),
  (8, 1, .iload_n 2, 2, 0, []),
  (9, 1, .aload_n 0, 0, 0, []),
  (10, 3, .getfield 7, 8, 0, []),
  (13, 2, .bipush 7, 7, 0, []),
  (15, 1, .iaload, 0, 0, []),
  (16, 3, .if_icmp .gt (80), 96, 0, []),
  (19, 1, .iconst 0, 0, 0, []),
  (20, 1, .istore_n 3, 3, 0, []),
  (21, 1, .iconst 0, 0, 0, []),
  (22, 2, .istore 4, 4, 0, []),
  (24, 2, .iload 4, 4, 0, []),
  (26, 1, .iload_n 2, 2, 0, []),
  (27, 3, .if_icmp .ge (51), 78, 0, []),
  (30, 1, .iload_n 3, 3, 0, []),
  (31, 3, .ifCond .ne (35), 66, 0, []),
  (34, 1, .aload_n 0, 0, 0, []),
  (35, 3, .getfield 31, 8, 13, []),
  (38, 2, .iload 4, 4, 0, []),
  (40, 1, .iaload, 0, 0, []),
  (41, 1, .aload_n 0, 0, 0, []),
  (42, 3, .getfield 31, 8, 13, []),
  (45, 1, .iload_n 2, 2, 0, []),
  (46, 1, .iaload, 0, 0, []),
  (47, 3, .if_icmp .ne (23), 70, 0, []),
  (50, 1, .aload_n 0, 0, 0, []),
  (51, 3, .getfield 34, 8, 14, []),
  (54, 2, .iload 4, 4, 0, []),
  (56, 1, .iaload, 0, 0, []),
  (57, 1, .aload_n 0, 0, 0, []),
  (58, 3, .getfield 34, 8, 14, []),
  (61, 1, .iload_n 2, 2, 0, []),
  (62, 1, .iaload, 0, 0, []),
  (63, 3, .if_icmp .ne (7), 70, 0, []),
  (66, 1, .iconst 1, 1, 0, []),
  (67, 3, .goto (4), 71, 0, []),
  (70, 1, .iconst 0, 0, 0, []),
  (71, 1, .istore_n 3, 3, 0, []),
  (72, 3, .iinc 4 1, 1, 0, [4]),
  (75, 3, .goto (-51), 24, 0, []),
  (78, 1, .iload_n 1, 1, 0, []),
  (79, 1, .iload_n 3, 3, 0, []),
  (80, 3, .ifCond .eq (7), 87, 0, []),
  (83, 1, .iconst 1, 1, 0, []),
  (84, 3, .goto (4), 88, 0, []),
  (87, 1, .iconst 0, 0, 0, []),
  (88, 1, .iadd, 0, 0, []),
  (89, 1, .istore_n 1, 1, 0, []),
  (90, 3, .iinc 2 1, 1, 0, [2]),
  (93, 3, .goto (-85), 8, 0, []),
  (96, 1, .iload_n 1, 1, 0, []),
  (97, 1, .ireturn, 0, 0, [])]
set_option maxRecDepth 100000 in
theorem Zk105 : Zchk 105 Zt105 := ⟨by decide +kernel, by decide +kernel, Zat_in (hs := [1212, 1214, 137, 1215, 79, 911, 924, 924, 925, 925]) rfl, Zan_in (hs := []) rfl⟩
/-- KnitRiverModel.stitchOf(I)I -/
def Zt106 : List Zent := [(0, 1, .iload_n 0, 0, 0, []),
  (1, 3, .ifCond .ne (7), 8, 0, []),
  (4, 1, .iconst 0, 0, 0, []),
  (5, 3, .goto (25), 30, 0, []),
  (8, 1, .iload_n 0, 0, 0, []),
  (9, 1, .iconst 1, 1, 0, []),
  (10, 3, .if_icmp .ne (8), 18, 0, []),
  (13, 2, .bipush 10, 10, 0, []),
  (15, 3, .goto (15), 30, 0, []),
  (18, 1, .iload_n 0, 0, 0, []),
  (19, 1, .iconst 2, 2, 0, []),
  (20, 3, .if_icmp .ne (8), 28, 0, []),
  (23, 2, .bipush 12, 12, 0, []),
  (25, 3, .goto (5), 30, 0, []),
  (28, 2, .bipush 60, 60, 0, []),
  (30, 1, .ireturn, 0, 0, [])]
set_option maxRecDepth 100000 in
theorem Zk106 : Zchk 106 Zt106 := ⟨by decide +kernel, by decide +kernel, Zat_in (hs := []) rfl, Zan_in (hs := []) rfl⟩
/-- KnitRiverModel.leads(IIIII)Z -/
def Zt107 : List Zent := [(0, 1, .aload_n 0, 0, 0, []),
  (1, 3, .getfield 7, 8, 0, []),
  (4, 2, .bipush 7, 7, 0, []),
  (6, 1, .iaload, 0, 0, []),
  (7, 1, .iload_n 1, 1, 0, []),
  (8, 1, .iadd, 0, 0, []),
  (9, 2, .istore 6, 6, 0, []),
  (11, 1, .iload_n 1, 1, 0, []),
  (12, 1, .iload_n 2, 2, 0, []),
  (13, 3, .if_icmp .ne (93), 106, 0, []),
  (16, 1, .aload_n 0, 0, 0, []),
  (17, 3, .getfield 31, 8, 13, []),
  (20, 2, .iload 6, 6, 0, []),
  (22, 1, .iaload, 0, 0, []),
  (23, 1, .iload_n 3, 3, 0, []),
  (24, 3, .if_icmp .ne (19), 43, 0, []),
  (27, 1, .aload_n 0, 0, 0, []),
  (28, 3, .getfield 34, 8, 14, []),
  (31, 2, .iload 6, 6, 0, []),
  (33, 1, .iaload, 0, 0, []),
  (34, 2, .iload 4, 4, 0, []),
  (36, 3, .if_icmp .ne (7), 43, 0, []),
  (39, 1, .iconst 1, 1, 0, []),
  (40, 3, .goto (4), 44, 0, []),
  (43, 1, .iconst 0, 0, 0, []),
  (44, 2, .istore 7, 7, 0, []),
  (46, 2, .iload 7, 7, 0, []),
  (48, 3, .ifCond .eq (55), 103, 0, []),
  (51, 1, .aload_n 0, 0, 0, []),
  (52, 3, .getfield 198, 8, 18, []),
  (55, 1, .iconst (-1), 1, 1, []),
  (56, 3, .if_icmp .eq (12), 68, 0, []),
  (59, 2, .iload 5, 5, 0, []),
  (61, 1, .aload_n 0, 0, 0, []),
  (62, 3, .getfield 198, 8, 18, []),
  (65, 3, .if_icmp .ge (38), 103, 0, []),
  (68, 1, .aload_n 0, 0, 0, []),
  (69, 2, .iload 5, 5, 0, []),
  (71, 3, .putfield 198, 8, 18, []),
  (74, 1, .iconst 0, 0, 0, []),
  (75, 2, .istore 8, 8, 0, []),
  (77, 2, .iload 8, 8, 0, []),
  (79, 1, .iload_n 2, 2, 0, []),
  (80, 3, .if_icmp .ge (23), 103, 0, []),
  (83, 1, .aload_n 0, 0, 0, []),
  (84, 3, .getfield 40, 8, 17, []),
  (87, 2, .iload 8, 8, 0, []),
  (89, 1, .aload_n 0, 0, 0, []),
  (90, 3, .getfield 37, 8, 16, []),
  (93, 2, .iload 8, 8, 0, []),
  (95, 1, .iaload, 0, 0, []),
  (96, 1, .iastore, 0, 0, []),
  (97, 3, .iinc 8 1, 1, 0, [8]),
  (100, 3, .goto (-23), 77, 0, []),
  (103, 2, .iload 7, 7, 0, []),
  (105, 1, .ireturn, 0, 0, []),
  (106, 1, .aload_n 0, 0, 0, []),
  (107, 3, .getfield 160, 8, 15, []),
  (110, 2, .istore 7, 7, 0, []),
  (112, 1, .iconst 0, 0, 0, []),
  (113, 2, .istore 8, 8, 0, []),
  (115, 1, .iconst 0, 0, 0, []),
  (116, 2, .istore 9, 9, 0, []),
  (118, 2, .iload 9, 9, 0, []),
  (120, 1, .iconst 4, 4, 0, []),
  (121, 3, .if_icmp .ge (98), 219, 0, []),
  (124, 1, .aload_n 0, 0, 0, []),
  (125, 3, .getfield 37, 8, 16, []),
  (128, 1, .iload_n 1, 1, 0, []),
  (129, 2, .iload 9, 9, 0, []),
  (131, 3, .invokestatic 201, 106, 0, []),
  (134, 1, .iastore, 0, 0, []),
  (135, 1, .aload_n 0, 0, 0, []),
  (136, 2, .iload 7, 7, 0, []),
  (138, 3, .putfield 160, 8, 15, []),
  (141, 1, .aload_n 0, 0, 0, []),
  (142, 2, .iload 6, 6, 0, []),
  (144, 1, .aload_n 0, 0, 0, []),
  (145, 3, .getfield 37, 8, 16, []),
  (148, 1, .iload_n 1, 1, 0, []),
  (149, 1, .iaload, 0, 0, []),
  (150, 2, .bipush 10, 10, 0, []),
  (152, 1, .idiv, 0, 0, []),
  (153, 1, .aload_n 0, 0, 0, []),
  (154, 3, .getfield 37, 8, 16, []),
  (157, 1, .iload_n 1, 1, 0, []),
  (158, 1, .iaload, 0, 0, []),
  (159, 2, .bipush 10, 10, 0, []),
  (161, 1, .irem, 0, 0, []),
  (162, 3, .invokestatic 163, 81, 0, []),
  (165, 3, .invokevirtual 166, 86, 8, []),
  (168, 1, .aload_n 0, 0, 0, []),
  (169, 1, .iload_n 1, 1, 0, []),
  (170, 1, .iconst 1, 1, 0, []),
  (171, 1, .iadd, 0, 0, []),
  (172, 1, .iload_n 2, 2, 0, []),
  (173, 1, .iload_n 3, 3, 0, []),
  (174, 2, .iload 4, 4, 0, []),
  (176, 2, .iload 5, 5, 0, []),
  (178, 1, .aload_n 0, 0, 0, []),
  (179, 1, .aload_n 0, 0, 0, []),
  (180, 3, .getfield 37, 8, 16, []),
  (183, 1, .iload_n 1, 1, 0, []),
  (184, 1, .iaload, 0, 0, []),
  (185, 1, .iconst 2, 2, 0, []),
  (186, 1, .iconst 0, 0, 0, []),
  (187, 3, .invokevirtual 140, 78, 8, []),
  (190, 1, .iadd, 0, 0, []),
  (191, 3, .invokevirtual 204, 107, 8, []),
  (194, 2, .istore 10, 10, 0, []),
  (196, 2, .iload 8, 8, 0, []),
  (198, 3, .ifCond .ne (8), 206, 0, []),
  (201, 2, .iload 10, 10, 0, []),
  (203, 3, .ifCond .eq (7), 210, 0, []),
  (206, 1, .iconst 1, 1, 0, []),
  (207, 3, .goto (4), 211, 0, []),
  (210, 1, .iconst 0, 0, 0, []),
  (211, 2, .istore 8, 8, 0, []),
  (213, 3, .iinc 9 1, 1, 0, [9]),
  (216, 3, .goto (-98), 118, 0, []),
  (219, 1, .aload_n 0, 0, 0, []),
  (220, 2, .iload 7, 7, 0, []),
  (222, 3, .putfield 160, 8, 15, []),
  (225, 2, .iload 8, 8, 0, []),
  (227, 1, .ireturn, 0, 0, [])]
set_option maxRecDepth 100000 in
theorem Zk107 : Zchk 107 Zt107 := ⟨by decide +kernel, by decide +kernel, Zat_in (hs := [911, 924, 925, 929, 929, 929, 928, 927, 926, 927, 1232, 1233, 137, 1234, 926, 927, 927, 1118, 1119, 137, 1120, 1216, 1218, 137, 1219, 96, 927, 1068, 1070, 137, 1071, 65, 1228, 1230, 137, 1231, 97, 926]) rfl, Zan_in (hs := []) rfl⟩
/-- KnitRiverModel.reach(III)I -/
def Zt108 : List Zent := [(0, 1, .iload_n 1, 1, 0, []),
  (1, 2, .bipush (-9), 9, 1, []),
  (3, 2, .bipush 9, 9, 0, []),
  (5, 3, .invokestatic 59, 51, 0, []),
  (8, 3, .ifCond .eq (24), 32, 0, []),
  (11, 1, .iload_n 2, 2, 0, []),
  (12, 2, .bipush (-9), 9, 1, []),
  (14, 2, .bipush 9, 9, 0, []),
  (16, 3, .invokestatic 59, 51, 0, []),
  (19, 3, .ifCond .eq (13), 32, 0, []),
  (22, 1, .iload_n 3, 3, 0, []),
  (23, 2, .bipush (-2), 2, 1, []),
  (25, 1, .iconst 4, 4, 0, []),
  (26, 3, .invokestatic 59, 51, 0, []),
  (29, 3, .ifCond .ne (9), 38, 0, []),
  (32, 1, .aload_n 0, 0, 0, []),
  (33, 1, .iconst 1, 1, 0, []),
  (34, 3, .invokevirtual 63, 50, 8, []),
  (37, 1, .ireturn, 0, 0, []),
  (38, 1, .aload_n 0, 0, 0, []),
  (39, 3, .invokevirtual 195, 87, 8, []),
  (42, 1, .aload_n 0, 0, 0, []),
  (43, 1, .iconst (-1), 1, 1, []),
  (44, 3, .putfield 198, 8, 18, []),
  (47, 1, .iconst 0, 0, 0, []),
  (48, 2, .istore 4, 4, 0, []),
  (50, 2, .iload 4, 4, 0, []),
  (52, 1, .iconst 5, 5, 0, []),
  (53, 3, .if_icmp .gt (37), 90, 0, []),
  (56, 1, .aload_n 0, 0, 0, []),
  (57, 3, .getfield 7, 8, 0, []),
  (60, 2, .bipush 7, 7, 0, []),
  (62, 1, .iaload, 0, 0, []),
  (63, 2, .iload 4, 4, 0, []),
  (65, 1, .iadd, 0, 0, []),
  (66, 2, .bipush 15, 15, 0, []),
  (68, 3, .if_icmp .gt (16), 84, 0, []),
  (71, 1, .aload_n 0, 0, 0, []),
  (72, 1, .iconst 0, 0, 0, []),
  (73, 2, .iload 4, 4, 0, []),
  (75, 1, .iload_n 1, 1, 0, []),
  (76, 1, .iload_n 2, 2, 0, []),
  (77, 1, .iconst 0, 0, 0, []),
  (78, 3, .invokevirtual 204, 107, 8, []),
  (81, 3, .ifCond .ne (9), 90, 0, []),
  (84, 3, .iinc 4 1, 1, 0, [4]),
  (87, 3, .goto (-37), 50, 0, []),
  (90, 2, .iload 4, 4, 0, []),
  (92, 1, .iconst 5, 5, 0, []),
  (93, 3, .if_icmp .le (9), 102, 0, []),
  (96, 1, .aload_n 0, 0, 0, []),
  (97, 1, .iconst 2, 2, 0, []),
  (98, 3, .invokevirtual 63, 50, 8, []),
  (101, 1, .ireturn, 0, 0, []),
  (102, 1, .iload_n 3, 3, 0, []),
  (103, 2, .bipush (-2), 2, 1, []),
  (105, 3, .if_icmp .ne (8), 113, 0, []),
  (108, 2, .iload 4, 4, 0, []),
  (110, 3, .goto (31), 141, 0, []),
  (113, 1, .iload_n 3, 3, 0, []),
  (114, 1, .iconst (-1), 1, 1, []),
  (115, 3, .if_icmp .ne (10), 125, 0, []),
  (118, 1, .aload_n 0, 0, 0, []),
  (119, 3, .getfield 198, 8, 18, []),
  (122, 3, .goto (19), 141, 0, []),
  (125, 1, .iload_n 3, 3, 0, []),
  (126, 2, .iload 4, 4, 0, []),
  (128, 3, .if_icmp .ge (12), 140, 0, []),
  (131, 1, .aload_n 0, 0, 0, []),
  (132, 3, .getfield 40, 8, 17, []),
  (135, 1, .iload_n 3, 3, 0, []),
  (136, 1, .iaload, 0, 0, []),
  (137, 3, .goto (4), 141, 0, []),
  (140, 1, .iconst (-1), 1, 1, []),
  (141, 1, .ireturn, 0, 0, [])]
set_option maxRecDepth 100000 in
theorem Zk108 : Zchk 108 Zt108 := ⟨by decide +kernel, by decide +kernel, Zat_in (hs := [997, 998, 137, 999, 997, 998, 137, 999, 997, 998, 137, 999, 1000, 1002, 137, 1003, 37, 1212, 1214, 137, 1215, 79, 929, 911, 1228, 1230, 137, 1231, 97, 1000, 1002, 137, 1003, 37, 929, 928]) rfl, Zan_in (hs := []) rfl⟩
/-- KnitRiverModel.ease(II)I -/
def Zt109 : List Zent := [(0, 1, .iload_n 1, 1, 0, []),
  (1, 3, .invokestatic 186, 99, 0, []),
  (4, 3, .ifCond .eq (12), 16, 0, []),
  (7, 1, .iload_n 2, 2, 0, []),
  (8, 1, .iconst 0, 0, 0, []),
  (9, 1, .iconst 1, 1, 0, []),
  (10, 3, .invokestatic 59, 51, 0, []),
  (13, 3, .ifCond .ne (9), 22, 0, []),
  (16, 1, .aload_n 0, 0, 0, []),
  (17, 1, .iconst 1, 1, 0, []),
  (18, 3, .invokevirtual 63, 50, 8, []),
  (21, 1, .ireturn, 0, 0, []),
  (22, 1, .iconst 0, 0, 0, []),
  (23, 1, .istore_n 3, 3, 0, []),
  (24, 1, .iconst (-1), 1, 1, []),
  (25, 2, .istore 4, 4, 0, []),
  (27, 2, .bipush (-9), 9, 1, []),
  (29, 2, .istore 5, 5, 0, []),
  (31, 2, .iload 5, 5, 0, []),
  (33, 2, .bipush 9, 9, 0, []),
  (35, 3, .if_icmp .gt (45), 80, 0, []),
  (38, 1, .aload_n 0, 0, 0, []),
  (39, 1, .iload_n 1, 1, 0, []),
  (40, 2, .iload 5, 5, 0, []),
  (42, 3, .invokevirtual 152, 82, 8, []),
  (45, 1, .aload_n 0, 0, 0, []),
  (46, 3, .getfield 146, 8, 12, []),
  (49, 3, .invokestatic 208, 85, 0, []),
  (52, 2, .istore 6, 6, 0, []),
  (54, 2, .iload 4, 4, 0, []),
  (56, 1, .iconst (-1), 1, 1, []),
  (57, 3, .if_icmp .eq (10), 67, 0, []),
  (60, 2, .iload 6, 6, 0, []),
  (62, 2, .iload 4, 4, 0, []),
  (64, 3, .if_icmp .ge (10), 74, 0, []),
  (67, 2, .iload 5, 5, 0, []),
  (69, 1, .istore_n 3, 3, 0, []),
  (70, 2, .iload 6, 6, 0, []),
  (72, 2, .istore 4, 4, 0, []),
  (74, 3, .iinc 5 1, 1, 0, [5]),
  (77, 3, .goto (-46), 31, 0, []),
  (80, 1, .iload_n 2, 2, 0, []),
  (81, 3, .ifCond .ne (7), 88, 0, []),
  (84, 1, .iload_n 3, 3, 0, []),
  (85, 3, .goto (5), 90, 0, []),
  (88, 2, .iload 4, 4, 0, []),
  (90, 1, .ireturn, 0, 0, [])]
set_option maxRecDepth 100000 in
theorem Zk109 : Zchk 109 Zt109 := ⟨by decide +kernel, by decide +kernel, Zat_in (hs := [1180, 1181, 137, 1182, 997, 998, 137, 999, 1000, 1002, 137, 1003, 37, 1187, 1189, 137, 1190, 77, 923, 1239, 1240, 137, 1241]) rfl, Zan_in (hs := []) rfl⟩
/-- KnitRiverModel.divisor(II)I -/
def Zt110 : List Zent := [(0, 1, .iload_n 0, 0, 0, []),
  (1, 1, .istore_n 2, 2, 0, []),
  (2, 1, .iload_n 1, 1, 0, []),
  (3, 1, .istore_n 3, 3, 0, []),
  (4, 1, .iload_n 3, 3, 0, []),
  (5, 3, .ifCond .eq (16), 21, 0, []),
  (8, 1, .iload_n 2, 2, 0, []),
  (9, 1, .iload_n 3, 3, 0, []),
  (10, 1, .irem, 0, 0, []),
  (11, 2, .istore 4, 4, 0, []),
  (13, 1, .iload_n 3, 3, 0, []),
  (14, 1, .istore_n 2, 2, 0, []),
  (15, 2, .iload 4, 4, 0, []),
  (17, 1, .istore_n 3, 3, 0, []),
  (18, 3, .goto (-14), 4, 0, []),
  (21, 1, .iload_n 2, 2, 0, []),
  (22, 1, .ireturn, 0, 0, [])]
set_option maxRecDepth 100000 in
theorem Zk110 : Zchk 110 Zt110 := ⟨by decide +kernel, by decide +kernel, Zat_in (hs := []) rfl, Zan_in (hs := []) rfl⟩
/-- KnitRiverModel.odds(I)I -/
def Zt111 : List Zent := [(0, 1, .iload_n 1, 1, 0, []),
  (1, 1, .iconst 0, 0, 0, []),
  (2, 1, .iconst 1, 1, 0, []),
  (3, 3, .invokestatic 59, 51, 0, []),
  (6, 3, .ifCond .ne (9), 15, 0, []),
  (9, 1, .aload_n 0, 0, 0, []),
  (10, 1, .iconst 1, 1, 0, []),
  (11, 3, .invokevirtual 63, 50, 8, []),
  (14, 1, .ireturn, 0, 0, []),
  (15, 1, .iconst 0, 0, 0, []),
  (16, 1, .istore_n 2, 2, 0, []),
  (17, 1, .iconst 0, 0, 0, []),
  (18, 1, .istore_n 3, 3, 0, []),
  (19, 1, .iload_n 3, 3, 0, []),
  (20, 2, .bipush 50, 50, 0, []),
  (22, 3, .if_icmp .ge (30), 52, 0, []),
  (25, 1, .aload_n 0, 0, 0, []),
  (26, 1, .iload_n 3, 3, 0, []),
  (27, 1, .iconst 0, 0, 0, []),
  (28, 3, .invokevirtual 152, 82, 8, []),
  (31, 1, .iload_n 2, 2, 0, []),
  (32, 1, .aload_n 0, 0, 0, []),
  (33, 3, .getfield 146, 8, 12, []),
  (36, 3, .ifCond .ne (7), 43, 0, []),
  (39, 1, .iconst 1, 1, 0, []),
  (40, 3, .goto (4), 44, 0, []),
  (43, 1, .iconst 0, 0, 0, []),
  (44, 1, .iadd, 0, 0, []),
  (45, 1, .istore_n 2, 2, 0, []),
  (46, 3, .iinc 3 1, 1, 0, [3]),
  (49, 3, .goto (-30), 19, 0, []),
  (52, 1, .iload_n 2, 2, 0, []),
  (53, 2, .bipush 50, 50, 0, []),
  (55, 3, .invokestatic 211, 110, 0, []),
  (58, 1, .istore_n 3, 3, 0, []),
  (59, 1, .iload_n 1, 1, 0, []),
  (60, 3, .ifCond .ne (9), 69, 0, []),
  (63, 1, .iload_n 2, 2, 0, []),
  (64, 1, .iload_n 3, 3, 0, []),
  (65, 1, .idiv, 0, 0, []),
  (66, 3, .goto (7), 73, 0, []),
  (69, 2, .bipush 50, 50, 0, []),
  (71, 1, .iload_n 3, 3, 0, []),
  (72, 1, .idiv, 0, 0, []),
  (73, 1, .ireturn, 0, 0, [])]
set_option maxRecDepth 100000 in
theorem Zk111 : Zchk 111 Zt111 := ⟨by decide +kernel, by decide +kernel, Zat_in (hs := [997, 998, 137, 999, 1000, 1002, 137, 1003, 37, 1187, 1189, 137, 1190, 77, 923, 1246, 1247, 137, 1248]) rfl, Zan_in (hs := []) rfl⟩
/-- KnitRiverModel.fits(II)I -/
def Zt112 : List Zent := [(0, 1, .iload_n 2, 2, 0, []),
  (1, 1, .iconst 0, 0, 0, []),
  (2, 1, .iconst 1, 1, 0, []),
  (3, 3, .invokestatic 59, 51, 0, []),
  (6, 3, .ifCond .eq (11), 17, 0, []),
  (9, 1, .aload_n 0, 0, 0, []),
  (10, 1, .iload_n 1, 1, 0, []),
  (11, 3, .invokevirtual 214, 127, 8, []),
  (14, 3, .goto (4), 18, 0, []),
  (17, 1, .iconst 1, 1, 0, []),
  (18, 1, .istore_n 3, 3, 0, []),
  (19, 1, .iload_n 3, 3, 0, []),
  (20, 3, .ifCond .eq (9), 29, 0, []),
  (23, 1, .aload_n 0, 0, 0, []),
  (24, 1, .iload_n 3, 3, 0, []),
  (25, 3, .invokevirtual 63, 50, 8, []),
  (28, 1, .ireturn, 0, 0, []),
  (29, 1, .iconst 0, 0, 0, []),
  (30, 2, .istore 4, 4, 0, []),
  (32, 1, .iconst (-1), 1, 1, []),
  (33, 2, .istore 5, 5, 0, []),
  (35, 1, .aload_n 0, 0, 0, []),
  (36, 3, .getfield 49, 8, 24, []),
  (39, 1, .iload_n 1, 1, 0, []),
  (40, 1, .iaload, 0, 0, []),
  (41, 2, .istore 6, 6, 0, []),
  (43, 3, .sipush 999, 999, 0, []),
  (46, 2, .istore 7, 7, 0, []),
  (48, 2, .iload 7, 7, 0, []),
  (50, 3, .ifCond .lt (140), 190, 0, []),
  (53, 2, .iload 6, 6, 0, []),
  (55, 1, .aload_n 0, 0, 0, []),
  (56, 3, .getfield 7, 8, 0, []),
  (59, 2, .bipush 7, 7, 0, []),
  (61, 1, .iaload, 0, 0, []),
  (62, 1, .iconst 1, 1, 0, []),
  (63, 1, .iadd, 0, 0, []),
  (64, 3, .if_icmp .gt (26), 90, 0, []),
  (67, 2, .iload 6, 6, 0, []),
  (69, 3, .ifCond .eq (17), 86, 0, []),
  (72, 1, .aload_n 0, 0, 0, []),
  (73, 3, .getfield 52, 8, 25, []),
  (76, 2, .bipush 24, 24, 0, []),
  (78, 1, .iload_n 1, 1, 0, []),
  (79, 1, .imul, 0, 0, []),
  (80, 1, .iaload, 0, 0, []),
  (81, 2, .iload 7, 7, 0, []),
  (83, 3, .if_icmp .ne (7), 90, 0, []),
  (86, 1, .iconst 1, 1, 0, []),
  (87, 3, .goto (4), 91, 0, []),
  (90, 1, .iconst 0, 0, 0, []),
  (91, 2, .istore 8, 8, 0, []),
  (93, 2, .iload 8, 8, 0, []),
  (95, 3, .ifCond .eq (10), 105, 0, []),
  (98, 1, .aload_n 0, 0, 0, []),
  (99, 2, .iload 7, 7, 0, []),
  (101, 1, .iconst 0, 0, 0, []),
  (102, 3, .invokevirtual 152, 82, 8, []),
  (105, 1, .iconst 0, 0, 0, []),
  (106, 2, .istore 9, 9, 0, []),
  (108, 2, .iload 9, 9, 0, []),
  (110, 2, .iload 6, 6, 0, []),
  (112, 3, .if_icmp .ge (43), 155, 0, []),
  (115, 2, .iload 8, 8, 0, []),
  (117, 3, .ifCond .eq (38), 155, 0, []),
  (120, 1, .aload_n 0, 0, 0, []),
  (121, 3, .getfield 28, 8, 11, []),
  (124, 2, .iload 9, 9, 0, []),
  (126, 1, .iaload, 0, 0, []),
  (127, 1, .aload_n 0, 0, 0, []),
  (128, 3, .getfield 52, 8, 25, []),
  (131, 2, .bipush 24, 24, 0, []),
  (133, 1, .iload_n 1, 1, 0, []),
  (134, 1, .imul, 0, 0, []),
  (135, 2, .iload 9, 9, 0, []),
  (137, 1, .iadd, 0, 0, []),
  (138, 1, .iaload, 0, 0, []),
  (139, 3, .if_icmp .ne (7), 146, 0, []),
  (142, 1, .iconst 1, 1, 0, []),
  (143, 3, .goto (4), 147, 0, []),
  (146, 1, .iconst 0, 0, 0, []),
  (147, 2, .istore 8, 8, 0, []),
  (149, 3, .iinc 9 1, 1, 0, [9]),
  (152, 3, .goto (-44), 108, 0, []),
  (155, 2, .iload 4, 4, 0, []),
  (157, 2, .iload 8, 8, 0, []),
  (159, 3, .ifCond .eq (7), 166, 0, []),
  (162, 1, .iconst 1, 1, 0, []),
  (163, 3, .goto (4), 167, 0, []),
  (166, 1, .iconst 0, 0, 0, []),
  (167, 1, .iadd, 0, 0, []),
  (168, 2, .istore 4, 4, 0, []),
  (170, 2, .iload 8, 8, 0, []),
  (172, 3, .ifCond .eq (8), 180, 0, []),
  (175, 2, .iload 7, 7, 0, []),
  (177, 3, .goto (5), 182, 0, []),
  (180, 2, .iload 5, 5, 0, []),
  (182, 2, .istore 5, 5, 0, []),
  (184, 3, .iinc 7 (-1), 1, 1, [7]),
  (187, 3, .goto (-139), 48, 0, []),
  (190, 1, .iload_n 2, 2, 0, []),
  (191, 3, .ifCond .ne (8), 199, 0, []),
  (194, 2, .iload 4, 4, 0, []),
  (196, 3, .goto (19), 215, 0, []),
  (199, 2, .iload 5, 5, 0, []),
  (201, 1, .iconst (-1), 1, 1, []),
  (202, 3, .if_icmp .ne (11), 213, 0, []),
  (205, 1, .aload_n 0, 0, 0, []),
  (206, 1, .iconst 2, 2, 0, []),
  (207, 3, .invokevirtual 63, 50, 8, []),
  (210, 3, .goto (5), 215, 0, []),
  (213, 2, .iload 5, 5, 0, []),
  (215, 1, .ireturn, 0, 0, [])]
set_option maxRecDepth 100000 in
theorem Zk112 : Zchk 112 Zt112 := ⟨by decide +kernel, by decide +kernel, Zat_in (hs := [997, 998, 137, 999, 1253, 1255, 137, 1256, 98, 1000, 1002, 137, 1003, 37, 935, 911, 936, 1187, 1189, 137, 1190, 77, 922, 936, 1000, 1002, 137, 1003, 37]) rfl, Zan_in (hs := []) rfl⟩
/-- KnitRiverModel.starts(I)V -/
def Zt113 : List Zent := [(0, 1, .aload_n 0, 0, 0, []),
  (1, 3, .getfield 217, 8, 19, []),
  (4, 2, .bipush 30, 30, 0, []),
  (6, 3, .if_icmp .ge (23), 29, 0, []),
  (9, 1, .aload_n 0, 0, 0, []),
  (10, 3, .getfield 43, 8, 20, []),
  (13, 1, .aload_n 0, 0, 0, []),
  (14, 3, .getfield 217, 8, 19, []),
  (17, 1, .iload_n 1, 1, 0, []),
  (18, 1, .iastore, 0, 0, []),
  (19, 1, .aload_n 0, 0, 0, []),
  (20, 1, .dup, 0, 0, []),
  (21, 3, .getfield 217, 8, 19, []),
  (24, 1, .iconst 1, 1, 0, []),
  (25, 1, .iadd, 0, 0, []),
  (26, 3, .putfield 217, 8, 19, []),
  (29, 1, .return_, 0, 0, [])]
set_option maxRecDepth 100000 in
theorem Zk113 : Zchk 113 Zt113 := ⟨by decide +kernel, by decide +kernel, Zat_in (hs := [930, 931, 930, 930, 930]) rfl, Zan_in (hs := []) rfl⟩
/-- KnitRiverModel.above(I)I -/
def Zt114 : List Zent := [(0, 1, .iload_n 0, 0, 0, []),
  (1, 1, .iconst 4, 4, 0, []),
  (2, 3, .if_icmp .ne (7), 9, 0, []),
  (5, 1, .iconst 1, 1, 0, []),
  (6, 3, .goto (13), 19, 0, []),
  (9, 1, .iload_n 0, 0, 0, []),
  (10, 1, .iconst 5, 5, 0, []),
  (11, 3, .if_icmp .ne (7), 18, 0, []),
  (14, 1, .iconst 2, 2, 0, []),
  (15, 3, .goto (4), 19, 0, []),
  (18, 1, .iconst 0, 0, 0, []),
  (19, 1, .ireturn, 0, 0, [])]
set_option maxRecDepth 100000 in
theorem Zk114 : Zchk 114 Zt114 := ⟨by decide +kernel, by decide +kernel, Zat_in (hs := []) rfl, Zan_in (hs := []) rfl⟩
/-- KnitRiverModel.kindNow()I -/
def Zt115 : List Zent := [(0, 1, .aload_n 0, 0, 0, []),
  (1, 1, .aload_n 0, 0, 0, []),
  (2, 3, .getfield 220, 8, 21, []),
  (5, 1, .iconst 0, 0, 0, []),
  (6, 3, .invokevirtual 136, 56, 8, []),
  (9, 1, .ireturn, 0, 0, [])]
set_option maxRecDepth 100000 in
theorem Zk115 : Zchk 115 Zt115 := ⟨by decide +kernel, by decide +kernel, Zat_in (hs := [932, 1102, 1104, 137, 1105, 71]) rfl, Zan_in (hs := []) rfl⟩
/-- KnitRiverModel.mNow()I -/
def Zt116 : List Zent := [(0, 1, .aload_n 0, 0, 0, []),
  (1, 1, .aload_n 0, 0, 0, []),
  (2, 3, .getfield 220, 8, 21, []),
  (5, 1, .iconst 1, 1, 0, []),
  (6, 3, .invokevirtual 136, 56, 8, []),
  (9, 1, .ireturn, 0, 0, [])]
set_option maxRecDepth 100000 in
theorem Zk116 : Zchk 116 Zt116 := ⟨by decide +kernel, by decide +kernel, Zat_in (hs := [932, 1102, 1104, 137, 1105, 71]) rfl, Zan_in (hs := []) rfl⟩
/-- KnitRiverModel.runsAs(II)I -/
def Zt117 : List Zent := [(0, 1, .iload_n 1, 1, 0, []),
  (1, 43, .tableswitch (101) 0 6 #[43, 56, 101, 101, 74, 101, 92], 0, 0, []),
  (44, 1, .aload_n 0, 0, 0, []),
  (45, 2, .bipush 10, 10, 0, []),
  (47, 3, .invokevirtual 223, 113, 8, []),
  (50, 1, .iload_n 2, 2, 0, []),
  (51, 1, .aload_n 0, 0, 0, []),
  (52, 3, .getfield 220, 8, 21, []),
  (55, 1, .iadd, 0, 0, []),
  (56, 1, .ireturn, 0, 0, []),
  (57, 1, .aload_n 0, 0, 0, []),
  (58, 2, .bipush 20, 20, 0, []),
  (60, 3, .invokevirtual 223, 113, 8, []),
  (63, 1, .aload_n 0, 0, 0, []),
  (64, 1, .iconst 1, 1, 0, []),
  (65, 3, .invokestatic 183, 114, 0, []),
  (68, 1, .iload_n 2, 2, 0, []),
  (69, 3, .invokevirtual 227, 117, 8, []),
  (72, 1, .iconst 4, 4, 0, []),
  (73, 1, .isub, 0, 0, []),
  (74, 1, .ireturn, 0, 0, []),
  (75, 1, .aload_n 0, 0, 0, []),
  (76, 2, .bipush 50, 50, 0, []),
  (78, 3, .invokevirtual 223, 113, 8, []),
  (81, 1, .aload_n 0, 0, 0, []),
  (82, 1, .iconst 4, 4, 0, []),
  (83, 3, .invokestatic 183, 114, 0, []),
  (86, 1, .iload_n 2, 2, 0, []),
  (87, 3, .invokevirtual 227, 117, 8, []),
  (90, 1, .iconst 3, 3, 0, []),
  (91, 1, .imul, 0, 0, []),
  (92, 1, .ireturn, 0, 0, []),
  (93, 1, .aload_n 0, 0, 0, []),
  (94, 2, .bipush 70, 70, 0, []),
  (96, 3, .invokevirtual 223, 113, 8, []),
  (99, 2, .bipush 9, 9, 0, []),
  (101, 1, .ireturn, 0, 0, []),
  (102, 1, .aload_n 0, 0, 0, []),
  (103, 1, .iload_n 1, 1, 0, []),
  (104, 3, .invokestatic 183, 114, 0, []),
  (107, 1, .iload_n 2, 2, 0, []),
  (108, 3, .invokevirtual 227, 117, 8, []),
  (111, 1, .ireturn, 0, 0, [])]
set_option maxRecDepth 100000 in
theorem Zk117 : Zchk 117 Zt117 := ⟨by decide +kernel, by decide +kernel, Zat_in (hs := [1272, 1274, 137, 1275, 101, 932, 1272, 1274, 137, 1275, 101, 1133, 1134, 137, 1135, 1268, 1270, 137, 1271, 100, 1272, 1274, 137, 1275, 101, 1133, 1134, 137, 1135, 1268, 1270, 137, 1271, 100, 1272, 1274, 137, 1275, 101, 1133, 1134, 137, 1135, 1268, 1270, 137, 1271, 100]) rfl, Zan_in (hs := []) rfl⟩
/-- KnitRiverModel.turnsAs(II)I -/
def Zt118 : List Zent := [(0, 1, .iload_n 1, 1, 0, []),
  (1, 43, .tableswitch (119) 0 6 #[43, 119, 61, 119, 119, 79, 97], 0, 0, []),
  (44, 1, .aload_n 0, 0, 0, []),
  (45, 2, .bipush 11, 11, 0, []),
  (47, 3, .invokevirtual 223, 113, 8, []),
  (50, 1, .aload_n 0, 0, 0, []),
  (51, 1, .aload_n 0, 0, 0, []),
  (52, 3, .invokevirtual 230, 115, 8, []),
  (55, 1, .iload_n 2, 2, 0, []),
  (56, 3, .invokevirtual 227, 117, 8, []),
  (59, 1, .iconst 2, 2, 0, []),
  (60, 1, .imul, 0, 0, []),
  (61, 1, .ireturn, 0, 0, []),
  (62, 1, .aload_n 0, 0, 0, []),
  (63, 2, .bipush 30, 30, 0, []),
  (65, 3, .invokevirtual 223, 113, 8, []),
  (68, 1, .iconst 0, 0, 0, []),
  (69, 1, .aload_n 0, 0, 0, []),
  (70, 1, .iconst 2, 2, 0, []),
  (71, 3, .invokestatic 183, 114, 0, []),
  (74, 1, .iload_n 2, 2, 0, []),
  (75, 3, .invokevirtual 233, 118, 8, []),
  (78, 1, .isub, 0, 0, []),
  (79, 1, .ireturn, 0, 0, []),
  (80, 1, .aload_n 0, 0, 0, []),
  (81, 2, .bipush 60, 60, 0, []),
  (83, 3, .invokevirtual 223, 113, 8, []),
  (86, 1, .aload_n 0, 0, 0, []),
  (87, 1, .iconst 5, 5, 0, []),
  (88, 3, .invokestatic 183, 114, 0, []),
  (91, 1, .iload_n 2, 2, 0, []),
  (92, 1, .iconst 1, 1, 0, []),
  (93, 1, .iadd, 0, 0, []),
  (94, 3, .invokevirtual 233, 118, 8, []),
  (97, 1, .ireturn, 0, 0, []),
  (98, 1, .aload_n 0, 0, 0, []),
  (99, 2, .bipush 71, 71, 0, []),
  (101, 3, .invokevirtual 223, 113, 8, []),
  (104, 1, .aload_n 0, 0, 0, []),
  (105, 2, .bipush 6, 6, 0, []),
  (107, 3, .invokestatic 183, 114, 0, []),
  (110, 1, .iload_n 2, 2, 0, []),
  (111, 3, .invokevirtual 233, 118, 8, []),
  (114, 1, .aload_n 0, 0, 0, []),
  (115, 3, .invokevirtual 236, 116, 8, []),
  (118, 1, .iadd, 0, 0, []),
  (119, 1, .ireturn, 0, 0, []),
  (120, 1, .aload_n 0, 0, 0, []),
  (121, 1, .iload_n 1, 1, 0, []),
  (122, 3, .invokestatic 183, 114, 0, []),
  (125, 1, .iload_n 2, 2, 0, []),
  (126, 3, .invokevirtual 233, 118, 8, []),
  (129, 1, .ireturn, 0, 0, [])]
set_option maxRecDepth 100000 in
theorem Zk118 : Zchk 118 Zt118 := ⟨by decide +kernel, by decide +kernel, Zat_in (hs := [1272, 1274, 137, 1275, 101, 1264, 1266, 137, 1267, 99, 1268, 1270, 137, 1271, 100, 1272, 1274, 137, 1275, 101, 1133, 1134, 137, 1135, 1276, 1278, 137, 1279, 102, 1272, 1274, 137, 1275, 101, 1133, 1134, 137, 1135, 1276, 1278, 137, 1279, 102, 1272, 1274, 137, 1275, 101, 1133, 1134, 137, 1135, 1276, 1278, 137, 1279, 102, 1280, 1282, 137, 1283, 103, 1133, 1134, 137, 1135, 1276, 1278, 137, 1279, 102]) rfl, Zan_in (hs := []) rfl⟩
/-- KnitRiverModel.poolsAs(II)I -/
def Zt119 : List Zent := [(0, 1, .iload_n 1, 1, 0, []),
  (1, 35, .tableswitch (95) 0 4 #[35, 95, 95, 56, 74], 0, 0, []),
  (36, 1, .aload_n 0, 0, 0, []),
  (37, 2, .bipush 12, 12, 0, []),
  (39, 3, .invokevirtual 223, 113, 8, []),
  (42, 1, .aload_n 0, 0, 0, []),
  (43, 1, .aload_n 0, 0, 0, []),
  (44, 3, .invokevirtual 230, 115, 8, []),
  (47, 1, .iload_n 2, 2, 0, []),
  (48, 3, .invokevirtual 233, 118, 8, []),
  (51, 1, .aload_n 0, 0, 0, []),
  (52, 3, .invokevirtual 236, 116, 8, []),
  (55, 1, .isub, 0, 0, []),
  (56, 1, .ireturn, 0, 0, []),
  (57, 1, .aload_n 0, 0, 0, []),
  (58, 2, .bipush 40, 40, 0, []),
  (60, 3, .invokevirtual 223, 113, 8, []),
  (63, 1, .aload_n 0, 0, 0, []),
  (64, 1, .iconst 3, 3, 0, []),
  (65, 3, .invokestatic 183, 114, 0, []),
  (68, 1, .iload_n 2, 2, 0, []),
  (69, 1, .iconst 2, 2, 0, []),
  (70, 1, .idiv, 0, 0, []),
  (71, 3, .invokevirtual 239, 119, 8, []),
  (74, 1, .ireturn, 0, 0, []),
  (75, 1, .aload_n 0, 0, 0, []),
  (76, 2, .bipush 51, 51, 0, []),
  (78, 3, .invokevirtual 223, 113, 8, []),
  (81, 1, .aload_n 0, 0, 0, []),
  (82, 1, .iconst 4, 4, 0, []),
  (83, 3, .invokestatic 183, 114, 0, []),
  (86, 1, .iload_n 2, 2, 0, []),
  (87, 3, .invokevirtual 239, 119, 8, []),
  (90, 1, .aload_n 0, 0, 0, []),
  (91, 3, .getfield 220, 8, 21, []),
  (94, 1, .ixor, 0, 0, []),
  (95, 1, .ireturn, 0, 0, []),
  (96, 1, .aload_n 0, 0, 0, []),
  (97, 1, .iload_n 1, 1, 0, []),
  (98, 3, .invokestatic 183, 114, 0, []),
  (101, 1, .iload_n 2, 2, 0, []),
  (102, 3, .invokevirtual 239, 119, 8, []),
  (105, 1, .ireturn, 0, 0, [])]
set_option maxRecDepth 100000 in
theorem Zk119 : Zchk 119 Zt119 := ⟨by decide +kernel, by decide +kernel, Zat_in (hs := [1272, 1274, 137, 1275, 101, 1264, 1266, 137, 1267, 99, 1276, 1278, 137, 1279, 102, 1280, 1282, 137, 1283, 103, 1272, 1274, 137, 1275, 101, 1133, 1134, 137, 1135, 1284, 1286, 137, 1287, 104, 1272, 1274, 137, 1275, 101, 1133, 1134, 137, 1135, 1284, 1286, 137, 1287, 104, 932, 1133, 1134, 137, 1135, 1284, 1286, 137, 1287, 104]) rfl, Zan_in (hs := []) rfl⟩
/-- KnitRiverModel.partsAs(II)I -/
def Zt120 : List Zent := [(0, 1, .iload_n 1, 1, 0, []),
  (1, 27, .lookupswitch (119) #[(0, 27), (1, 78)], 0, 0, []),
  (28, 1, .aload_n 0, 0, 0, []),
  (29, 2, .bipush 13, 13, 0, []),
  (31, 3, .invokevirtual 223, 113, 8, []),
  (34, 1, .aload_n 0, 0, 0, []),
  (35, 3, .invokevirtual 236, 116, 8, []),
  (38, 1, .aload_n 0, 0, 0, []),
  (39, 3, .getfield 220, 8, 21, []),
  (42, 1, .isub, 0, 0, []),
  (43, 1, .istore_n 3, 3, 0, []),
  (44, 1, .aload_n 0, 0, 0, []),
  (45, 1, .iload_n 3, 3, 0, []),
  (46, 3, .ifCond .ne (7), 53, 0, []),
  (49, 1, .iconst 1, 1, 0, []),
  (50, 3, .goto (4), 54, 0, []),
  (53, 1, .iconst 0, 0, 0, []),
  (54, 3, .putfield 242, 8, 22, []),
  (57, 1, .iload_n 3, 3, 0, []),
  (58, 3, .ifCond .ne (7), 65, 0, []),
  (61, 1, .iconst 0, 0, 0, []),
  (62, 3, .goto (16), 78, 0, []),
  (65, 1, .iload_n 3, 3, 0, []),
  (66, 1, .iconst (-1), 1, 1, []),
  (67, 3, .if_icmp .ne (8), 75, 0, []),
  (70, 1, .iload_n 2, 2, 0, []),
  (71, 1, .ineg, 0, 0, []),
  (72, 3, .goto (6), 78, 0, []),
  (75, 1, .iload_n 2, 2, 0, []),
  (76, 1, .iload_n 3, 3, 0, []),
  (77, 1, .idiv, 0, 0, []),
  (78, 1, .ireturn, 0, 0, []),
  (79, 1, .aload_n 0, 0, 0, []),
  (80, 2, .bipush 21, 21, 0, []),
  (82, 3, .invokevirtual 223, 113, 8, []),
  (85, 1, .aload_n 0, 0, 0, []),
  (86, 1, .iconst 1, 1, 0, []),
  (87, 3, .invokestatic 183, 114, 0, []),
  (90, 1, .iload_n 2, 2, 0, []),
  (91, 3, .invokevirtual 246, 120, 8, []),
  (94, 2, .istore 4, 4, 0, []),
  (96, 1, .aload_n 0, 0, 0, []),
  (97, 3, .getfield 242, 8, 22, []),
  (100, 3, .ifCond .eq (7), 107, 0, []),
  (103, 1, .iconst 0, 0, 0, []),
  (104, 3, .goto (15), 119, 0, []),
  (107, 2, .iload 4, 4, 0, []),
  (109, 1, .aload_n 0, 0, 0, []),
  (110, 1, .aload_n 0, 0, 0, []),
  (111, 3, .invokevirtual 230, 115, 8, []),
  (114, 1, .iconst 1, 1, 0, []),
  (115, 3, .invokevirtual 233, 118, 8, []),
  (118, 1, .iadd, 0, 0, []),
  (119, 1, .ireturn, 0, 0, []),
  (120, 1, .aload_n 0, 0, 0, []),
  (121, 1, .iload_n 1, 1, 0, []),
  (122, 3, .invokestatic 183, 114, 0, []),
  (125, 1, .iload_n 2, 2, 0, []),
  (126, 3, .invokevirtual 246, 120, 8, []),
  (129, 1, .ireturn, 0, 0, [])]
set_option maxRecDepth 100000 in
theorem Zk120 : Zchk 120 Zt120 := ⟨by decide +kernel, by decide +kernel, Zat_in (hs := [1272, 1274, 137, 1275, 101, 1280, 1282, 137, 1283, 103, 932, 933, 1272, 1274, 137, 1275, 101, 1133, 1134, 137, 1135, 1288, 1290, 137, 1291, 105, 933, 1264, 1266, 137, 1267, 99, 1276, 1278, 137, 1279, 102, 1133, 1134, 137, 1135, 1288, 1290, 137, 1291, 105]) rfl, Zan_in (hs := []) rfl⟩
/-- KnitRiverModel.voice(III)I -/
def Zt121 : List Zent := [(0, 1, .aload_n 0, 0, 0, []),
  (1, 1, .iload_n 1, 1, 0, []),
  (2, 3, .invokevirtual 174, 54, 8, []),
  (5, 3, .ifCond .eq (12), 17, 0, []),
  (8, 1, .iload_n 2, 2, 0, []),
  (9, 1, .iconst 0, 0, 0, []),
  (10, 1, .iconst 3, 3, 0, []),
  (11, 3, .invokestatic 59, 51, 0, []),
  (14, 3, .ifCond .ne (9), 23, 0, []),
  (17, 1, .aload_n 0, 0, 0, []),
  (18, 1, .iconst 1, 1, 0, []),
  (19, 3, .invokevirtual 63, 50, 8, []),
  (22, 1, .ireturn, 0, 0, []),
  (23, 1, .aload_n 0, 0, 0, []),
  (24, 1, .iconst 0, 0, 0, []),
  (25, 3, .putfield 217, 8, 19, []),
  (28, 1, .aload_n 0, 0, 0, []),
  (29, 1, .iload_n 1, 1, 0, []),
  (30, 3, .putfield 220, 8, 21, []),
  (33, 1, .aload_n 0, 0, 0, []),
  (34, 1, .iconst 0, 0, 0, []),
  (35, 3, .putfield 242, 8, 22, []),
  (38, 1, .aload_n 0, 0, 0, []),
  (39, 3, .invokevirtual 230, 115, 8, []),
  (42, 2, .istore 4, 4, 0, []),
  (44, 1, .iload_n 2, 2, 0, []),
  (45, 3, .ifCond .ne (13), 58, 0, []),
  (48, 1, .aload_n 0, 0, 0, []),
  (49, 2, .iload 4, 4, 0, []),
  (51, 1, .iload_n 3, 3, 0, []),
  (52, 3, .invokevirtual 227, 117, 8, []),
  (55, 3, .goto (40), 95, 0, []),
  (58, 1, .iload_n 2, 2, 0, []),
  (59, 1, .iconst 1, 1, 0, []),
  (60, 3, .if_icmp .ne (13), 73, 0, []),
  (63, 1, .aload_n 0, 0, 0, []),
  (64, 2, .iload 4, 4, 0, []),
  (66, 1, .iload_n 3, 3, 0, []),
  (67, 3, .invokevirtual 233, 118, 8, []),
  (70, 3, .goto (25), 95, 0, []),
  (73, 1, .iload_n 2, 2, 0, []),
  (74, 1, .iconst 2, 2, 0, []),
  (75, 3, .if_icmp .ne (13), 88, 0, []),
  (78, 1, .aload_n 0, 0, 0, []),
  (79, 2, .iload 4, 4, 0, []),
  (81, 1, .iload_n 3, 3, 0, []),
  (82, 3, .invokevirtual 239, 119, 8, []),
  (85, 3, .goto (10), 95, 0, []),
  (88, 1, .aload_n 0, 0, 0, []),
  (89, 2, .iload 4, 4, 0, []),
  (91, 1, .iload_n 3, 3, 0, []),
  (92, 3, .invokevirtual 246, 120, 8, []),
  (95, 2, .istore 5, 5, 0, []),
  (97, 1, .aload_n 0, 0, 0, []),
  (98, 3, .getfield 242, 8, 22, []),
  (101, 3, .ifCond .eq (12), 113, 0, []),
  (104, 1, .aload_n 0, 0, 0, []),
  (105, 2, .bipush 6, 6, 0, []),
  (107, 3, .invokevirtual 63, 50, 8, []),
  (110, 3, .goto (5), 115, 0, []),
  (113, 2, .iload 5, 5, 0, []),
  (115, 1, .ireturn, 0, 0, [])]
set_option maxRecDepth 100000 in
theorem Zk121 : Zchk 121 Zt121 := ⟨by decide +kernel, by decide +kernel, Zat_in (hs := [1098, 1100, 137, 1101, 70, 997, 998, 137, 999, 1000, 1002, 137, 1003, 37, 930, 932, 933, 1264, 1266, 137, 1267, 99, 1268, 1270, 137, 1271, 100, 1276, 1278, 137, 1279, 102, 1284, 1286, 137, 1287, 104, 1288, 1290, 137, 1291, 105, 933, 1000, 1002, 137, 1003, 37]) rfl, Zan_in (hs := []) rfl⟩
/-- KnitRiverModel.body(I)I -/
def Zt122 : List Zent := [(0, 1, .iload_n 1, 1, 0, []),
  (1, 1, .iconst 0, 0, 0, []),
  (2, 1, .aload_n 0, 0, 0, []),
  (3, 3, .getfield 217, 8, 19, []),
  (6, 1, .iconst 1, 1, 0, []),
  (7, 1, .isub, 0, 0, []),
  (8, 3, .invokestatic 59, 51, 0, []),
  (11, 3, .ifCond .eq (12), 23, 0, []),
  (14, 1, .aload_n 0, 0, 0, []),
  (15, 3, .getfield 43, 8, 20, []),
  (18, 1, .iload_n 1, 1, 0, []),
  (19, 1, .iaload, 0, 0, []),
  (20, 3, .goto (8), 28, 0, []),
  (23, 1, .aload_n 0, 0, 0, []),
  (24, 1, .iconst 2, 2, 0, []),
  (25, 3, .invokevirtual 63, 50, 8, []),
  (28, 1, .ireturn, 0, 0, [])]
set_option maxRecDepth 100000 in
theorem Zk122 : Zchk 122 Zt122 := ⟨by decide +kernel, by decide +kernel, Zat_in (hs := [930, 997, 998, 137, 999, 931, 1000, 1002, 137, 1003, 37]) rfl, Zan_in (hs := []) rfl⟩
/-- KnitRiverModel.isSheet(I)Z -/
def Zt123 : List Zent := [(0, 1, .iload_n 0, 0, 0, []),
  (1, 1, .iconst 0, 0, 0, []),
  (2, 1, .iconst 3, 3, 0, []),
  (3, 3, .invokestatic 59, 51, 0, []),
  (6, 1, .ireturn, 0, 0, [])]
set_option maxRecDepth 100000 in
theorem Zk123 : Zchk 123 Zt123 := ⟨by decide +kernel, by decide +kernel, Zat_in (hs := [997, 998, 137, 999]) rfl, Zan_in (hs := []) rfl⟩
/-- KnitRiverModel.sheet(III)I -/
def Zt124 : List Zent := [(0, 1, .iload_n 1, 1, 0, []),
  (1, 3, .invokestatic 249, 123, 0, []),
  (4, 3, .ifCond .eq (25), 29, 0, []),
  (7, 1, .iload_n 2, 2, 0, []),
  (8, 3, .ifCond .eq (27), 35, 0, []),
  (11, 1, .iload_n 2, 2, 0, []),
  (12, 2, .bipush 8, 8, 0, []),
  (14, 3, .if_icmp .eq (21), 35, 0, []),
  (17, 1, .iload_n 2, 2, 0, []),
  (18, 2, .bipush 16, 16, 0, []),
  (20, 3, .if_icmp .eq (15), 35, 0, []),
  (23, 1, .iload_n 2, 2, 0, []),
  (24, 2, .bipush 32, 32, 0, []),
  (26, 3, .if_icmp .eq (9), 35, 0, []),
  (29, 1, .aload_n 0, 0, 0, []),
  (30, 1, .iconst 1, 1, 0, []),
  (31, 3, .invokevirtual 63, 50, 8, []),
  (34, 1, .ireturn, 0, 0, []),
  (35, 1, .iload_n 2, 2, 0, []),
  (36, 3, .ifCond .eq (13), 49, 0, []),
  (39, 1, .iload_n 3, 3, 0, []),
  (40, 3, .ifCond .ge (9), 49, 0, []),
  (43, 1, .aload_n 0, 0, 0, []),
  (44, 1, .iconst 3, 3, 0, []),
  (45, 3, .invokevirtual 63, 50, 8, []),
  (48, 1, .ireturn, 0, 0, []),
  (49, 1, .iload_n 2, 2, 0, []),
  (50, 3, .ifCond .eq (15), 65, 0, []),
  (53, 1, .iload_n 3, 3, 0, []),
  (54, 2, .bipush 24, 24, 0, []),
  (56, 3, .if_icmp .le (9), 65, 0, []),
  (59, 1, .aload_n 0, 0, 0, []),
  (60, 1, .iconst 1, 1, 0, []),
  (61, 3, .invokevirtual 63, 50, 8, []),
  (64, 1, .ireturn, 0, 0, []),
  (65, 1, .aload_n 0, 0, 0, []),
  (66, 3, .getfield 46, 8, 23, []),
  (69, 1, .iload_n 1, 1, 0, []),
  (70, 1, .iload_n 2, 2, 0, []),
  (71, 1, .iastore, 0, 0, []),
  (72, 1, .aload_n 0, 0, 0, []),
  (73, 3, .getfield 49, 8, 24, []),
  (76, 1, .iload_n 1, 1, 0, []),
  (77, 1, .iload_n 2, 2, 0, []),
  (78, 3, .ifCond .ne (7), 85, 0, []),
  (81, 1, .iconst 0, 0, 0, []),
  (82, 3, .goto (4), 86, 0, []),
  (85, 1, .iload_n 3, 3, 0, []),
  (86, 1, .iastore, 0, 0, []),
  (87, 1, .iconst 0, 0, 0, []),
  (88, 2, .istore 4, 4, 0, []),
  (90, 2, .iload 4, 4, 0, []),
  (92, 2, .bipush 24, 24, 0, []),
  (94, 3, .if_icmp .ge (22), 116, 0, []),
  (97, 1, .aload_n 0, 0, 0, []),
  (98, 3, .getfield 52, 8, 25, []),
  (101, 2, .bipush 24, 24, 0, []),
  (103, 1, .iload_n 1, 1, 0, []),
  (104, 1, .imul, 0, 0, []),
  (105, 2, .iload 4, 4, 0, []),
  (107, 1, .iadd, 0, 0, []),
  (108, 1, .iconst 0, 0, 0, []),
  (109, 1, .iastore, 0, 0, []),
  (110, 3, .iinc 4 1, 1, 0, [4]),
  (113, 3, .goto (-23), 90, 0, []),
  (116, 1, .iconst 1, 1, 0, []),
  (117, 1, .ireturn, 0, 0, [])]
set_option maxRecDepth 100000 in
theorem Zk124 : Zchk 124 Zt124 := ⟨by decide +kernel, by decide +kernel, Zat_in (hs := [1257, 1258, 137, 1259, 1000, 1002, 137, 1003, 37, 1000, 1002, 137, 1003, 37, 1000, 1002, 137, 1003, 37, 934, 935, 936]) rfl, Zan_in (hs := []) rfl⟩
/-- KnitRiverModel.put(III)I -/
def Zt125 : List Zent := [(0, 1, .iload_n 1, 1, 0, []),
  (1, 3, .invokestatic 249, 123, 0, []),
  (4, 3, .ifCond .ne (9), 13, 0, []),
  (7, 1, .aload_n 0, 0, 0, []),
  (8, 1, .iconst 1, 1, 0, []),
  (9, 3, .invokevirtual 63, 50, 8, []),
  (12, 1, .ireturn, 0, 0, []),
  (13, 1, .aload_n 0, 0, 0, []),
  (14, 3, .getfield 46, 8, 23, []),
  (17, 1, .iload_n 1, 1, 0, []),
  (18, 1, .iaload, 0, 0, []),
  (19, 3, .ifCond .ne (9), 28, 0, []),
  (22, 1, .aload_n 0, 0, 0, []),
  (23, 1, .iconst 2, 2, 0, []),
  (24, 3, .invokevirtual 63, 50, 8, []),
  (27, 1, .ireturn, 0, 0, []),
  (28, 1, .iload_n 2, 2, 0, []),
  (29, 1, .iconst 0, 0, 0, []),
  (30, 1, .aload_n 0, 0, 0, []),
  (31, 3, .getfield 49, 8, 24, []),
  (34, 1, .iload_n 1, 1, 0, []),
  (35, 1, .iaload, 0, 0, []),
  (36, 1, .iconst 1, 1, 0, []),
  (37, 1, .isub, 0, 0, []),
  (38, 3, .invokestatic 59, 51, 0, []),
  (41, 3, .ifCond .ne (9), 50, 0, []),
  (44, 1, .aload_n 0, 0, 0, []),
  (45, 1, .iconst 1, 1, 0, []),
  (46, 3, .invokevirtual 63, 50, 8, []),
  (49, 1, .ireturn, 0, 0, []),
  (50, 2, .bipush 32, 32, 0, []),
  (52, 1, .aload_n 0, 0, 0, []),
  (53, 3, .getfield 46, 8, 23, []),
  (56, 1, .iload_n 1, 1, 0, []),
  (57, 1, .iaload, 0, 0, []),
  (58, 1, .isub, 0, 0, []),
  (59, 2, .istore 4, 4, 0, []),
  (61, 1, .aload_n 0, 0, 0, []),
  (62, 3, .getfield 52, 8, 25, []),
  (65, 2, .bipush 24, 24, 0, []),
  (67, 1, .iload_n 1, 1, 0, []),
  (68, 1, .imul, 0, 0, []),
  (69, 1, .iload_n 2, 2, 0, []),
  (70, 1, .iadd, 0, 0, []),
  (71, 1, .iload_n 3, 3, 0, []),
  (72, 2, .iload 4, 4, 0, []),
  (74, 1, .ishl, 0, 0, []),
  (75, 2, .iload 4, 4, 0, []),
  (77, 1, .ishr, 0, 0, []),
  (78, 1, .iastore, 0, 0, []),
  (79, 1, .iconst 1, 1, 0, []),
  (80, 1, .ireturn, 0, 0, [])]
set_option maxRecDepth 100000 in
theorem Zk125 : Zchk 125 Zt125 := ⟨by decide +kernel, by decide +kernel, Zat_in (hs := [1257, 1258, 137, 1259, 1000, 1002, 137, 1003, 37, 934, 1000, 1002, 137, 1003, 37, 935, 997, 998, 137, 999, 1000, 1002, 137, 1003, 37, 934, 936]) rfl, Zan_in (hs := []) rfl⟩
/-- KnitRiverModel.move(IIIII)I -/
def Zt126 : List Zent := [(0, 1, .iload_n 1, 1, 0, []),
  (1, 3, .invokestatic 249, 123, 0, []),
  (4, 3, .ifCond .eq (10), 14, 0, []),
  (7, 1, .iload_n 3, 3, 0, []),
  (8, 3, .invokestatic 249, 123, 0, []),
  (11, 3, .ifCond .ne (9), 20, 0, []),
  (14, 1, .aload_n 0, 0, 0, []),
  (15, 1, .iconst 1, 1, 0, []),
  (16, 3, .invokevirtual 63, 50, 8, []),
  (19, 1, .ireturn, 0, 0, []),
  (20, 1, .aload_n 0, 0, 0, []),
  (21, 3, .getfield 46, 8, 23, []),
  (24, 1, .iload_n 1, 1, 0, []),
  (25, 1, .iaload, 0, 0, []),
  (26, 3, .ifCond .eq (12), 38, 0, []),
  (29, 1, .aload_n 0, 0, 0, []),
  (30, 3, .getfield 46, 8, 23, []),
  (33, 1, .iload_n 3, 3, 0, []),
  (34, 1, .iaload, 0, 0, []),
  (35, 3, .ifCond .ne (9), 44, 0, []),
  (38, 1, .aload_n 0, 0, 0, []),
  (39, 1, .iconst 2, 2, 0, []),
  (40, 3, .invokevirtual 63, 50, 8, []),
  (43, 1, .ireturn, 0, 0, []),
  (44, 1, .aload_n 0, 0, 0, []),
  (45, 3, .getfield 46, 8, 23, []),
  (48, 1, .iload_n 1, 1, 0, []),
  (49, 1, .iaload, 0, 0, []),
  (50, 1, .aload_n 0, 0, 0, []),
  (51, 3, .getfield 46, 8, 23, []),
  (54, 1, .iload_n 3, 3, 0, []),
  (55, 1, .iaload, 0, 0, []),
  (56, 3, .if_icmp .eq (9), 65, 0, []),
  (59, 1, .aload_n 0, 0, 0, []),
  (60, 1, .iconst 5, 5, 0, []),
  (61, 3, .invokevirtual 63, 50, 8, []),
  (64, 1, .ireturn, 0, 0, []),
  (65, 2, .iload 5, 5, 0, []),
  (67, 3, .ifCond .lt (39), 106, 0, []),
  (70, 1, .iload_n 2, 2, 0, []),
  (71, 3, .ifCond .lt (35), 106, 0, []),
  (74, 2, .iload 4, 4, 0, []),
  (76, 3, .ifCond .lt (30), 106, 0, []),
  (79, 1, .iload_n 2, 2, 0, []),
  (80, 1, .aload_n 0, 0, 0, []),
  (81, 3, .getfield 49, 8, 24, []),
  (84, 1, .iload_n 1, 1, 0, []),
  (85, 1, .iaload, 0, 0, []),
  (86, 2, .iload 5, 5, 0, []),
  (88, 1, .isub, 0, 0, []),
  (89, 3, .if_icmp .gt (17), 106, 0, []),
  (92, 2, .iload 4, 4, 0, []),
  (94, 1, .aload_n 0, 0, 0, []),
  (95, 3, .getfield 49, 8, 24, []),
  (98, 1, .iload_n 3, 3, 0, []),
  (99, 1, .iaload, 0, 0, []),
  (100, 2, .iload 5, 5, 0, []),
  (102, 1, .isub, 0, 0, []),
  (103, 3, .if_icmp .le (9), 112, 0, []),
  (106, 1, .aload_n 0, 0, 0, []),
  (107, 1, .iconst 1, 1, 0, []),
  (108, 3, .invokevirtual 63, 50, 8, []),
  (111, 1, .ireturn, 0, 0, []),
  (112, 1, .iconst 0, 0, 0, []),
  (113, 2, .istore 6, 6, 0, []),
  (115, 2, .iload 6, 6, 0, []),
  (117, 2, .iload 5, 5, 0, []),
  (119, 3, .if_icmp .ge (30), 149, 0, []),
  (122, 1, .aload_n 0, 0, 0, []),
  (123, 3, .getfield 55, 8, 26, []),
  (126, 2, .iload 6, 6, 0, []),
  (128, 1, .aload_n 0, 0, 0, []),
  (129, 3, .getfield 52, 8, 25, []),
  (132, 2, .bipush 24, 24, 0, []),
  (134, 1, .iload_n 1, 1, 0, []),
  (135, 1, .imul, 0, 0, []),
  (136, 1, .iload_n 2, 2, 0, []),
  (137, 1, .iadd, 0, 0, []),
  (138, 2, .iload 6, 6, 0, []),
  (140, 1, .iadd, 0, 0, []),
  (141, 1, .iaload, 0, 0, []),
  (142, 1, .iastore, 0, 0, []),
  (143, 3, .iinc 6 1, 1, 0, [6]),
  (146, 3, .goto (-31), 115, 0, []),
  (149, 1, .iconst 0, 0, 0, []),
  (150, 2, .istore 6, 6, 0, []),
  (152, 2, .iload 6, 6, 0, []),
  (154, 2, .iload 5, 5, 0, []),
  (156, 3, .if_icmp .ge (31), 187, 0, []),
  (159, 1, .aload_n 0, 0, 0, []),
  (160, 3, .getfield 52, 8, 25, []),
  (163, 2, .bipush 24, 24, 0, []),
  (165, 1, .iload_n 3, 3, 0, []),
  (166, 1, .imul, 0, 0, []),
  (167, 2, .iload 4, 4, 0, []),
  (169, 1, .iadd, 0, 0, []),
  (170, 2, .iload 6, 6, 0, []),
  (172, 1, .iadd, 0, 0, []),
  (173, 1, .aload_n 0, 0, 0, []),
  (174, 3, .getfield 55, 8, 26, []),
  (177, 2, .iload 6, 6, 0, []),
  (179, 1, .iaload, 0, 0, []),
  (180, 1, .iastore, 0, 0, []),
  (181, 3, .iinc 6 1, 1, 0, [6]),
  (184, 3, .goto (-32), 152, 0, []),
  (187, 2, .iload 5, 5, 0, []),
  (189, 1, .ireturn, 0, 0, [])]
set_option maxRecDepth 100000 in
theorem Zk126 : Zchk 126 Zt126 := ⟨by decide +kernel, by decide +kernel, Zat_in (hs := [1257, 1258, 137, 1259, 1257, 1258, 137, 1259, 1000, 1002, 137, 1003, 37, 934, 934, 1000, 1002, 137, 1003, 37, 934, 934, 1000, 1002, 137, 1003, 37, 935, 935, 1000, 1002, 137, 1003, 37, 937, 936, 936, 937]) rfl, Zan_in (hs := []) rfl⟩
/-- KnitRiverModel.lacks(I)I -/
def Zt127 : List Zent := [(0, 1, .iload_n 1, 1, 0, []),
  (1, 3, .invokestatic 249, 123, 0, []),
  (4, 3, .ifCond .ne (7), 11, 0, []),
  (7, 1, .iconst 1, 1, 0, []),
  (8, 3, .goto (17), 25, 0, []),
  (11, 1, .aload_n 0, 0, 0, []),
  (12, 3, .getfield 46, 8, 23, []),
  (15, 1, .iload_n 1, 1, 0, []),
  (16, 1, .iaload, 0, 0, []),
  (17, 3, .ifCond .ne (7), 24, 0, []),
  (20, 1, .iconst 2, 2, 0, []),
  (21, 3, .goto (4), 25, 0, []),
  (24, 1, .iconst 0, 0, 0, []),
  (25, 1, .ireturn, 0, 0, [])]
set_option maxRecDepth 100000 in
theorem Zk127 : Zchk 127 Zt127 := ⟨by decide +kernel, by decide +kernel, Zat_in (hs := [1257, 1258, 137, 1259, 934]) rfl, Zan_in (hs := []) rfl⟩
/-- KnitRiverModel.tensions(I)I -/
def Zt128 : List Zent := [(0, 1, .aload_n 0, 0, 0, []),
  (1, 1, .iload_n 1, 1, 0, []),
  (2, 3, .invokevirtual 214, 127, 8, []),
  (5, 1, .istore_n 2, 2, 0, []),
  (6, 1, .iload_n 2, 2, 0, []),
  (7, 3, .ifCond .eq (9), 16, 0, []),
  (10, 1, .aload_n 0, 0, 0, []),
  (11, 1, .iload_n 2, 2, 0, []),
  (12, 3, .invokevirtual 63, 50, 8, []),
  (15, 1, .ireturn, 0, 0, []),
  (16, 1, .iconst 0, 0, 0, []),
  (17, 1, .istore_n 3, 3, 0, []),
  (18, 1, .iload_n 3, 3, 0, []),
  (19, 1, .aload_n 0, 0, 0, []),
  (20, 3, .getfield 49, 8, 24, []),
  (23, 1, .iload_n 1, 1, 0, []),
  (24, 1, .iaload, 0, 0, []),
  (25, 3, .if_icmp .ge (51), 76, 0, []),
  (28, 1, .aload_n 0, 0, 0, []),
  (29, 1, .iload_n 3, 3, 0, []),
  (30, 3, .invokevirtual 174, 54, 8, []),
  (33, 3, .ifCond .eq (43), 76, 0, []),
  (36, 1, .aload_n 0, 0, 0, []),
  (37, 3, .getfield 52, 8, 25, []),
  (40, 2, .bipush 24, 24, 0, []),
  (42, 1, .iload_n 1, 1, 0, []),
  (43, 1, .imul, 0, 0, []),
  (44, 1, .iload_n 3, 3, 0, []),
  (45, 1, .iadd, 0, 0, []),
  (46, 1, .iaload, 0, 0, []),
  (47, 3, .invokestatic 171, 55, 0, []),
  (50, 3, .ifCond .eq (26), 76, 0, []),
  (53, 1, .aload_n 0, 0, 0, []),
  (54, 1, .iload_n 3, 3, 0, []),
  (55, 1, .iconst 3, 3, 0, []),
  (56, 1, .aload_n 0, 0, 0, []),
  (57, 3, .getfield 52, 8, 25, []),
  (60, 2, .bipush 24, 24, 0, []),
  (62, 1, .iload_n 1, 1, 0, []),
  (63, 1, .imul, 0, 0, []),
  (64, 1, .iload_n 3, 3, 0, []),
  (65, 1, .iadd, 0, 0, []),
  (66, 1, .iaload, 0, 0, []),
  (67, 3, .invokevirtual 155, 57, 8, []),
  (70, 3, .iinc 3 1, 1, 0, [3]),
  (73, 3, .goto (-55), 18, 0, []),
  (76, 1, .iload_n 3, 3, 0, []),
  (77, 1, .ireturn, 0, 0, [])]
set_option maxRecDepth 100000 in
theorem Zk128 : Zchk 128 Zt128 := ⟨by decide +kernel, by decide +kernel, Zat_in (hs := [1253, 1255, 137, 1256, 98, 1000, 1002, 137, 1003, 37, 935, 1098, 1100, 137, 1101, 70, 936, 1065, 1066, 137, 1067, 936, 1090, 1092, 137, 1093, 69]) rfl, Zan_in (hs := []) rfl⟩
/-- KnitRiverModel.judge(I)I -/
def Zt129 : List Zent := [(0, 1, .aload_n 0, 0, 0, []),
  (1, 1, .iload_n 1, 1, 0, []),
  (2, 3, .invokevirtual 214, 127, 8, []),
  (5, 1, .istore_n 2, 2, 0, []),
  (6, 1, .iload_n 2, 2, 0, []),
  (7, 3, .ifCond .eq (9), 16, 0, []),
  (10, 1, .aload_n 0, 0, 0, []),
  (11, 1, .iload_n 2, 2, 0, []),
  (12, 3, .invokevirtual 63, 50, 8, []),
  (15, 1, .ireturn, 0, 0, []),
  (16, 1, .iconst 0, 0, 0, []),
  (17, 1, .istore_n 3, 3, 0, []),
  (18, 1, .iload_n 3, 3, 0, []),
  (19, 1, .aload_n 0, 0, 0, []),
  (20, 3, .getfield 49, 8, 24, []),
  (23, 1, .iload_n 1, 1, 0, []),
  (24, 1, .iaload, 0, 0, []),
  (25, 3, .if_icmp .ge (36), 61, 0, []),
  (28, 1, .aload_n 0, 0, 0, []),
  (29, 1, .iload_n 3, 3, 0, []),
  (30, 3, .invokevirtual 174, 54, 8, []),
  (33, 3, .ifCond .eq (28), 61, 0, []),
  (36, 1, .aload_n 0, 0, 0, []),
  (37, 1, .iload_n 3, 3, 0, []),
  (38, 3, .invokevirtual 177, 79, 8, []),
  (41, 1, .aload_n 0, 0, 0, []),
  (42, 3, .getfield 52, 8, 25, []),
  (45, 2, .bipush 24, 24, 0, []),
  (47, 1, .iload_n 1, 1, 0, []),
  (48, 1, .imul, 0, 0, []),
  (49, 1, .iload_n 3, 3, 0, []),
  (50, 1, .iadd, 0, 0, []),
  (51, 1, .iaload, 0, 0, []),
  (52, 3, .if_icmp .ne (9), 61, 0, []),
  (55, 3, .iinc 3 1, 1, 0, [3]),
  (58, 3, .goto (-40), 18, 0, []),
  (61, 1, .iload_n 3, 3, 0, []),
  (62, 1, .ireturn, 0, 0, [])]
set_option maxRecDepth 100000 in
theorem Zk129 : Zchk 129 Zt129 := ⟨by decide +kernel, by decide +kernel, Zat_in (hs := [1253, 1255, 137, 1256, 98, 1000, 1002, 137, 1003, 37, 935, 1098, 1100, 137, 1101, 70, 1106, 1108, 137, 1109, 72, 936]) rfl, Zan_in (hs := []) rfl⟩
/-- KnitRiverModel.image()I -/
def Zt130 : List Zent := [(0, 1, .aload_n 0, 0, 0, []),
  (1, 3, .getfield 7, 8, 0, []),
  (4, 1, .aload_n 0, 0, 0, []),
  (5, 3, .getfield 13, 8, 1, []),
  (8, 3, .invokestatic 252, 53, 0, []),
  (11, 1, .aload_n 0, 0, 0, []),
  (12, 1, .dup, 0, 0, []),
  (13, 3, .getfield 256, 8, 2, []),
  (16, 1, .iconst 1, 1, 0, []),
  (17, 1, .iadd, 0, 0, []),
  (18, 3, .putfield 256, 8, 2, []),
  (21, 1, .aload_n 0, 0, 0, []),
  (22, 3, .getfield 256, 8, 2, []),
  (25, 1, .ireturn, 0, 0, [])]
set_option maxRecDepth 100000 in
theorem Zk130 : Zchk 130 Zt130 := ⟨by decide +kernel, by decide +kernel, Zat_in (hs := [911, 912, 1320, 1321, 137, 1322, 913, 913, 913]) rfl, Zan_in (hs := []) rfl⟩
/-- KnitRiverModel.restore()I -/
def Zt131 : List Zent := [(0, 1, .aload_n 0, 0, 0, []),
  (1, 3, .getfield 256, 8, 2, []),
  (4, 3, .ifCond .ne (9), 13, 0, []),
  (7, 1, .aload_n 0, 0, 0, []),
  (8, 1, .iconst 2, 2, 0, []),
  (9, 3, .invokevirtual 63, 50, 8, []),
  (12, 1, .ireturn, 0, 0, []),
  (13, 1, .aload_n 0, 0, 0, []),
  (14, 3, .getfield 13, 8, 1, []),
  (17, 1, .aload_n 0, 0, 0, []),
  (18, 3, .getfield 7, 8, 0, []),
  (21, 3, .invokestatic 252, 53, 0, []),
  (24, 1, .aload_n 0, 0, 0, []),
  (25, 3, .getfield 7, 8, 0, []),
  (28, 1, .iconst 2, 2, 0, []),
  (29, 1, .iaload, 0, 0, []),
  (30, 1, .ireturn, 0, 0, [])]
set_option maxRecDepth 100000 in
theorem Zk131 : Zchk 131 Zt131 := ⟨by decide +kernel, by decide +kernel, Zat_in (hs := [913, 1000, 1002, 137, 1003, 37, 912, 911, 1320, 1321, 137, 1322, 911]) rfl, Zan_in (hs := []) rfl⟩
/-- KnitRiverModel.tell(I)I -/
def Zt132 : List Zent := [(0, 1, .aload_n 0, 0, 0, []),
  (1, 3, .getfield 7, 8, 0, []),
  (4, 2, .bipush 6, 6, 0, []),
  (6, 1, .iaload, 0, 0, []),
  (7, 2, .bipush 24, 24, 0, []),
  (9, 3, .if_icmp .ne (9), 18, 0, []),
  (12, 1, .aload_n 0, 0, 0, []),
  (13, 1, .iconst 4, 4, 0, []),
  (14, 3, .invokevirtual 63, 50, 8, []),
  (17, 1, .ireturn, 0, 0, []),
  (18, 1, .aload_n 0, 0, 0, []),
  (19, 3, .getfield 7, 8, 0, []),
  (22, 3, .sipush 394, 394, 0, []),
  (25, 1, .aload_n 0, 0, 0, []),
  (26, 3, .getfield 7, 8, 0, []),
  (29, 2, .bipush 6, 6, 0, []),
  (31, 1, .iaload, 0, 0, []),
  (32, 1, .iadd, 0, 0, []),
  (33, 1, .iload_n 1, 1, 0, []),
  (34, 1, .iastore, 0, 0, []),
  (35, 1, .aload_n 0, 0, 0, []),
  (36, 3, .getfield 7, 8, 0, []),
  (39, 2, .bipush 6, 6, 0, []),
  (41, 1, .dup2, 0, 0, []),
  (42, 1, .iaload, 0, 0, []),
  (43, 1, .iconst 1, 1, 0, []),
  (44, 1, .iadd, 0, 0, []),
  (45, 1, .iastore, 0, 0, []),
  (46, 1, .aload_n 0, 0, 0, []),
  (47, 3, .getfield 7, 8, 0, []),
  (50, 2, .bipush 6, 6, 0, []),
  (52, 1, .iaload, 0, 0, []),
  (53, 1, .ireturn, 0, 0, [])]
set_option maxRecDepth 100000 in
theorem Zk132 : Zchk 132 Zt132 := ⟨by decide +kernel, by decide +kernel, Zat_in (hs := [911, 1000, 1002, 137, 1003, 37, 911, 911, 911, 911]) rfl, Zan_in (hs := []) rfl⟩
/-- KnitRiverModel.check()I -/
def Zt133 : List Zent := [(0, 1, .aload_n 0, 0, 0, []),
  (1, 3, .getfield 7, 8, 0, []),
  (4, 2, .bipush 6, 6, 0, []),
  (6, 1, .iaload, 0, 0, []),
  (7, 1, .istore_n 1, 1, 0, []),
  (8, 1, .aload_n 0, 0, 0, []),
  (9, 3, .getfield 7, 8, 0, []),
  (12, 2, .bipush 6, 6, 0, []),
  (14, 1, .iconst 0, 0, 0, []),
  (15, 1, .iastore, 0, 0, []),
  (16, 1, .iconst 0, 0, 0, []),
  (17, 1, .istore_n 2, 2, 0, []),
  (18, 1, .iload_n 2, 2, 0, []),
  (19, 1, .iload_n 1, 1, 0, []),
  (20, 3, .if_icmp .ge (40), 60, 0, []),
  (23, 1, .aload_n 0, 0, 0, []),
  (24, 1, .iload_n 2, 2, 0, []),
  (25, 3, .invokevirtual 174, 54, 8, []),
  (28, 3, .ifCond .eq (22), 50, 0, []),
  (31, 1, .aload_n 0, 0, 0, []),
  (32, 3, .getfield 7, 8, 0, []),
  (35, 3, .sipush 394, 394, 0, []),
  (38, 1, .iload_n 2, 2, 0, []),
  (39, 1, .iadd, 0, 0, []),
  (40, 1, .iaload, 0, 0, []),
  (41, 1, .aload_n 0, 0, 0, []),
  (42, 1, .iload_n 2, 2, 0, []),
  (43, 1, .iconst 2, 2, 0, []),
  (44, 3, .invokevirtual 136, 56, 8, []),
  (47, 3, .if_icmp .eq (7), 54, 0, []),
  (50, 1, .iconst 1, 1, 0, []),
  (51, 1, .iload_n 2, 2, 0, []),
  (52, 1, .iadd, 0, 0, []),
  (53, 1, .ireturn, 0, 0, []),
  (54, 3, .iinc 2 1, 1, 0, [2]),
  (57, 3, .goto (-39), 18, 0, []),
  (60, 1, .iconst 0, 0, 0, []),
  (61, 1, .ireturn, 0, 0, [])]
set_option maxRecDepth 100000 in
theorem Zk133 : Zchk 133 Zt133 := ⟨by decide +kernel, by decide +kernel, Zat_in (hs := [911, 911, 1098, 1100, 137, 1101, 70, 911, 1102, 1104, 137, 1105, 71]) rfl, Zan_in (hs := []) rfl⟩
/-- KnitRiverModel.count(I)I -/
def Zt134 : List Zent := [(0, 1, .iload_n 1, 1, 0, []),
  (1, 51, .tableswitch (114) 0 8 #[51, 59, 66, 73, 80, 87, 94, 102, 107], 0, 0, []),
  (52, 1, .aload_n 0, 0, 0, []),
  (53, 3, .getfield 7, 8, 0, []),
  (56, 2, .bipush 7, 7, 0, []),
  (58, 1, .iaload, 0, 0, []),
  (59, 1, .ireturn, 0, 0, []),
  (60, 1, .aload_n 0, 0, 0, []),
  (61, 3, .getfield 7, 8, 0, []),
  (64, 1, .iconst 0, 0, 0, []),
  (65, 1, .iaload, 0, 0, []),
  (66, 1, .ireturn, 0, 0, []),
  (67, 1, .aload_n 0, 0, 0, []),
  (68, 3, .getfield 7, 8, 0, []),
  (71, 1, .iconst 1, 1, 0, []),
  (72, 1, .iaload, 0, 0, []),
  (73, 1, .ireturn, 0, 0, []),
  (74, 1, .aload_n 0, 0, 0, []),
  (75, 3, .getfield 7, 8, 0, []),
  (78, 1, .iconst 2, 2, 0, []),
  (79, 1, .iaload, 0, 0, []),
  (80, 1, .ireturn, 0, 0, []),
  (81, 1, .aload_n 0, 0, 0, []),
  (82, 3, .getfield 7, 8, 0, []),
  (85, 1, .iconst 3, 3, 0, []),
  (86, 1, .iaload, 0, 0, []),
  (87, 1, .ireturn, 0, 0, []),
  (88, 1, .aload_n 0, 0, 0, []),
  (89, 3, .getfield 7, 8, 0, []),
  (92, 1, .iconst 5, 5, 0, []),
  (93, 1, .iaload, 0, 0, []),
  (94, 1, .ireturn, 0, 0, []),
  (95, 1, .aload_n 0, 0, 0, []),
  (96, 3, .getfield 7, 8, 0, []),
  (99, 2, .bipush 6, 6, 0, []),
  (101, 1, .iaload, 0, 0, []),
  (102, 1, .ireturn, 0, 0, []),
  (103, 1, .aload_n 0, 0, 0, []),
  (104, 3, .getfield 217, 8, 19, []),
  (107, 1, .ireturn, 0, 0, []),
  (108, 1, .aload_n 0, 0, 0, []),
  (109, 3, .getfield 7, 8, 0, []),
  (112, 1, .iconst 4, 4, 0, []),
  (113, 1, .iaload, 0, 0, []),
  (114, 1, .ireturn, 0, 0, []),
  (115, 1, .aload_n 0, 0, 0, []),
  (116, 1, .iconst 1, 1, 0, []),
  (117, 3, .invokevirtual 63, 50, 8, []),
  (120, 1, .ireturn, 0, 0, [])]
set_option maxRecDepth 100000 in
theorem Zk134 : Zchk 134 Zt134 := ⟨by decide +kernel, by decide +kernel, Zat_in (hs := [911, 911, 911, 911, 911, 911, 911, 930, 911, 1000, 1002, 137, 1003, 37]) rfl, Zan_in (hs := []) rfl⟩
/-- KnitRiverModel.told(I)I -/
def Zt135 : List Zent := [(0, 1, .iload_n 1, 1, 0, []),
  (1, 1, .iconst 1, 1, 0, []),
  (2, 2, .bipush 6, 6, 0, []),
  (4, 3, .invokestatic 59, 51, 0, []),
  (7, 3, .ifCond .eq (12), 19, 0, []),
  (10, 1, .aload_n 0, 0, 0, []),
  (11, 3, .getfield 16, 8, 3, []),
  (14, 1, .iload_n 1, 1, 0, []),
  (15, 1, .iaload, 0, 0, []),
  (16, 3, .goto (8), 24, 0, []),
  (19, 1, .aload_n 0, 0, 0, []),
  (20, 1, .iconst 1, 1, 0, []),
  (21, 3, .invokevirtual 63, 50, 8, []),
  (24, 1, .ireturn, 0, 0, [])]
set_option maxRecDepth 100000 in
theorem Zk135 : Zchk 135 Zt135 := ⟨by decide +kernel, by decide +kernel, Zat_in (hs := [997, 998, 137, 999, 914, 1000, 1002, 137, 1003, 37]) rfl, Zan_in (hs := []) rfl⟩
/-- KnitRiver$Course.turned(II)I -/
def Zt137 : List Zent := [(0, 1, .iload_n 0, 0, 0, []),
  (1, 1, .iload_n 1, 1, 0, []),
  (2, 1, .iadd, 0, 0, []),
  (3, 1, .iconst 4, 4, 0, []),
  (4, 3, .invokestatic 25, 199, 0, []),
  (7, 1, .ireturn, 0, 0, [])]
set_option maxRecDepth 100000 in
theorem Zk137 : Zchk 137 Zt137 := ⟨by decide +kernel, by decide +kernel, Zat_in (hs := [697, 698, 139, 699]) rfl, Zan_in (hs := []) rfl⟩
/-- KnitRiver$Course.acrossMore(I)I -/
def Zt138 : List Zent := [(0, 1, .iload_n 0, 0, 0, []),
  (1, 1, .iconst 1, 1, 0, []),
  (2, 3, .if_icmp .ne (7), 9, 0, []),
  (5, 1, .iconst 1, 1, 0, []),
  (6, 3, .goto (13), 19, 0, []),
  (9, 1, .iload_n 0, 0, 0, []),
  (10, 1, .iconst 3, 3, 0, []),
  (11, 3, .if_icmp .ne (7), 18, 0, []),
  (14, 1, .iconst (-1), 1, 1, []),
  (15, 3, .goto (4), 19, 0, []),
  (18, 1, .iconst 0, 0, 0, []),
  (19, 1, .ireturn, 0, 0, [])]
set_option maxRecDepth 100000 in
theorem Zk138 : Zchk 138 Zt138 := ⟨by decide +kernel, by decide +kernel, Zat_in (hs := []) rfl, Zan_in (hs := []) rfl⟩
/-- KnitRiver$Course.downMore(I)I -/
def Zt139 : List Zent := [(0, 1, .iload_n 0, 0, 0, []),
  (1, 1, .iconst 2, 2, 0, []),
  (2, 3, .if_icmp .ne (7), 9, 0, []),
  (5, 1, .iconst 1, 1, 0, []),
  (6, 3, .goto (12), 18, 0, []),
  (9, 1, .iload_n 0, 0, 0, []),
  (10, 3, .ifCond .ne (7), 17, 0, []),
  (13, 1, .iconst (-1), 1, 1, []),
  (14, 3, .goto (4), 18, 0, []),
  (17, 1, .iconst 0, 0, 0, []),
  (18, 1, .ireturn, 0, 0, [])]
set_option maxRecDepth 100000 in
theorem Zk139 : Zchk 139 Zt139 := ⟨by decide +kernel, by decide +kernel, Zat_in (hs := []) rfl, Zan_in (hs := []) rfl⟩
/-- KnitRiver$Course.follow(LKnitRiver$River;)V -/
def Zt140 : List Zent := [(0, 1, .aload_n 0, 0, 0, []),
  (1, 1, .aload_n 1, 1, 0, []),
  (2, 3, .getfield 31, 1, 7, []),
  (5, 3, .putfield 22, 4, 3, []),
  (8, 1, .aload_n 0, 0, 0, []),
  (9, 1, .aload_n 1, 1, 0, []),
  (10, 3, .getfield 36, 1, 5, []),
  (13, 3, .putfield 18, 4, 2, []),
  (16, 1, .aload_n 0, 0, 0, []),
  (17, 3, .getfield 9, 4, 0, []),
  (20, 1, .iconst 0, 0, 0, []),
  (21, 1, .iconst 0, 0, 0, []),
  (22, 1, .iastore, 0, 0, []),
  (23, 1, .aload_n 0, 0, 0, []),
  (24, 3, .getfield 15, 4, 1, []),
  (27, 1, .iconst 0, 0, 0, []),
  (28, 1, .iconst 0, 0, 0, []),
  (29, 1, .iastore, 0, 0, []),
  (30, 1, .iconst 0, 0, 0, []),
  (31, 1, .istore_n 2, 2, 0, []),
  (32, 1, .iload_n 2, 2, 0, []),
  (33, 1, .aload_n 0, 0, 0, []),
  (34, 3, .getfield 18, 4, 2, []),
  (37, 3, .if_icmp .ge (79), 116, 0, []),
  (40, 1, .aload_n 0, 0, 0, []),
  (41, 1, .aload_n 0, 0, 0, []),
  (42, 3, .getfield 22, 4, 3, []),
  (45, 1, .aload_n 1, 1, 0, []),
  (46, 3, .getfield 37, 1, 0, []),
  (49, 1, .iload_n 2, 2, 0, []),
  (50, 1, .iaload, 0, 0, []),
  (51, 1, .aload_n 1, 1, 0, []),
  (52, 3, .getfield 40, 1, 1, []),
  (55, 1, .iload_n 2, 2, 0, []),
  (56, 1, .iaload, 0, 0, []),
  (57, 3, .invokestatic 43, 146, 0, []),
  (60, 3, .invokestatic 48, 137, 0, []),
  (63, 3, .putfield 22, 4, 3, []),
  (66, 1, .aload_n 0, 0, 0, []),
  (67, 3, .getfield 9, 4, 0, []),
  (70, 1, .iload_n 2, 2, 0, []),
  (71, 1, .iconst 1, 1, 0, []),
  (72, 1, .iadd, 0, 0, []),
  (73, 1, .aload_n 0, 0, 0, []),
  (74, 3, .getfield 9, 4, 0, []),
  (77, 1, .iload_n 2, 2, 0, []),
  (78, 1, .iaload, 0, 0, []),
  (79, 1, .aload_n 0, 0, 0, []),
  (80, 3, .getfield 22, 4, 3, []),
  (83, 3, .invokestatic 51, 138, 0, []),
  (86, 1, .iadd, 0, 0, []),
  (87, 1, .iastore, 0, 0, []),
  (88, 1, .aload_n 0, 0, 0, []),
  (89, 3, .getfield 15, 4, 1, []),
  (92, 1, .iload_n 2, 2, 0, []),
  (93, 1, .iconst 1, 1, 0, []),
  (94, 1, .iadd, 0, 0, []),
  (95, 1, .aload_n 0, 0, 0, []),
  (96, 3, .getfield 15, 4, 1, []),
  (99, 1, .iload_n 2, 2, 0, []),
  (100, 1, .iaload, 0, 0, []),
  (101, 1, .aload_n 0, 0, 0, []),
  (102, 3, .getfield 22, 4, 3, []),
  (105, 3, .invokestatic 55, 139, 0, []),
  (108, 1, .iadd, 0, 0, []),
  (109, 1, .iastore, 0, 0, []),
  (110, 3, .iinc 2 1, 1, 0, [2]),
  (113, 3, .goto (-81), 32, 0, []),
  (116, 1, .return_, 0, 0, [])]
set_option maxRecDepth 100000 in
theorem Zk140 : Zchk 140 Zt140 := ⟨by decide +kernel, by decide +kernel, Zat_in (hs := [203, 300, 199, 298, 292, 295, 298, 300, 186, 190, 693, 510, 138, 511, 694, 695, 133, 696, 300, 292, 292, 300, 700, 701, 133, 702, 295, 295, 300, 703, 704, 133, 705]) rfl, Zan_in (hs := []) rfl⟩
/-- KnitRiver$Course.crossings()I -/
def Zt141 : List Zent := [(0, 1, .iconst 0, 0, 0, []),
  (1, 1, .istore_n 1, 1, 0, []),
  (2, 1, .iconst 1, 1, 0, []),
  (3, 1, .istore_n 2, 2, 0, []),
  (4, 1, .iload_n 2, 2, 0, []),
  (5, 1, .aload_n 0, 0, 0, []),
  (6, 3, .getfield 18, 4, 2, []),
  (9, 3, .if_icmp .gt (20), 29, 0, []),
  (12, 1, .aload_n 0, 0, 0, []),
  (13, 1, .iload_n 2, 2, 0, []),
  (14, 3, .invokevirtual 58, 142, 4, []),
  (17, 3, .ifCond .eq (6), 23, 0, []),
  (20, 3, .iinc 1 1, 1, 0, [1]),
  (23, 3, .iinc 2 1, 1, 0, [2]),
  (26, 3, .goto (-22), 4, 0, []),
  (29, 1, .iload_n 1, 1, 0, []),
  (30, 1, .ireturn, 0, 0, [])]
set_option maxRecDepth 100000 in
theorem Zk141 : Zchk 141 Zt141 := ⟨by decide +kernel, by decide +kernel, Zat_in (hs := [298, 714, 716, 133, 717, 12]) rfl, Zan_in (hs := []) rfl⟩
/-- KnitRiver$Course.wasAhead(I)Z -/
def Zt142 : List Zent := [(0, 1, .iconst 0, 0, 0, []),
  (1, 1, .istore_n 2, 2, 0, []),
  (2, 1, .iload_n 2, 2, 0, []),
  (3, 1, .iload_n 1, 1, 0, []),
  (4, 3, .if_icmp .ge (41), 45, 0, []),
  (7, 1, .aload_n 0, 0, 0, []),
  (8, 3, .getfield 9, 4, 0, []),
  (11, 1, .iload_n 2, 2, 0, []),
  (12, 1, .iaload, 0, 0, []),
  (13, 1, .aload_n 0, 0, 0, []),
  (14, 3, .getfield 9, 4, 0, []),
  (17, 1, .iload_n 1, 1, 0, []),
  (18, 1, .iaload, 0, 0, []),
  (19, 3, .if_icmp .ne (20), 39, 0, []),
  (22, 1, .aload_n 0, 0, 0, []),
  (23, 3, .getfield 15, 4, 1, []),
  (26, 1, .iload_n 2, 2, 0, []),
  (27, 1, .iaload, 0, 0, []),
  (28, 1, .aload_n 0, 0, 0, []),
  (29, 3, .getfield 15, 4, 1, []),
  (32, 1, .iload_n 1, 1, 0, []),
  (33, 1, .iaload, 0, 0, []),
  (34, 3, .if_icmp .ne (5), 39, 0, []),
  (37, 1, .iconst 1, 1, 0, []),
  (38, 1, .ireturn, 0, 0, []),
  (39, 3, .iinc 2 1, 1, 0, [2]),
  (42, 3, .goto (-40), 2, 0, []),
  (45, 1, .iconst 0, 0, 0, []),
  (46, 1, .ireturn, 0, 0, [])]
set_option maxRecDepth 100000 in
theorem Zk142 : Zchk 142 Zt142 := ⟨by decide +kernel, by decide +kernel, Zat_in (hs := [292, 292, 295, 295]) rfl, Zan_in (hs := []) rfl⟩
/-- KnitRiver$Kinds.above(I)I -/
def Zt143 : List Zent := [(0, 1, .iload_n 0, 0, 0, []),
  (1, 1, .iconst 0, 0, 0, []),
  (2, 2, .bipush 6, 6, 0, []),
  (4, 3, .invokestatic 9, 46, 1, []),
  (7, 3, .ifCond .eq (11), 18, 0, []),
  (10, 3, .getstatic 15, 101, 0, []),
  (13, 1, .iload_n 0, 0, 0, []),
  (14, 1, .iaload, 0, 0, []),
  (15, 3, .goto (4), 19, 0, []),
  (18, 1, .iconst (-1), 1, 1, []),
  (19, 1, .ireturn, 0, 0, [])]
set_option maxRecDepth 100000 in
theorem Zk143 : Zchk 143 Zt143 := ⟨by decide +kernel, by decide +kernel, Zat_in (hs := [443, 129, 444, 527]) rfl, Zan_in (hs := [526]) rfl⟩
/-- KnitRiver$Kinds.isOrIsUnder(II)Z -/
def Zt144 : List Zent := [(0, 1, .iload_n 0, 0, 0, []),
  (1, 1, .istore_n 2, 2, 0, []),
  (2, 1, .iconst 0, 0, 0, []),
  (3, 1, .istore_n 3, 3, 0, []),
  (4, 1, .iload_n 3, 3, 0, []),
  (5, 2, .bipush 6, 6, 0, []),
  (7, 3, .if_icmp .gt (25), 32, 0, []),
  (10, 1, .iload_n 2, 2, 0, []),
  (11, 3, .ifCond .lt (21), 32, 0, []),
  (14, 1, .iload_n 2, 2, 0, []),
  (15, 1, .iload_n 1, 1, 0, []),
  (16, 3, .if_icmp .ne (5), 21, 0, []),
  (19, 1, .iconst 1, 1, 0, []),
  (20, 1, .ireturn, 0, 0, []),
  (21, 1, .iload_n 2, 2, 0, []),
  (22, 3, .invokestatic 19, 143, 0, []),
  (25, 1, .istore_n 2, 2, 0, []),
  (26, 3, .iinc 3 1, 1, 0, [3]),
  (29, 3, .goto (-25), 4, 0, []),
  (32, 1, .iconst 0, 0, 0, []),
  (33, 1, .ireturn, 0, 0, [])]
set_option maxRecDepth 100000 in
theorem Zk144 : Zchk 144 Zt144 := ⟨by decide +kernel, by decide +kernel, Zat_in (hs := [523, 524, 138, 525]) rfl, Zan_in (hs := []) rfl⟩
/-- KnitRiver$Kinds.yarn(IIII)I -/
def Zt145 : List Zent := [(0, 1, .iconst 2, 2, 0, []),
  (1, 1, .iload_n 1, 1, 0, []),
  (2, 1, .imul, 0, 0, []),
  (3, 1, .iload_n 2, 2, 0, []),
  (4, 1, .isub, 0, 0, []),
  (5, 2, .istore 4, 4, 0, []),
  (7, 1, .iconst 3, 3, 0, []),
  (8, 2, .iload 4, 4, 0, []),
  (10, 1, .imul, 0, 0, []),
  (11, 1, .iconst 2, 2, 0, []),
  (12, 1, .idiv, 0, 0, []),
  (13, 2, .istore 5, 5, 0, []),
  (15, 1, .iload_n 0, 0, 0, []),
  (16, 2, .bipush 10, 10, 0, []),
  (18, 1, .idiv, 0, 0, []),
  (19, 37, .tableswitch (82) 1 6 #[37, 42, 45, 50, 60, 77], 0, 0, []),
  (56, 2, .iload 4, 4, 0, []),
  (58, 1, .iconst 1, 1, 0, []),
  (59, 1, .iadd, 0, 0, []),
  (60, 1, .ireturn, 0, 0, []),
  (61, 2, .iload 5, 5, 0, []),
  (63, 1, .ireturn, 0, 0, []),
  (64, 2, .iload 4, 4, 0, []),
  (66, 1, .iconst 2, 2, 0, []),
  (67, 1, .idiv, 0, 0, []),
  (68, 1, .ireturn, 0, 0, []),
  (69, 2, .iload 4, 4, 0, []),
  (71, 1, .iconst 1, 1, 0, []),
  (72, 1, .iadd, 0, 0, []),
  (73, 1, .iload_n 0, 0, 0, []),
  (74, 2, .bipush 10, 10, 0, []),
  (76, 1, .irem, 0, 0, []),
  (77, 1, .iadd, 0, 0, []),
  (78, 1, .ireturn, 0, 0, []),
  (79, 1, .iload_n 3, 3, 0, []),
  (80, 1, .iconst 4, 4, 0, []),
  (81, 1, .irem, 0, 0, []),
  (82, 1, .iconst 3, 3, 0, []),
  (83, 3, .if_icmp .ne (8), 91, 0, []),
  (86, 2, .iload 5, 5, 0, []),
  (88, 3, .goto (7), 95, 0, []),
  (91, 2, .iload 5, 5, 0, []),
  (93, 1, .iconst 2, 2, 0, []),
  (94, 1, .idiv, 0, 0, []),
  (95, 1, .ireturn, 0, 0, []),
  (96, 2, .iload 4, 4, 0, []),
  (98, 1, .iload_n 1, 1, 0, []),
  (99, 1, .iadd, 0, 0, []),
  (100, 1, .ireturn, 0, 0, []),
  (101, 2, .iload 4, 4, 0, []),
  (103, 1, .ireturn, 0, 0, [])]
set_option maxRecDepth 100000 in
theorem Zk145 : Zchk 145 Zt145 := ⟨by decide +kernel, by decide +kernel, Zat_in (hs := []) rfl, Zan_in (hs := []) rfl⟩
/-- KnitRiver$Kinds.bends(II)I -/
def Zt146 : List Zent := [(0, 1, .iload_n 1, 1, 0, []),
  (1, 1, .iconst 3, 3, 0, []),
  (2, 1, .irem, 0, 0, []),
  (3, 1, .iconst 1, 1, 0, []),
  (4, 1, .isub, 0, 0, []),
  (5, 1, .istore_n 2, 2, 0, []),
  (6, 1, .iload_n 0, 0, 0, []),
  (7, 33, .lookupswitch (41) #[(1, 33), (4, 35), (6, 39)], 0, 0, []),
  (40, 1, .iload_n 2, 2, 0, []),
  (41, 1, .ireturn, 0, 0, []),
  (42, 1, .iconst 2, 2, 0, []),
  (43, 1, .iload_n 2, 2, 0, []),
  (44, 1, .imul, 0, 0, []),
  (45, 1, .ireturn, 0, 0, []),
  (46, 1, .iconst 2, 2, 0, []),
  (47, 1, .ireturn, 0, 0, []),
  (48, 1, .iconst 0, 0, 0, []),
  (49, 1, .ireturn, 0, 0, [])]
set_option maxRecDepth 100000 in
theorem Zk146 : Zchk 146 Zt146 := ⟨by decide +kernel, by decide +kernel, Zat_in (hs := []) rfl, Zan_in (hs := []) rfl⟩
/-- KnitRiver$Reach.stitch(I)I -/
def Zt148 : List Zent := [(0, 1, .iload_n 1, 1, 0, []),
  (1, 3, .ifCond .lt (30), 31, 0, []),
  (4, 1, .iload_n 1, 1, 0, []),
  (5, 1, .aload_n 0, 0, 0, []),
  (6, 3, .getfield 18, 5, 1, []),
  (9, 3, .if_icmp .ge (22), 31, 0, []),
  (12, 3, .getstatic 9, 100, 0, []),
  (15, 1, .aload_n 0, 0, 0, []),
  (16, 3, .getfield 25, 5, 3, []),
  (19, 1, .aload_n 0, 0, 0, []),
  (20, 3, .getfield 18, 5, 1, []),
  (23, 1, .iload_n 1, 1, 0, []),
  (24, 3, .invokestatic 28, 153, 0, []),
  (27, 1, .iaload, 0, 0, []),
  (28, 3, .goto (4), 32, 0, []),
  (31, 1, .iconst (-1), 1, 1, []),
  (32, 1, .ireturn, 0, 0, [])]
set_option maxRecDepth 100000 in
theorem Zk148 : Zchk 148 Zt148 := ⟨by decide +kernel, by decide +kernel, Zat_in (hs := [320, 317, 324, 320, 735, 736, 134, 737]) rfl, Zan_in (hs := []) rfl⟩
/-- KnitRiver$Reach.finds(LKnitRiver$River;LKnitRiver$Course;II)Z -/
def Zt149 : List Zent := [(0, 1, .iload_n 3, 3, 0, []),
  (1, 1, .aload_n 2, 2, 0, []),
  (2, 3, .getfield 32, 4, 0, []),
  (5, 1, .aload_n 2, 2, 0, []),
  (6, 3, .getfield 37, 4, 2, []),
  (9, 1, .iaload, 0, 0, []),
  (10, 1, .isub, 0, 0, []),
  (11, 3, .invokestatic 40, 198, 0, []),
  (14, 2, .iload 4, 4, 0, []),
  (16, 1, .aload_n 2, 2, 0, []),
  (17, 3, .getfield 46, 4, 1, []),
  (20, 1, .aload_n 2, 2, 0, []),
  (21, 3, .getfield 37, 4, 2, []),
  (24, 1, .iaload, 0, 0, []),
  (25, 1, .isub, 0, 0, []),
  (26, 3, .invokestatic 40, 198, 0, []),
  (29, 1, .iadd, 0, 0, []),
  (30, 2, .istore 5, 5, 0, []),
  (32, 2, .iload 5, 5, 0, []),
  (34, 1, .iconst 5, 5, 0, []),
  (35, 2, .bipush 15, 15, 0, []),
  (37, 1, .aload_n 2, 2, 0, []),
  (38, 3, .getfield 37, 4, 2, []),
  (41, 1, .isub, 0, 0, []),
  (42, 3, .invokestatic 49, 201, 0, []),
  (45, 3, .if_icmp .le (5), 50, 0, []),
  (48, 1, .iconst 0, 0, 0, []),
  (49, 1, .ireturn, 0, 0, []),
  (50, 1, .iconst 0, 0, 0, []),
  (51, 2, .istore 6, 6, 0, []),
  (53, 2, .iload 6, 6, 0, []),
  (55, 3, .getstatic 9, 100, 0, []),
  (58, 1, .arraylength, 0, 0, []),
  (59, 3, .if_icmp .ge (28), 87, 0, []),
  (62, 1, .aload_n 0, 0, 0, []),
  (63, 3, .getfield 15, 5, 0, []),
  (66, 2, .iload 6, 6, 0, []),
  (68, 1, .aload_n 1, 1, 0, []),
  (69, 3, .getstatic 9, 100, 0, []),
  (72, 2, .iload 6, 6, 0, []),
  (74, 1, .iaload, 0, 0, []),
  (75, 1, .iconst 2, 2, 0, []),
  (76, 1, .iconst 0, 0, 0, []),
  (77, 3, .invokevirtual 53, 169, 1, []),
  (80, 1, .iastore, 0, 0, []),
  (81, 3, .iinc 6 1, 1, 0, [6]),
  (84, 3, .goto (-31), 53, 0, []),
  (87, 1, .aload_n 0, 0, 0, []),
  (88, 2, .iload 5, 5, 0, []),
  (90, 3, .putfield 18, 5, 1, []),
  (93, 1, .aload_n 0, 0, 0, []),
  (94, 1, .iconst (-1), 1, 1, []),
  (95, 3, .putfield 25, 5, 3, []),
  (98, 1, .iconst 0, 0, 0, []),
  (99, 2, .istore 6, 6, 0, []),
  (101, 2, .iload 6, 6, 0, []),
  (103, 1, .iconst 1, 1, 0, []),
  (104, 1, .iconst 2, 2, 0, []),
  (105, 1, .aload_n 0, 0, 0, []),
  (106, 3, .getfield 18, 5, 1, []),
  (109, 1, .imul, 0, 0, []),
  (110, 1, .ishl, 0, 0, []),
  (111, 3, .if_icmp .ge (28), 139, 0, []),
  (114, 1, .aload_n 0, 0, 0, []),
  (115, 2, .iload 6, 6, 0, []),
  (117, 1, .aload_n 2, 2, 0, []),
  (118, 1, .iload_n 3, 3, 0, []),
  (119, 2, .iload 4, 4, 0, []),
  (121, 3, .invokevirtual 58, 151, 5, []),
  (124, 3, .ifCond .eq (9), 133, 0, []),
  (127, 1, .aload_n 0, 0, 0, []),
  (128, 2, .iload 6, 6, 0, []),
  (130, 3, .invokevirtual 62, 150, 5, []),
  (133, 3, .iinc 6 1, 1, 0, [6]),
  (136, 3, .goto (-35), 101, 0, []),
  (139, 1, .aload_n 0, 0, 0, []),
  (140, 3, .getfield 25, 5, 3, []),
  (143, 3, .ifCond .lt (7), 150, 0, []),
  (146, 1, .iconst 1, 1, 0, []),
  (147, 3, .goto (4), 151, 0, []),
  (150, 1, .iconst 0, 0, 0, []),
  (151, 1, .ireturn, 0, 0, [])]
set_option maxRecDepth 100000 in
theorem Zk149 : Zchk 149 Zt149 := ⟨by decide +kernel, by decide +kernel, Zat_in (hs := [293, 299, 726, 727, 139, 728, 296, 299, 726, 727, 139, 728, 299, 729, 483, 139, 484, 317, 319, 317, 730, 454, 130, 456, 455, 320, 324, 320, 731, 733, 134, 734, 13, 742, 744, 134, 745, 14, 324]) rfl, Zan_in (hs := []) rfl⟩
/-- KnitRiver$Reach.keepIfLess(I)V -/
def Zt150 : List Zent := [(0, 1, .aload_n 0, 0, 0, []),
  (1, 1, .iload_n 1, 1, 0, []),
  (2, 3, .invokevirtual 66, 152, 5, []),
  (5, 1, .istore_n 2, 2, 0, []),
  (6, 1, .aload_n 0, 0, 0, []),
  (7, 3, .getfield 25, 5, 3, []),
  (10, 3, .ifCond .lt (11), 21, 0, []),
  (13, 1, .iload_n 2, 2, 0, []),
  (14, 1, .aload_n 0, 0, 0, []),
  (15, 3, .getfield 22, 5, 2, []),
  (18, 3, .if_icmp .ge (13), 31, 0, []),
  (21, 1, .aload_n 0, 0, 0, []),
  (22, 1, .iload_n 1, 1, 0, []),
  (23, 3, .putfield 25, 5, 3, []),
  (26, 1, .aload_n 0, 0, 0, []),
  (27, 1, .iload_n 2, 2, 0, []),
  (28, 3, .putfield 22, 5, 2, []),
  (31, 1, .return_, 0, 0, [])]
set_option maxRecDepth 100000 in
theorem Zk150 : Zchk 150 Zt150 := ⟨by decide +kernel, by decide +kernel, Zat_in (hs := [746, 748, 134, 749, 15, 324, 322, 324, 322]) rfl, Zan_in (hs := []) rfl⟩
/-- KnitRiver$Reach.leads(ILKnitRiver$Course;II)Z -/
def Zt151 : List Zent := [(0, 1, .aload_n 2, 2, 0, []),
  (1, 3, .getfield 32, 4, 0, []),
  (4, 1, .aload_n 2, 2, 0, []),
  (5, 3, .getfield 37, 4, 2, []),
  (8, 1, .iaload, 0, 0, []),
  (9, 2, .istore 5, 5, 0, []),
  (11, 1, .aload_n 2, 2, 0, []),
  (12, 3, .getfield 46, 4, 1, []),
  (15, 1, .aload_n 2, 2, 0, []),
  (16, 3, .getfield 37, 4, 2, []),
  (19, 1, .iaload, 0, 0, []),
  (20, 2, .istore 6, 6, 0, []),
  (22, 1, .aload_n 2, 2, 0, []),
  (23, 3, .getfield 69, 4, 3, []),
  (26, 2, .istore 7, 7, 0, []),
  (28, 1, .iconst 0, 0, 0, []),
  (29, 2, .istore 8, 8, 0, []),
  (31, 2, .iload 8, 8, 0, []),
  (33, 1, .aload_n 0, 0, 0, []),
  (34, 3, .getfield 18, 5, 1, []),
  (37, 3, .if_icmp .ge (65), 102, 0, []),
  (40, 3, .getstatic 9, 100, 0, []),
  (43, 1, .iload_n 1, 1, 0, []),
  (44, 1, .aload_n 0, 0, 0, []),
  (45, 3, .getfield 18, 5, 1, []),
  (48, 2, .iload 8, 8, 0, []),
  (50, 3, .invokestatic 28, 153, 0, []),
  (53, 1, .iaload, 0, 0, []),
  (54, 2, .istore 9, 9, 0, []),
  (56, 2, .iload 7, 7, 0, []),
  (58, 2, .iload 9, 9, 0, []),
  (60, 2, .bipush 10, 10, 0, []),
  (62, 1, .idiv, 0, 0, []),
  (63, 2, .iload 9, 9, 0, []),
  (65, 2, .bipush 10, 10, 0, []),
  (67, 1, .irem, 0, 0, []),
  (68, 3, .invokestatic 72, 146, 0, []),
  (71, 3, .invokestatic 77, 137, 0, []),
  (74, 2, .istore 7, 7, 0, []),
  (76, 2, .iload 5, 5, 0, []),
  (78, 2, .iload 7, 7, 0, []),
  (80, 3, .invokestatic 80, 138, 0, []),
  (83, 1, .iadd, 0, 0, []),
  (84, 2, .istore 5, 5, 0, []),
  (86, 2, .iload 6, 6, 0, []),
  (88, 2, .iload 7, 7, 0, []),
  (90, 3, .invokestatic 83, 139, 0, []),
  (93, 1, .iadd, 0, 0, []),
  (94, 2, .istore 6, 6, 0, []),
  (96, 3, .iinc 8 1, 1, 0, [8]),
  (99, 3, .goto (-68), 31, 0, []),
  (102, 2, .iload 5, 5, 0, []),
  (104, 1, .iload_n 3, 3, 0, []),
  (105, 3, .if_icmp .ne (14), 119, 0, []),
  (108, 2, .iload 6, 6, 0, []),
  (110, 2, .iload 4, 4, 0, []),
  (112, 3, .if_icmp .ne (7), 119, 0, []),
  (115, 1, .iconst 1, 1, 0, []),
  (116, 3, .goto (4), 120, 0, []),
  (119, 1, .iconst 0, 0, 0, []),
  (120, 1, .ireturn, 0, 0, [])]
set_option maxRecDepth 100000 in
theorem Zk151 : Zchk 151 Zt151 := ⟨by decide +kernel, by decide +kernel, Zat_in (hs := [293, 299, 296, 299, 301, 320, 317, 320, 735, 736, 134, 737, 738, 510, 138, 511, 739, 695, 133, 696, 740, 701, 133, 702, 741, 704, 133, 705]) rfl, Zan_in (hs := []) rfl⟩
/-- KnitRiver$Reach.yarnOf(I)I -/
def Zt152 : List Zent := [(0, 1, .iconst 0, 0, 0, []),
  (1, 1, .istore_n 2, 2, 0, []),
  (2, 1, .iconst 0, 0, 0, []),
  (3, 1, .istore_n 3, 3, 0, []),
  (4, 1, .iload_n 3, 3, 0, []),
  (5, 1, .aload_n 0, 0, 0, []),
  (6, 3, .getfield 18, 5, 1, []),
  (9, 3, .if_icmp .ge (26), 35, 0, []),
  (12, 1, .iload_n 2, 2, 0, []),
  (13, 1, .aload_n 0, 0, 0, []),
  (14, 3, .getfield 15, 5, 0, []),
  (17, 1, .iload_n 1, 1, 0, []),
  (18, 1, .aload_n 0, 0, 0, []),
  (19, 3, .getfield 18, 5, 1, []),
  (22, 1, .iload_n 3, 3, 0, []),
  (23, 3, .invokestatic 28, 153, 0, []),
  (26, 1, .iaload, 0, 0, []),
  (27, 1, .iadd, 0, 0, []),
  (28, 1, .istore_n 2, 2, 0, []),
  (29, 3, .iinc 3 1, 1, 0, [3]),
  (32, 3, .goto (-28), 4, 0, []),
  (35, 1, .iload_n 2, 2, 0, []),
  (36, 1, .ireturn, 0, 0, [])]
set_option maxRecDepth 100000 in
theorem Zk152 : Zchk 152 Zt152 := ⟨by decide +kernel, by decide +kernel, Zat_in (hs := [320, 319, 320, 735, 736, 134, 737]) rfl, Zan_in (hs := []) rfl⟩
/-- KnitRiver$Reach.digit(III)I -/
def Zt153 : List Zent := [(0, 1, .iload_n 0, 0, 0, []),
  (1, 1, .iconst 2, 2, 0, []),
  (2, 1, .iload_n 1, 1, 0, []),
  (3, 1, .iconst 1, 1, 0, []),
  (4, 1, .isub, 0, 0, []),
  (5, 1, .iload_n 2, 2, 0, []),
  (6, 1, .isub, 0, 0, []),
  (7, 1, .imul, 0, 0, []),
  (8, 1, .iushr, 0, 0, []),
  (9, 1, .iconst 3, 3, 0, []),
  (10, 1, .iand, 0, 0, []),
  (11, 1, .ireturn, 0, 0, [])]
set_option maxRecDepth 100000 in
theorem Zk153 : Zchk 153 Zt153 := ⟨by decide +kernel, by decide +kernel, Zat_in (hs := []) rfl, Zan_in (hs := []) rfl⟩
/-- KnitRiver$Reader.reads([BII)Z -/
def Zt155 : List Zent := [(0, 1, .aload_n 0, 0, 0, []),
  (1, 1, .aload_n 1, 1, 0, []),
  (2, 3, .putfield 22, 3, 3, []),
  (5, 1, .aload_n 0, 0, 0, []),
  (6, 1, .iload_n 2, 2, 0, []),
  (7, 1, .iconst 0, 0, 0, []),
  (8, 1, .aload_n 1, 1, 0, []),
  (9, 1, .arraylength, 0, 0, []),
  (10, 3, .invokestatic 32, 47, 1, []),
  (13, 3, .putfield 26, 3, 4, []),
  (16, 1, .aload_n 0, 0, 0, []),
  (17, 1, .iload_n 3, 3, 0, []),
  (18, 3, .putfield 29, 3, 5, []),
  (21, 1, .aload_n 0, 0, 0, []),
  (22, 1, .iconst 0, 0, 0, []),
  (23, 3, .putfield 15, 3, 1, []),
  (26, 1, .aload_n 0, 0, 0, []),
  (27, 1, .iconst 0, 0, 0, []),
  (28, 3, .putfield 19, 3, 2, []),
  (31, 1, .aload_n 0, 0, 0, []),
  (32, 1, .iconst 0, 0, 0, []),
  (33, 1, .iconst 0, 0, 0, []),
  (34, 3, .invokevirtual 36, 158, 3, []),
  (37, 3, .ifCond .eq (18), 55, 0, []),
  (40, 1, .aload_n 0, 0, 0, []),
  (41, 3, .getfield 19, 3, 2, []),
  (44, 1, .aload_n 0, 0, 0, []),
  (45, 3, .getfield 26, 3, 4, []),
  (48, 3, .if_icmp .ne (7), 55, 0, []),
  (51, 1, .iconst 1, 1, 0, []),
  (52, 3, .goto (4), 56, 0, []),
  (55, 1, .iconst 0, 0, 0, []),
  (56, 1, .ireturn, 0, 0, [])]
set_option maxRecDepth 100000 in
theorem Zk155 : Zchk 155 Zt155 := ⟨by decide +kernel, by decide +kernel, Zat_in (hs := [270, 480, 129, 481, 271, 272, 266, 268, 571, 573, 132, 574, 4, 268, 271]) rfl, Zan_in (hs := [570]) rfl⟩
/-- KnitRiver$Reader.next()I -/
def Zt156 : List Zent := [(0, 1, .aload_n 0, 0, 0, []),
  (1, 3, .getfield 22, 3, 3, []),
  (4, 3, .ifnull (38), 42, 0, []),
  (7, 1, .aload_n 0, 0, 0, []),
  (8, 3, .getfield 19, 3, 2, []),
  (11, 1, .aload_n 0, 0, 0, []),
  (12, 3, .getfield 26, 3, 4, []),
  (15, 3, .if_icmp .ge (27), 42, 0, []),
  (18, 1, .aload_n 0, 0, 0, []),
  (19, 3, .getfield 19, 3, 2, []),
  (22, 1, .aload_n 0, 0, 0, []),
  (23, 3, .getfield 22, 3, 3, []),
  (26, 1, .arraylength, 0, 0, []),
  (27, 3, .if_icmp .ge (15), 42, 0, []),
  (30, 1, .aload_n 0, 0, 0, []),
  (31, 3, .getfield 22, 3, 3, []),
  (34, 1, .aload_n 0, 0, 0, []),
  (35, 3, .getfield 19, 3, 2, []),
  (38, 1, .baload, 0, 0, []),
  (39, 3, .goto (4), 43, 0, []),
  (42, 1, .iconst (-1), 1, 1, []),
  (43, 1, .ireturn, 0, 0, [])]
set_option maxRecDepth 100000 in
theorem Zk156 : Zchk 156 Zt156 := ⟨by decide +kernel, by decide +kernel, Zat_in (hs := [270, 268, 271, 268, 270, 270, 268]) rfl, Zan_in (hs := []) rfl⟩
/-- KnitRiver$Reader.keep(I)V -/
def Zt157 : List Zent := [(0, 1, .aload_n 0, 0, 0, []),
  (1, 3, .getfield 15, 3, 1, []),
  (4, 1, .aload_n 0, 0, 0, []),
  (5, 3, .getfield 9, 3, 0, []),
  (8, 1, .arraylength, 0, 0, []),
  (9, 3, .if_icmp .ge (23), 32, 0, []),
  (12, 1, .aload_n 0, 0, 0, []),
  (13, 3, .getfield 9, 3, 0, []),
  (16, 1, .aload_n 0, 0, 0, []),
  (17, 3, .getfield 15, 3, 1, []),
  (20, 1, .iload_n 1, 1, 0, []),
  (21, 1, .iastore, 0, 0, []),
  (22, 1, .aload_n 0, 0, 0, []),
  (23, 1, .dup, 0, 0, []),
  (24, 3, .getfield 15, 3, 1, []),
  (27, 1, .iconst 1, 1, 0, []),
  (28, 1, .iadd, 0, 0, []),
  (29, 3, .putfield 15, 3, 1, []),
  (32, 1, .return_, 0, 0, [])]
set_option maxRecDepth 100000 in
theorem Zk157 : Zchk 157 Zt157 := ⟨by decide +kernel, by decide +kernel, Zat_in (hs := [266, 264, 264, 266, 266, 266]) rfl, Zan_in (hs := []) rfl⟩
/-- KnitRiver$Reader.part(II)Z -/
def Zt158 : List Zent := [(0, 1, .aload_n 0, 0, 0, []),
  (1, 1, .iload_n 1, 1, 0, []),
  (2, 1, .iload_n 2, 2, 0, []),
  (3, 3, .invokevirtual 40, 159, 3, []),
  (6, 3, .ifCond .ne (5), 11, 0, []),
  (9, 1, .iconst 0, 0, 0, []),
  (10, 1, .ireturn, 0, 0, []),
  (11, 1, .iload_n 1, 1, 0, []),
  (12, 1, .iconst 2, 2, 0, []),
  (13, 3, .if_icmp .ne (7), 20, 0, []),
  (16, 1, .iconst 1, 1, 0, []),
  (17, 3, .goto (5), 22, 0, []),
  (20, 2, .bipush 60, 60, 0, []),
  (22, 1, .istore_n 3, 3, 0, []),
  (23, 1, .iconst 0, 0, 0, []),
  (24, 2, .istore 4, 4, 0, []),
  (26, 2, .iload 4, 4, 0, []),
  (28, 1, .iload_n 3, 3, 0, []),
  (29, 3, .if_icmp .ge (54), 83, 0, []),
  (32, 1, .aload_n 0, 0, 0, []),
  (33, 3, .invokevirtual 43, 156, 3, []),
  (36, 3, .invokestatic 47, 160, 0, []),
  (39, 1, .iload_n 1, 1, 0, []),
  (40, 3, .if_icmp .ne (43), 83, 0, []),
  (43, 1, .aload_n 0, 0, 0, []),
  (44, 3, .invokevirtual 43, 156, 3, []),
  (47, 2, .istore 5, 5, 0, []),
  (49, 1, .aload_n 0, 0, 0, []),
  (50, 1, .dup, 0, 0, []),
  (51, 3, .getfield 19, 3, 2, []),
  (54, 1, .iconst 1, 1, 0, []),
  (55, 1, .iadd, 0, 0, []),
  (56, 3, .putfield 19, 3, 2, []),
  (59, 1, .aload_n 0, 0, 0, []),
  (60, 1, .iload_n 1, 1, 0, []),
  (61, 1, .iload_n 2, 2, 0, []),
  (62, 3, .invokevirtual 40, 159, 3, []),
  (65, 3, .ifCond .ne (5), 70, 0, []),
  (68, 1, .iconst 0, 0, 0, []),
  (69, 1, .ireturn, 0, 0, []),
  (70, 1, .aload_n 0, 0, 0, []),
  (71, 2, .iload 5, 5, 0, []),
  (73, 1, .ineg, 0, 0, []),
  (74, 3, .invokevirtual 51, 157, 3, []),
  (77, 3, .iinc 4 1, 1, 0, [4]),
  (80, 3, .goto (-54), 26, 0, []),
  (83, 1, .iconst 1, 1, 0, []),
  (84, 1, .ireturn, 0, 0, [])]
set_option maxRecDepth 100000 in
theorem Zk158 : Zchk 158 Zt158 := ⟨by decide +kernel, by decide +kernel, Zat_in (hs := [575, 577, 132, 578, 5, 583, 585, 132, 586, 7, 608, 609, 132, 610, 583, 585, 132, 586, 7, 268, 268, 575, 577, 132, 578, 5, 594, 596, 132, 597, 9]) rfl, Zan_in (hs := []) rfl⟩
/-- KnitRiver$Reader.between(II)Z -/
def Zt159 : List Zent := [(0, 1, .iload_n 1, 1, 0, []),
  (1, 1, .iconst 4, 4, 0, []),
  (2, 3, .if_icmp .ge (14), 16, 0, []),
  (5, 1, .aload_n 0, 0, 0, []),
  (6, 1, .iload_n 1, 1, 0, []),
  (7, 1, .iconst 1, 1, 0, []),
  (8, 1, .iadd, 0, 0, []),
  (9, 1, .iload_n 2, 2, 0, []),
  (10, 3, .invokevirtual 36, 158, 3, []),
  (13, 3, .goto (8), 21, 0, []),
  (16, 1, .aload_n 0, 0, 0, []),
  (17, 1, .iload_n 2, 2, 0, []),
  (18, 3, .invokevirtual 55, 161, 3, []),
  (21, 1, .ireturn, 0, 0, [])]
set_option maxRecDepth 100000 in
theorem Zk159 : Zchk 159 Zt159 := ⟨by decide +kernel, by decide +kernel, Zat_in (hs := [571, 573, 132, 574, 4, 579, 581, 132, 582, 6]) rfl, Zan_in (hs := []) rfl⟩
/-- KnitRiver$Reader.levelOf(I)I -/
def Zt160 : List Zent := [(0, 1, .iload_n 0, 0, 0, []),
  (1, 91, .lookupswitch (101) #[(37, 99), (38, 93), (42, 99), (43, 97), (45, 97), (47, 99), (60, 95), (61, 95), (62, 95), (124, 91)], 0, 0, []),
  (92, 1, .iconst 0, 0, 0, []),
  (93, 1, .ireturn, 0, 0, []),
  (94, 1, .iconst 1, 1, 0, []),
  (95, 1, .ireturn, 0, 0, []),
  (96, 1, .iconst 2, 2, 0, []),
  (97, 1, .ireturn, 0, 0, []),
  (98, 1, .iconst 3, 3, 0, []),
  (99, 1, .ireturn, 0, 0, []),
  (100, 1, .iconst 4, 4, 0, []),
  (101, 1, .ireturn, 0, 0, []),
  (102, 1, .iconst (-1), 1, 1, []),
  (103, 1, .ireturn, 0, 0, [])]
set_option maxRecDepth 100000 in
theorem Zk160 : Zchk 160 Zt160 := ⟨by decide +kernel, by decide +kernel, Zat_in (hs := []) rfl, Zan_in (hs := []) rfl⟩
/-- KnitRiver$Reader.piece(I)Z -/
def Zt161 : List Zent := [(0, 1, .aload_n 0, 0, 0, []),
  (1, 3, .invokevirtual 43, 156, 3, []),
  (4, 1, .istore_n 2, 2, 0, []),
  (5, 1, .iload_n 2, 2, 0, []),
  (6, 3, .invokestatic 59, 164, 0, []),
  (9, 3, .ifCond .eq (9), 18, 0, []),
  (12, 1, .aload_n 0, 0, 0, []),
  (13, 3, .invokevirtual 62, 163, 3, []),
  (16, 1, .iconst 1, 1, 0, []),
  (17, 1, .ireturn, 0, 0, []),
  (18, 1, .iload_n 2, 2, 0, []),
  (19, 2, .bipush 33, 33, 0, []),
  (21, 3, .if_icmp .eq (9), 30, 0, []),
  (24, 1, .iload_n 2, 2, 0, []),
  (25, 2, .bipush 40, 40, 0, []),
  (27, 3, .if_icmp .ne (25), 52, 0, []),
  (30, 1, .iload_n 1, 1, 0, []),
  (31, 1, .iconst 5, 5, 0, []),
  (32, 3, .if_icmp .ge (18), 50, 0, []),
  (35, 1, .aload_n 0, 0, 0, []),
  (36, 1, .iload_n 2, 2, 0, []),
  (37, 1, .iload_n 1, 1, 0, []),
  (38, 1, .iconst 1, 1, 0, []),
  (39, 1, .iadd, 0, 0, []),
  (40, 3, .invokevirtual 65, 162, 3, []),
  (43, 3, .ifCond .eq (7), 50, 0, []),
  (46, 1, .iconst 1, 1, 0, []),
  (47, 3, .goto (4), 51, 0, []),
  (50, 1, .iconst 0, 0, 0, []),
  (51, 1, .ireturn, 0, 0, []),
  (52, 1, .aload_n 0, 0, 0, []),
  (53, 1, .iload_n 2, 2, 0, []),
  (54, 3, .invokevirtual 68, 165, 3, []),
  (57, 1, .istore_n 3, 3, 0, []),
  (58, 1, .iload_n 3, 3, 0, []),
  (59, 3, .ifCond .ge (5), 64, 0, []),
  (62, 1, .iconst 0, 0, 0, []),
  (63, 1, .ireturn, 0, 0, []),
  (64, 1, .aload_n 0, 0, 0, []),
  (65, 1, .dup, 0, 0, []),
  (66, 3, .getfield 19, 3, 2, []),
  (69, 1, .iconst 1, 1, 0, []),
  (70, 1, .iadd, 0, 0, []),
  (71, 3, .putfield 19, 3, 2, []),
  (74, 1, .aload_n 0, 0, 0, []),
  (75, 1, .iconst (-1), 1, 1, []),
  (76, 1, .iload_n 3, 3, 0, []),
  (77, 1, .isub, 0, 0, []),
  (78, 3, .invokevirtual 51, 157, 3, []),
  (81, 1, .iconst 1, 1, 0, []),
  (82, 1, .ireturn, 0, 0, [])]
set_option maxRecDepth 100000 in
theorem Zk161 : Zchk 161 Zt161 := ⟨by decide +kernel, by decide +kernel, Zat_in (hs := [583, 585, 132, 586, 7, 587, 588, 132, 589, 590, 592, 132, 593, 8, 598, 600, 132, 601, 10, 602, 604, 132, 605, 11, 268, 268, 594, 596, 132, 597, 9]) rfl, Zan_in (hs := []) rfl⟩
/-- KnitRiver$Reader.opened(II)Z -/
def Zt162 : List Zent := [(0, 1, .aload_n 0, 0, 0, []),
  (1, 1, .dup, 0, 0, []),
  (2, 3, .getfield 19, 3, 2, []),
  (5, 1, .iconst 1, 1, 0, []),
  (6, 1, .iadd, 0, 0, []),
  (7, 3, .putfield 19, 3, 2, []),
  (10, 1, .iload_n 1, 1, 0, []),
  (11, 2, .bipush 33, 33, 0, []),
  (13, 3, .if_icmp .ne (17), 30, 0, []),
  (16, 1, .aload_n 0, 0, 0, []),
  (17, 1, .iload_n 2, 2, 0, []),
  (18, 3, .invokevirtual 55, 161, 3, []),
  (21, 1, .istore_n 3, 3, 0, []),
  (22, 1, .aload_n 0, 0, 0, []),
  (23, 2, .bipush (-33), 33, 1, []),
  (25, 3, .invokevirtual 51, 157, 3, []),
  (28, 1, .iload_n 3, 3, 0, []),
  (29, 1, .ireturn, 0, 0, []),
  (30, 1, .aload_n 0, 0, 0, []),
  (31, 1, .iconst 0, 0, 0, []),
  (32, 1, .iload_n 2, 2, 0, []),
  (33, 3, .invokevirtual 36, 158, 3, []),
  (36, 3, .ifCond .eq (12), 48, 0, []),
  (39, 1, .aload_n 0, 0, 0, []),
  (40, 3, .invokevirtual 43, 156, 3, []),
  (43, 2, .bipush 41, 41, 0, []),
  (45, 3, .if_icmp .eq (5), 50, 0, []),
  (48, 1, .iconst 0, 0, 0, []),
  (49, 1, .ireturn, 0, 0, []),
  (50, 1, .aload_n 0, 0, 0, []),
  (51, 1, .dup, 0, 0, []),
  (52, 3, .getfield 19, 3, 2, []),
  (55, 1, .iconst 1, 1, 0, []),
  (56, 1, .iadd, 0, 0, []),
  (57, 3, .putfield 19, 3, 2, []),
  (60, 1, .iconst 1, 1, 0, []),
  (61, 1, .ireturn, 0, 0, [])]
set_option maxRecDepth 100000 in
theorem Zk162 : Zchk 162 Zt162 := ⟨by decide +kernel, by decide +kernel, Zat_in (hs := [268, 268, 579, 581, 132, 582, 6, 594, 596, 132, 597, 9, 571, 573, 132, 574, 4, 583, 585, 132, 586, 7, 268, 268]) rfl, Zan_in (hs := []) rfl⟩
/-- KnitRiver$Reader.number()V -/
def Zt163 : List Zent := [(0, 1, .iconst 0, 0, 0, []),
  (1, 1, .istore_n 1, 1, 0, []),
  (2, 1, .iconst 0, 0, 0, []),
  (3, 1, .istore_n 2, 2, 0, []),
  (4, 1, .iload_n 2, 2, 0, []),
  (5, 1, .iconst 4, 4, 0, []),
  (6, 3, .if_icmp .ge (42), 48, 0, []),
  (9, 1, .aload_n 0, 0, 0, []),
  (10, 3, .invokevirtual 43, 156, 3, []),
  (13, 3, .invokestatic 59, 164, 0, []),
  (16, 3, .ifCond .eq (32), 48, 0, []),
  (19, 2, .bipush 10, 10, 0, []),
  (21, 1, .iload_n 1, 1, 0, []),
  (22, 1, .imul, 0, 0, []),
  (23, 1, .aload_n 0, 0, 0, []),
  (24, 3, .invokevirtual 43, 156, 3, []),
  (27, 1, .iadd, 0, 0, []),
  (28, 2, .bipush 48, 48, 0, []),
  (30, 1, .isub, 0, 0, []),
  (31, 1, .istore_n 1, 1, 0, []),
  (32, 1, .aload_n 0, 0, 0, []),
  (33, 1, .dup, 0, 0, []),
  (34, 3, .getfield 19, 3, 2, []),
  (37, 1, .iconst 1, 1, 0, []),
  (38, 1, .iadd, 0, 0, []),
  (39, 3, .putfield 19, 3, 2, []),
  (42, 3, .iinc 2 1, 1, 0, [2]),
  (45, 3, .goto (-41), 4, 0, []),
  (48, 1, .aload_n 0, 0, 0, []),
  (49, 1, .iload_n 1, 1, 0, []),
  (50, 3, .invokevirtual 51, 157, 3, []),
  (53, 1, .return_, 0, 0, [])]
set_option maxRecDepth 100000 in
theorem Zk163 : Zchk 163 Zt163 := ⟨by decide +kernel, by decide +kernel, Zat_in (hs := [583, 585, 132, 586, 7, 587, 588, 132, 589, 583, 585, 132, 586, 7, 268, 268, 594, 596, 132, 597, 9]) rfl, Zan_in (hs := []) rfl⟩
/-- KnitRiver$Reader.isDigit(I)Z -/
def Zt164 : List Zent := [(0, 1, .iload_n 0, 0, 0, []),
  (1, 2, .bipush 48, 48, 0, []),
  (3, 3, .if_icmp .lt (13), 16, 0, []),
  (6, 1, .iload_n 0, 0, 0, []),
  (7, 2, .bipush 57, 57, 0, []),
  (9, 3, .if_icmp .gt (7), 16, 0, []),
  (12, 1, .iconst 1, 1, 0, []),
  (13, 3, .goto (4), 17, 0, []),
  (16, 1, .iconst 0, 0, 0, []),
  (17, 1, .ireturn, 0, 0, [])]
set_option maxRecDepth 100000 in
theorem Zk164 : Zchk 164 Zt164 := ⟨by decide +kernel, by decide +kernel, Zat_in (hs := []) rfl, Zan_in (hs := []) rfl⟩
/-- KnitRiver$Reader.nameOf(I)I -/
def Zt165 : List Zent := [(0, 1, .iconst 0, 0, 0, []),
  (1, 1, .istore_n 2, 2, 0, []),
  (2, 1, .iload_n 2, 2, 0, []),
  (3, 1, .iconst 3, 3, 0, []),
  (4, 3, .if_icmp .ge (41), 45, 0, []),
  (7, 1, .iconst 3, 3, 0, []),
  (8, 1, .aload_n 0, 0, 0, []),
  (9, 3, .getfield 29, 3, 5, []),
  (12, 1, .imul, 0, 0, []),
  (13, 1, .iload_n 2, 2, 0, []),
  (14, 1, .iadd, 0, 0, []),
  (15, 1, .istore_n 3, 3, 0, []),
  (16, 1, .iload_n 3, 3, 0, []),
  (17, 3, .ifCond .lt (22), 39, 0, []),
  (20, 1, .iload_n 3, 3, 0, []),
  (21, 3, .getstatic 71, 102, 0, []),
  (24, 1, .arraylength, 0, 0, []),
  (25, 3, .if_icmp .ge (14), 39, 0, []),
  (28, 3, .getstatic 71, 102, 0, []),
  (31, 1, .iload_n 3, 3, 0, []),
  (32, 1, .caload, 0, 0, []),
  (33, 1, .iload_n 1, 1, 0, []),
  (34, 3, .if_icmp .ne (5), 39, 0, []),
  (37, 1, .iload_n 2, 2, 0, []),
  (38, 1, .ireturn, 0, 0, []),
  (39, 3, .iinc 2 1, 1, 0, [2]),
  (42, 3, .goto (-40), 2, 0, []),
  (45, 1, .iconst (-1), 1, 1, []),
  (46, 1, .ireturn, 0, 0, [])]
set_option maxRecDepth 100000 in
theorem Zk165 : Zchk 165 Zt165 := ⟨by decide +kernel, by decide +kernel, Zat_in (hs := [272, 606, 606]) rfl, Zan_in (hs := []) rfl⟩
/-- KnitRiver$River.copy(LKnitRiver$River;)V -/
def Zt167 : List Zent := [(0, 1, .aload_n 1, 1, 0, []),
  (1, 3, .getfield 9, 1, 0, []),
  (4, 1, .iconst 0, 0, 0, []),
  (5, 1, .aload_n 0, 0, 0, []),
  (6, 3, .getfield 9, 1, 0, []),
  (9, 1, .iconst 0, 0, 0, []),
  (10, 2, .bipush 15, 15, 0, []),
  (12, 3, .invokestatic 69, 0, 2, []),
  (15, 1, .aload_n 1, 1, 0, []),
  (16, 3, .getfield 15, 1, 1, []),
  (19, 1, .iconst 0, 0, 0, []),
  (20, 1, .aload_n 0, 0, 0, []),
  (21, 3, .getfield 15, 1, 1, []),
  (24, 1, .iconst 0, 0, 0, []),
  (25, 2, .bipush 15, 15, 0, []),
  (27, 3, .invokestatic 69, 0, 2, []),
  (30, 1, .aload_n 1, 1, 0, []),
  (31, 3, .getfield 18, 1, 2, []),
  (34, 1, .iconst 0, 0, 0, []),
  (35, 1, .aload_n 0, 0, 0, []),
  (36, 3, .getfield 18, 1, 2, []),
  (39, 1, .iconst 0, 0, 0, []),
  (40, 2, .bipush 15, 15, 0, []),
  (42, 3, .invokestatic 69, 0, 2, []),
  (45, 1, .aload_n 1, 1, 0, []),
  (46, 3, .getfield 21, 1, 3, []),
  (49, 1, .iconst 0, 0, 0, []),
  (50, 1, .aload_n 0, 0, 0, []),
  (51, 3, .getfield 21, 1, 3, []),
  (54, 1, .iconst 0, 0, 0, []),
  (55, 2, .bipush 15, 15, 0, []),
  (57, 3, .invokestatic 69, 0, 2, []),
  (60, 1, .aload_n 1, 1, 0, []),
  (61, 3, .getfield 24, 1, 4, []),
  (64, 1, .iconst 0, 0, 0, []),
  (65, 1, .aload_n 0, 0, 0, []),
  (66, 3, .getfield 24, 1, 4, []),
  (69, 1, .iconst 0, 0, 0, []),
  (70, 2, .bipush 15, 15, 0, []),
  (72, 3, .invokestatic 69, 0, 2, []),
  (75, 1, .aload_n 0, 0, 0, []),
  (76, 1, .aload_n 1, 1, 0, []),
  (77, 3, .getfield 27, 1, 5, []),
  (80, 3, .putfield 27, 1, 5, []),
  (83, 1, .aload_n 0, 0, 0, []),
  (84, 1, .aload_n 1, 1, 0, []),
  (85, 3, .getfield 31, 1, 6, []),
  (88, 3, .putfield 31, 1, 6, []),
  (91, 1, .aload_n 0, 0, 0, []),
  (92, 1, .aload_n 1, 1, 0, []),
  (93, 3, .getfield 34, 1, 7, []),
  (96, 3, .putfield 34, 1, 7, []),
  (99, 1, .aload_n 0, 0, 0, []),
  (100, 1, .aload_n 1, 1, 0, []),
  (101, 3, .getfield 37, 1, 8, []),
  (104, 3, .putfield 37, 1, 8, []),
  (107, 1, .aload_n 0, 0, 0, []),
  (108, 1, .aload_n 1, 1, 0, []),
  (109, 3, .getfield 40, 1, 9, []),
  (112, 3, .putfield 40, 1, 9, []),
  (115, 1, .aload_n 0, 0, 0, []),
  (116, 1, .aload_n 1, 1, 0, []),
  (117, 3, .getfield 43, 1, 10, []),
  (120, 3, .putfield 43, 1, 10, []),
  (123, 1, .aload_n 1, 1, 0, []),
  (124, 3, .getfield 46, 1, 11, []),
  (127, 1, .iconst 0, 0, 0, []),
  (128, 1, .aload_n 0, 0, 0, []),
  (129, 3, .getfield 46, 1, 11, []),
  (132, 1, .iconst 0, 0, 0, []),
  (133, 2, .bipush 60, 60, 0, []),
  (135, 3, .invokestatic 69, 0, 2, []),
  (138, 1, .aload_n 0, 0, 0, []),
  (139, 1, .aload_n 1, 1, 0, []),
  (140, 3, .getfield 50, 1, 12, []),
  (143, 3, .putfield 50, 1, 12, []),
  (146, 1, .aload_n 1, 1, 0, []),
  (147, 3, .getfield 53, 1, 13, []),
  (150, 1, .iconst 0, 0, 0, []),
  (151, 1, .aload_n 0, 0, 0, []),
  (152, 3, .getfield 53, 1, 13, []),
  (155, 1, .iconst 0, 0, 0, []),
  (156, 2, .bipush 24, 24, 0, []),
  (158, 3, .invokestatic 69, 0, 2, []),
  (161, 1, .aload_n 0, 0, 0, []),
  (162, 1, .aload_n 1, 1, 0, []),
  (163, 3, .getfield 56, 1, 14, []),
  (166, 3, .putfield 56, 1, 14, []),
  (169, 1, .aload_n 0, 0, 0, []),
  (170, 3, .getfield 61, 1, 15, []),
  (173, 1, .iconst 0, 0, 0, []),
  (174, 1, .aaload, 0, 0, []),
  (175, 1, .aload_n 1, 1, 0, []),
  (176, 3, .getfield 61, 1, 15, []),
  (179, 1, .iconst 0, 0, 0, []),
  (180, 1, .aaload, 0, 0, []),
  (181, 3, .invokevirtual 75, 185, 2, []),
  (184, 1, .aload_n 0, 0, 0, []),
  (185, 3, .getfield 61, 1, 15, []),
  (188, 1, .iconst 1, 1, 0, []),
  (189, 1, .aaload, 0, 0, []),
  (190, 1, .aload_n 1, 1, 0, []),
  (191, 3, .getfield 61, 1, 15, []),
  (194, 1, .iconst 1, 1, 0, []),
  (195, 1, .aaload, 0, 0, []),
  (196, 3, .invokevirtual 75, 185, 2, []),
  (199, 1, .return_, 0, 0, [])]
set_option maxRecDepth 100000 in
theorem Zk167 : Zchk 167 Zt167 := ⟨by decide +kernel, by decide +kernel, Zat_in (hs := [183, 183, 863, 619, 618, 140, 187, 187, 863, 619, 618, 140, 191, 191, 863, 619, 618, 140, 193, 193, 863, 619, 618, 140, 195, 195, 863, 619, 618, 140, 197, 197, 200, 200, 202, 202, 205, 205, 207, 207, 209, 209, 211, 211, 863, 619, 618, 140, 213, 213, 215, 215, 863, 619, 618, 140, 217, 217, 219, 219, 864, 865, 131, 867, 866, 219, 219, 864, 865, 131, 867, 866]) rfl, Zan_in (hs := []) rfl⟩
/-- KnitRiver$River.addRow(III)V -/
def Zt168 : List Zent := [(0, 1, .aload_n 0, 0, 0, []),
  (1, 3, .getfield 27, 1, 5, []),
  (4, 2, .bipush 15, 15, 0, []),
  (6, 3, .if_icmp .ge (69), 75, 0, []),
  (9, 1, .aload_n 0, 0, 0, []),
  (10, 3, .getfield 9, 1, 0, []),
  (13, 1, .aload_n 0, 0, 0, []),
  (14, 3, .getfield 27, 1, 5, []),
  (17, 1, .iload_n 1, 1, 0, []),
  (18, 2, .bipush 10, 10, 0, []),
  (20, 1, .idiv, 0, 0, []),
  (21, 1, .iastore, 0, 0, []),
  (22, 1, .aload_n 0, 0, 0, []),
  (23, 3, .getfield 15, 1, 1, []),
  (26, 1, .aload_n 0, 0, 0, []),
  (27, 3, .getfield 27, 1, 5, []),
  (30, 1, .iload_n 1, 1, 0, []),
  (31, 2, .bipush 10, 10, 0, []),
  (33, 1, .irem, 0, 0, []),
  (34, 1, .iastore, 0, 0, []),
  (35, 1, .aload_n 0, 0, 0, []),
  (36, 3, .getfield 18, 1, 2, []),
  (39, 1, .aload_n 0, 0, 0, []),
  (40, 3, .getfield 27, 1, 5, []),
  (43, 1, .iload_n 2, 2, 0, []),
  (44, 1, .iastore, 0, 0, []),
  (45, 1, .aload_n 0, 0, 0, []),
  (46, 3, .getfield 21, 1, 3, []),
  (49, 1, .aload_n 0, 0, 0, []),
  (50, 3, .getfield 27, 1, 5, []),
  (53, 1, .iload_n 3, 3, 0, []),
  (54, 1, .iastore, 0, 0, []),
  (55, 1, .aload_n 0, 0, 0, []),
  (56, 3, .getfield 24, 1, 4, []),
  (59, 1, .aload_n 0, 0, 0, []),
  (60, 3, .getfield 27, 1, 5, []),
  (63, 1, .iconst 0, 0, 0, []),
  (64, 1, .iastore, 0, 0, []),
  (65, 1, .aload_n 0, 0, 0, []),
  (66, 1, .dup, 0, 0, []),
  (67, 3, .getfield 27, 1, 5, []),
  (70, 1, .iconst 1, 1, 0, []),
  (71, 1, .iadd, 0, 0, []),
  (72, 3, .putfield 27, 1, 5, []),
  (75, 1, .return_, 0, 0, [])]
set_option maxRecDepth 100000 in
theorem Zk168 : Zchk 168 Zt168 := ⟨by decide +kernel, by decide +kernel, Zat_in (hs := [197, 183, 197, 187, 197, 191, 197, 193, 197, 195, 197, 197, 197]) rfl, Zan_in (hs := []) rfl⟩
/-- KnitRiver$River.yarnFor(III)I -/
def Zt169 : List Zent := [(0, 1, .aload_n 0, 0, 0, []),
  (1, 1, .iconst 0, 0, 0, []),
  (2, 1, .iload_n 1, 1, 0, []),
  (3, 1, .iload_n 2, 2, 0, []),
  (4, 1, .iload_n 3, 3, 0, []),
  (5, 1, .aload_n 0, 0, 0, []),
  (6, 3, .getfield 37, 1, 8, []),
  (9, 3, .invokestatic 79, 145, 0, []),
  (12, 1, .iload_n 2, 2, 0, []),
  (13, 1, .iload_n 3, 3, 0, []),
  (14, 3, .invokevirtual 85, 172, 1, []),
  (17, 1, .ireturn, 0, 0, [])]
set_option maxRecDepth 100000 in
theorem Zk169 : Zchk 169 Zt169 := ⟨by decide +kernel, by decide +kernel, Zat_in (hs := [205, 457, 458, 138, 459, 460, 461, 130, 463, 462]) rfl, Zan_in (hs := []) rfl⟩
/-- KnitRiver$River.yarnOf(I)I -/
def Zt170 : List Zent := [(0, 1, .aload_n 0, 0, 0, []),
  (1, 2, .bipush 10, 10, 0, []),
  (3, 1, .aload_n 0, 0, 0, []),
  (4, 3, .getfield 9, 1, 0, []),
  (7, 1, .iload_n 1, 1, 0, []),
  (8, 1, .iaload, 0, 0, []),
  (9, 1, .imul, 0, 0, []),
  (10, 1, .aload_n 0, 0, 0, []),
  (11, 3, .getfield 15, 1, 1, []),
  (14, 1, .iload_n 1, 1, 0, []),
  (15, 1, .iaload, 0, 0, []),
  (16, 1, .iadd, 0, 0, []),
  (17, 1, .aload_n 0, 0, 0, []),
  (18, 3, .getfield 18, 1, 2, []),
  (21, 1, .iload_n 1, 1, 0, []),
  (22, 1, .iaload, 0, 0, []),
  (23, 1, .aload_n 0, 0, 0, []),
  (24, 3, .getfield 21, 1, 3, []),
  (27, 1, .iload_n 1, 1, 0, []),
  (28, 1, .iaload, 0, 0, []),
  (29, 3, .invokevirtual 88, 169, 1, []),
  (32, 1, .ireturn, 0, 0, [])]
set_option maxRecDepth 100000 in
theorem Zk170 : Zchk 170 Zt170 := ⟨by decide +kernel, by decide +kernel, Zat_in (hs := [183, 187, 191, 193, 504, 454, 130, 456, 455]) rfl, Zan_in (hs := []) rfl⟩
/-- KnitRiver$River.holdsOf(II)I -/
def Zt171 : List Zent := [(0, 1, .aload_n 0, 0, 0, []),
  (1, 3, .getfield 21, 1, 3, []),
  (4, 1, .iload_n 1, 1, 0, []),
  (5, 1, .iaload, 0, 0, []),
  (6, 1, .iload_n 2, 2, 0, []),
  (7, 1, .iadd, 0, 0, []),
  (8, 2, .bipush (-9), 9, 1, []),
  (10, 2, .bipush 9, 9, 0, []),
  (12, 3, .invokestatic 92, 47, 1, []),
  (15, 1, .istore_n 3, 3, 0, []),
  (16, 1, .aload_n 0, 0, 0, []),
  (17, 1, .iconst 1, 1, 0, []),
  (18, 1, .aload_n 0, 0, 0, []),
  (19, 3, .getfield 18, 1, 2, []),
  (22, 1, .iload_n 1, 1, 0, []),
  (23, 1, .iaload, 0, 0, []),
  (24, 1, .iload_n 3, 3, 0, []),
  (25, 1, .aload_n 0, 0, 0, []),
  (26, 3, .getfield 9, 1, 0, []),
  (29, 1, .iload_n 1, 1, 0, []),
  (30, 1, .iaload, 0, 0, []),
  (31, 3, .invokevirtual 85, 172, 1, []),
  (34, 1, .ireturn, 0, 0, [])]
set_option maxRecDepth 100000 in
theorem Zk171 : Zchk 171 Zt171 := ⟨by decide +kernel, by decide +kernel, Zat_in (hs := [193, 480, 129, 481, 191, 183, 460, 461, 130, 463, 462]) rfl, Zan_in (hs := [479]) rfl⟩
/-- KnitRiver$River.given(IIII)I -/
def Zt172 : List Zent := [(0, 1, .aload_n 0, 0, 0, []),
  (1, 3, .getfield 61, 1, 15, []),
  (4, 1, .iload_n 1, 1, 0, []),
  (5, 1, .aaload, 0, 0, []),
  (6, 2, .astore 5, 5, 0, []),
  (8, 1, .iload_n 1, 1, 0, []),
  (9, 3, .ifCond .ne (31), 40, 0, []),
  (12, 2, .aload 5, 5, 0, []),
  (14, 3, .getfield 95, 2, 0, []),
  (17, 3, .ifCond .eq (15), 32, 0, []),
  (20, 2, .aload 5, 5, 0, []),
  (22, 1, .iload_n 2, 2, 0, []),
  (23, 1, .iload_n 3, 3, 0, []),
  (24, 2, .iload 4, 4, 0, []),
  (26, 3, .invokevirtual 99, 186, 2, []),
  (29, 3, .goto (4), 33, 0, []),
  (32, 1, .iload_n 2, 2, 0, []),
  (33, 1, .iconst 1, 1, 0, []),
  (34, 2, .bipush 99, 99, 0, []),
  (36, 3, .invokestatic 92, 47, 1, []),
  (39, 1, .ireturn, 0, 0, []),
  (40, 2, .aload 5, 5, 0, []),
  (42, 3, .getfield 95, 2, 0, []),
  (45, 3, .ifCond .eq (22), 67, 0, []),
  (48, 2, .aload 5, 5, 0, []),
  (50, 1, .iload_n 2, 2, 0, []),
  (51, 1, .iload_n 3, 3, 0, []),
  (52, 2, .iload 4, 4, 0, []),
  (54, 3, .invokevirtual 99, 186, 2, []),
  (57, 1, .iconst 0, 0, 0, []),
  (58, 3, .sipush 999, 999, 0, []),
  (61, 3, .invokestatic 92, 47, 1, []),
  (64, 3, .goto (9), 73, 0, []),
  (67, 1, .iload_n 2, 2, 0, []),
  (68, 2, .bipush 10, 10, 0, []),
  (70, 1, .iload_n 3, 3, 0, []),
  (71, 1, .isub, 0, 0, []),
  (72, 1, .imul, 0, 0, []),
  (73, 1, .ireturn, 0, 0, [])]
set_option maxRecDepth 100000 in
theorem Zk172 : Zchk 172 Zt172 := ⟨by decide +kernel, by decide +kernel, Zat_in (hs := [219, 164, 464, 465, 131, 467, 466, 480, 129, 481, 164, 464, 465, 131, 467, 466, 480, 129, 481]) rfl, Zan_in (hs := [479, 479]) rfl⟩
/-- KnitRiver$River.leastHolds()I -/
def Zt173 : List Zent := [(0, 3, .sipush 999, 999, 0, []),
  (3, 1, .istore_n 1, 1, 0, []),
  (4, 1, .iconst 0, 0, 0, []),
  (5, 1, .istore_n 2, 2, 0, []),
  (6, 1, .iload_n 2, 2, 0, []),
  (7, 1, .aload_n 0, 0, 0, []),
  (8, 3, .getfield 27, 1, 5, []),
  (11, 3, .if_icmp .ge (20), 31, 0, []),
  (14, 1, .iload_n 1, 1, 0, []),
  (15, 1, .aload_n 0, 0, 0, []),
  (16, 1, .iload_n 2, 2, 0, []),
  (17, 1, .iconst 0, 0, 0, []),
  (18, 3, .invokevirtual 102, 171, 1, []),
  (21, 3, .invokestatic 106, 201, 0, []),
  (24, 1, .istore_n 1, 1, 0, []),
  (25, 3, .iinc 2 1, 1, 0, [2]),
  (28, 3, .goto (-22), 6, 0, []),
  (31, 1, .iload_n 1, 1, 0, []),
  (32, 1, .ireturn, 0, 0, [])]
set_option maxRecDepth 100000 in
theorem Zk173 : Zchk 173 Zt173 := ⟨by decide +kernel, by decide +kernel, Zat_in (hs := [197, 660, 506, 130, 508, 507, 550, 483, 139, 484]) rfl, Zan_in (hs := []) rfl⟩
/-- KnitRiver$River.undo(I)I -/
def Zt174 : List Zent := [(0, 1, .iconst 0, 0, 0, []),
  (1, 1, .istore_n 2, 2, 0, []),
  (2, 1, .aload_n 0, 0, 0, []),
  (3, 3, .getfield 27, 1, 5, []),
  (6, 1, .iconst 1, 1, 0, []),
  (7, 1, .isub, 0, 0, []),
  (8, 1, .istore_n 3, 3, 0, []),
  (9, 1, .iload_n 3, 3, 0, []),
  (10, 1, .iload_n 1, 1, 0, []),
  (11, 3, .if_icmp .lt (46), 57, 0, []),
  (14, 1, .aload_n 0, 0, 0, []),
  (15, 3, .getfield 24, 1, 4, []),
  (18, 1, .iload_n 3, 3, 0, []),
  (19, 1, .iaload, 0, 0, []),
  (20, 3, .ifCond .ne (37), 57, 0, []),
  (23, 1, .aload_n 0, 0, 0, []),
  (24, 3, .sipush 9999, 9999, 0, []),
  (27, 1, .aload_n 0, 0, 0, []),
  (28, 3, .getfield 31, 1, 6, []),
  (31, 1, .aload_n 0, 0, 0, []),
  (32, 1, .iload_n 3, 3, 0, []),
  (33, 3, .invokevirtual 111, 170, 1, []),
  (36, 1, .iadd, 0, 0, []),
  (37, 3, .invokestatic 106, 201, 0, []),
  (40, 3, .putfield 31, 1, 6, []),
  (43, 1, .aload_n 0, 0, 0, []),
  (44, 1, .iload_n 3, 3, 0, []),
  (45, 3, .putfield 27, 1, 5, []),
  (48, 3, .iinc 2 1, 1, 0, [2]),
  (51, 3, .iinc 3 (-1), 1, 1, [3]),
  (54, 3, .goto (-45), 9, 0, []),
  (57, 1, .iload_n 2, 2, 0, []),
  (58, 1, .ireturn, 0, 0, [])]
set_option maxRecDepth 100000 in
theorem Zk174 : Zchk 174 Zt174 := ⟨by decide +kernel, by decide +kernel, Zat_in (hs := [197, 195, 200, 549, 501, 130, 503, 502, 550, 483, 139, 484, 200, 197]) rfl, Zan_in (hs := []) rfl⟩
/-- KnitRiver$River.waters(II)I -/
def Zt175 : List Zent := [(0, 1, .iconst 0, 0, 0, []),
  (1, 1, .istore_n 3, 3, 0, []),
  (2, 1, .aload_n 0, 0, 0, []),
  (3, 3, .getfield 65, 1, 16, []),
  (6, 1, .iconst 0, 0, 0, []),
  (7, 1, .iload_n 1, 1, 0, []),
  (8, 1, .iastore, 0, 0, []),
  (9, 1, .iconst 0, 0, 0, []),
  (10, 2, .istore 4, 4, 0, []),
  (12, 2, .iload 4, 4, 0, []),
  (14, 1, .aload_n 0, 0, 0, []),
  (15, 3, .getfield 27, 1, 5, []),
  (18, 3, .if_icmp .ge (58), 76, 0, []),
  (21, 1, .aload_n 0, 0, 0, []),
  (22, 2, .iload 4, 4, 0, []),
  (24, 1, .iload_n 2, 2, 0, []),
  (25, 3, .invokevirtual 102, 171, 1, []),
  (28, 2, .istore 5, 5, 0, []),
  (30, 1, .aload_n 0, 0, 0, []),
  (31, 3, .getfield 65, 1, 16, []),
  (34, 2, .iload 4, 4, 0, []),
  (36, 1, .iaload, 0, 0, []),
  (37, 2, .iload 5, 5, 0, []),
  (39, 3, .if_icmp .le (10), 49, 0, []),
  (42, 1, .iload_n 3, 3, 0, []),
  (43, 1, .iconst 1, 1, 0, []),
  (44, 2, .iload 4, 4, 0, []),
  (46, 1, .ishl, 0, 0, []),
  (47, 1, .ior, 0, 0, []),
  (48, 1, .istore_n 3, 3, 0, []),
  (49, 1, .aload_n 0, 0, 0, []),
  (50, 3, .getfield 65, 1, 16, []),
  (53, 2, .iload 4, 4, 0, []),
  (55, 1, .iconst 1, 1, 0, []),
  (56, 1, .iadd, 0, 0, []),
  (57, 1, .aload_n 0, 0, 0, []),
  (58, 3, .getfield 65, 1, 16, []),
  (61, 2, .iload 4, 4, 0, []),
  (63, 1, .iaload, 0, 0, []),
  (64, 2, .iload 5, 5, 0, []),
  (66, 3, .invokestatic 106, 201, 0, []),
  (69, 1, .iastore, 0, 0, []),
  (70, 3, .iinc 4 1, 1, 0, [4]),
  (73, 3, .goto (-61), 12, 0, []),
  (76, 1, .iload_n 3, 3, 0, []),
  (77, 1, .ireturn, 0, 0, [])]
set_option maxRecDepth 100000 in
theorem Zk175 : Zchk 175 Zt175 := ⟨by decide +kernel, by decide +kernel, Zat_in (hs := [221, 197, 660, 506, 130, 508, 507, 221, 221, 221, 550, 483, 139, 484]) rfl, Zan_in (hs := []) rfl⟩
/-- KnitRiver$River.pass(I)I -/
def Zt176 : List Zent := [(0, 1, .aload_n 0, 0, 0, []),
  (1, 1, .iload_n 1, 1, 0, []),
  (2, 1, .iconst 0, 0, 0, []),
  (3, 3, .invokevirtual 115, 175, 1, []),
  (6, 1, .istore_n 2, 2, 0, []),
  (7, 1, .iconst 0, 0, 0, []),
  (8, 1, .istore_n 3, 3, 0, []),
  (9, 1, .iload_n 3, 3, 0, []),
  (10, 1, .aload_n 0, 0, 0, []),
  (11, 3, .getfield 27, 1, 5, []),
  (14, 3, .if_icmp .ge (68), 82, 0, []),
  (17, 1, .iload_n 2, 2, 0, []),
  (18, 1, .iload_n 3, 3, 0, []),
  (19, 1, .iushr, 0, 0, []),
  (20, 1, .iconst 1, 1, 0, []),
  (21, 1, .iand, 0, 0, []),
  (22, 1, .iconst 1, 1, 0, []),
  (23, 3, .if_icmp .ne (25), 48, 0, []),
  (26, 1, .aload_n 0, 0, 0, []),
  (27, 3, .getfield 21, 1, 3, []),
  (30, 1, .iload_n 3, 3, 0, []),
  (31, 2, .bipush (-9), 9, 1, []),
  (33, 1, .aload_n 0, 0, 0, []),
  (34, 3, .getfield 21, 1, 3, []),
  (37, 1, .iload_n 3, 3, 0, []),
  (38, 1, .iaload, 0, 0, []),
  (39, 1, .iconst 1, 1, 0, []),
  (40, 1, .isub, 0, 0, []),
  (41, 3, .invokestatic 118, 200, 0, []),
  (44, 1, .iastore, 0, 0, []),
  (45, 3, .goto (31), 76, 0, []),
  (48, 1, .aload_n 0, 0, 0, []),
  (49, 3, .getfield 65, 1, 16, []),
  (52, 1, .iload_n 3, 3, 0, []),
  (53, 1, .iaload, 0, 0, []),
  (54, 3, .ifCond .ne (22), 76, 0, []),
  (57, 1, .aload_n 0, 0, 0, []),
  (58, 3, .getfield 21, 1, 3, []),
  (61, 1, .iload_n 3, 3, 0, []),
  (62, 2, .bipush 9, 9, 0, []),
  (64, 1, .aload_n 0, 0, 0, []),
  (65, 3, .getfield 21, 1, 3, []),
  (68, 1, .iload_n 3, 3, 0, []),
  (69, 1, .iaload, 0, 0, []),
  (70, 1, .iconst 1, 1, 0, []),
  (71, 1, .iadd, 0, 0, []),
  (72, 3, .invokestatic 106, 201, 0, []),
  (75, 1, .iastore, 0, 0, []),
  (76, 3, .iinc 3 1, 1, 0, [3]),
  (79, 3, .goto (-70), 9, 0, []),
  (82, 1, .aload_n 0, 0, 0, []),
  (83, 3, .sipush 9999, 9999, 0, []),
  (86, 1, .aload_n 0, 0, 0, []),
  (87, 3, .getfield 40, 1, 9, []),
  (90, 1, .aload_n 0, 0, 0, []),
  (91, 3, .getfield 65, 1, 16, []),
  (94, 1, .aload_n 0, 0, 0, []),
  (95, 3, .getfield 27, 1, 5, []),
  (98, 1, .iaload, 0, 0, []),
  (99, 1, .iadd, 0, 0, []),
  (100, 3, .invokestatic 106, 201, 0, []),
  (103, 3, .putfield 40, 1, 9, []),
  (106, 1, .aload_n 0, 0, 0, []),
  (107, 1, .dup, 0, 0, []),
  (108, 3, .getfield 37, 1, 8, []),
  (111, 1, .iconst 1, 1, 0, []),
  (112, 1, .iadd, 0, 0, []),
  (113, 3, .putfield 37, 1, 8, []),
  (116, 1, .iload_n 2, 2, 0, []),
  (117, 1, .ireturn, 0, 0, [])]
set_option maxRecDepth 100000 in
theorem Zk176 : Zchk 176 Zt176 := ⟨by decide +kernel, by decide +kernel, Zat_in (hs := [656, 657, 130, 659, 658, 197, 193, 193, 661, 486, 139, 487, 221, 193, 193, 550, 483, 139, 484, 207, 221, 197, 550, 483, 139, 484, 207, 205, 205]) rfl, Zan_in (hs := []) rfl⟩
/-- KnitRiver$River.wear()V -/
def Zt177 : List Zent := [(0, 1, .aload_n 0, 0, 0, []),
  (1, 3, .getfield 27, 1, 5, []),
  (4, 3, .ifCond .le (38), 42, 0, []),
  (7, 1, .aload_n 0, 0, 0, []),
  (8, 3, .invokevirtual 121, 178, 1, []),
  (11, 1, .aload_n 0, 0, 0, []),
  (12, 3, .getfield 27, 1, 5, []),
  (15, 1, .irem, 0, 0, []),
  (16, 1, .istore_n 1, 1, 0, []),
  (17, 1, .aload_n 0, 0, 0, []),
  (18, 3, .invokevirtual 121, 178, 1, []),
  (21, 1, .iconst 2, 2, 0, []),
  (22, 1, .irem, 0, 0, []),
  (23, 1, .istore_n 2, 2, 0, []),
  (24, 1, .aload_n 0, 0, 0, []),
  (25, 3, .getfield 18, 1, 2, []),
  (28, 1, .iload_n 1, 1, 0, []),
  (29, 1, .iconst 1, 1, 0, []),
  (30, 1, .aload_n 0, 0, 0, []),
  (31, 3, .getfield 18, 1, 2, []),
  (34, 1, .iload_n 1, 1, 0, []),
  (35, 1, .iaload, 0, 0, []),
  (36, 1, .iload_n 2, 2, 0, []),
  (37, 1, .isub, 0, 0, []),
  (38, 3, .invokestatic 118, 200, 0, []),
  (41, 1, .iastore, 0, 0, []),
  (42, 1, .return_, 0, 0, [])]
set_option maxRecDepth 100000 in
theorem Zk177 : Zchk 177 Zt177 := ⟨by decide +kernel, by decide +kernel, Zat_in (hs := [197, 675, 667, 130, 669, 668, 197, 675, 667, 130, 669, 668, 191, 191, 661, 486, 139, 487]) rfl, Zan_in (hs := []) rfl⟩
/-- KnitRiver$River.draw()I -/
def Zt178 : List Zent := [(0, 1, .aload_n 0, 0, 0, []),
  (1, 1, .aload_n 0, 0, 0, []),
  (2, 3, .getfield 43, 1, 10, []),
  (5, 2, .ldc 125, 1103515245, 0, []),
  (7, 1, .imul, 0, 0, []),
  (8, 3, .sipush 12345, 12345, 0, []),
  (11, 1, .iadd, 0, 0, []),
  (12, 3, .putfield 43, 1, 10, []),
  (15, 1, .aload_n 0, 0, 0, []),
  (16, 3, .getfield 43, 1, 10, []),
  (19, 2, .bipush 8, 8, 0, []),
  (21, 1, .iushr, 0, 0, []),
  (22, 1, .ireturn, 0, 0, [])]
set_option maxRecDepth 100000 in
theorem Zk178 : Zchk 178 Zt178 := ⟨by decide +kernel, by decide +kernel, Zat_in (hs := [209, 670, 209, 209]) rfl, Zan_in (hs := []) rfl⟩
/-- KnitRiver$Sheet.make(II)V -/
def Zt180 : List Zent := [(0, 1, .aload_n 0, 0, 0, []),
  (1, 1, .iload_n 1, 1, 0, []),
  (2, 3, .putfield 15, 7, 1, []),
  (5, 1, .aload_n 0, 0, 0, []),
  (6, 1, .iload_n 2, 2, 0, []),
  (7, 1, .iconst 0, 0, 0, []),
  (8, 2, .bipush 24, 24, 0, []),
  (10, 3, .invokestatic 22, 47, 1, []),
  (13, 3, .putfield 19, 7, 2, []),
  (16, 1, .iconst 0, 0, 0, []),
  (17, 1, .istore_n 3, 3, 0, []),
  (18, 1, .iload_n 3, 3, 0, []),
  (19, 2, .bipush 24, 24, 0, []),
  (21, 3, .if_icmp .ge (16), 37, 0, []),
  (24, 1, .aload_n 0, 0, 0, []),
  (25, 3, .getfield 9, 7, 0, []),
  (28, 1, .iload_n 3, 3, 0, []),
  (29, 1, .iconst 0, 0, 0, []),
  (30, 1, .iastore, 0, 0, []),
  (31, 3, .iinc 3 1, 1, 0, [3]),
  (34, 3, .goto (-16), 18, 0, []),
  (37, 1, .return_, 0, 0, [])]
set_option maxRecDepth 100000 in
theorem Zk180 : Zchk 180 Zt180 := ⟨by decide +kernel, by decide +kernel, Zat_in (hs := [396, 480, 129, 481, 398, 394]) rfl, Zan_in (hs := [825]) rfl⟩
/-- KnitRiver$Sheet.write(II)V -/
def Zt181 : List Zent := [(0, 1, .iload_n 1, 1, 0, []),
  (1, 3, .ifCond .lt (46), 47, 0, []),
  (4, 1, .iload_n 1, 1, 0, []),
  (5, 1, .aload_n 0, 0, 0, []),
  (6, 3, .getfield 19, 7, 2, []),
  (9, 3, .if_icmp .ge (38), 47, 0, []),
  (12, 1, .aload_n 0, 0, 0, []),
  (13, 3, .getfield 9, 7, 0, []),
  (16, 1, .iload_n 1, 1, 0, []),
  (17, 1, .aload_n 0, 0, 0, []),
  (18, 3, .getfield 15, 7, 1, []),
  (21, 2, .bipush 8, 8, 0, []),
  (23, 3, .if_icmp .ne (8), 31, 0, []),
  (26, 1, .iload_n 2, 2, 0, []),
  (27, 1, .i2b, 0, 0, []),
  (28, 3, .goto (18), 46, 0, []),
  (31, 1, .aload_n 0, 0, 0, []),
  (32, 3, .getfield 15, 7, 1, []),
  (35, 2, .bipush 16, 16, 0, []),
  (37, 3, .if_icmp .ne (8), 45, 0, []),
  (40, 1, .iload_n 2, 2, 0, []),
  (41, 1, .i2s, 0, 0, []),
  (42, 3, .goto (4), 46, 0, []),
  (45, 1, .iload_n 2, 2, 0, []),
  (46, 1, .iastore, 0, 0, []),
  (47, 1, .return_, 0, 0, [])]
set_option maxRecDepth 100000 in
theorem Zk181 : Zchk 181 Zt181 := ⟨by decide +kernel, by decide +kernel, Zat_in (hs := [398, 394, 396, 396]) rfl, Zan_in (hs := []) rfl⟩
/-- KnitRiver$Sheet.has(II)Z -/
def Zt182 : List Zent := [(0, 1, .iload_n 1, 1, 0, []),
  (1, 3, .ifCond .lt (29), 30, 0, []),
  (4, 1, .iload_n 2, 2, 0, []),
  (5, 3, .ifCond .lt (25), 30, 0, []),
  (8, 1, .iload_n 2, 2, 0, []),
  (9, 1, .aload_n 0, 0, 0, []),
  (10, 3, .getfield 19, 7, 2, []),
  (13, 3, .if_icmp .gt (17), 30, 0, []),
  (16, 1, .iload_n 1, 1, 0, []),
  (17, 1, .aload_n 0, 0, 0, []),
  (18, 3, .getfield 19, 7, 2, []),
  (21, 1, .iload_n 2, 2, 0, []),
  (22, 1, .isub, 0, 0, []),
  (23, 3, .if_icmp .gt (7), 30, 0, []),
  (26, 1, .iconst 1, 1, 0, []),
  (27, 3, .goto (4), 31, 0, []),
  (30, 1, .iconst 0, 0, 0, []),
  (31, 1, .ireturn, 0, 0, [])]
set_option maxRecDepth 100000 in
theorem Zk182 : Zchk 182 Zt182 := ⟨by decide +kernel, by decide +kernel, Zat_in (hs := [398, 398]) rfl, Zan_in (hs := []) rfl⟩
/-- KnitRiver$Text.take([II)V -/
def Zt184 : List Zent := [(0, 1, .aload_n 0, 0, 0, []),
  (1, 1, .iload_n 2, 2, 0, []),
  (2, 1, .iconst 0, 0, 0, []),
  (3, 2, .bipush 60, 60, 0, []),
  (5, 1, .aload_n 1, 1, 0, []),
  (6, 1, .arraylength, 0, 0, []),
  (7, 3, .invokestatic 29, 201, 0, []),
  (10, 3, .invokestatic 35, 47, 1, []),
  (13, 3, .putfield 19, 2, 2, []),
  (16, 1, .aload_n 1, 1, 0, []),
  (17, 1, .iconst 0, 0, 0, []),
  (18, 1, .aload_n 0, 0, 0, []),
  (19, 3, .getfield 15, 2, 1, []),
  (22, 1, .iconst 0, 0, 0, []),
  (23, 1, .aload_n 0, 0, 0, []),
  (24, 3, .getfield 19, 2, 2, []),
  (27, 3, .invokestatic 39, 0, 2, []),
  (30, 1, .aload_n 0, 0, 0, []),
  (31, 1, .iconst 1, 1, 0, []),
  (32, 3, .putfield 9, 2, 0, []),
  (35, 1, .return_, 0, 0, [])]
set_option maxRecDepth 100000 in
theorem Zk184 : Zchk 184 Zt184 := ⟨by decide +kernel, by decide +kernel, Zat_in (hs := [615, 483, 139, 484, 480, 129, 481, 167, 166, 167, 617, 619, 618, 140, 163]) rfl, Zan_in (hs := [616]) rfl⟩
/-- KnitRiver$Text.copy(LKnitRiver$Text;)V -/
def Zt185 : List Zent := [(0, 1, .aload_n 0, 0, 0, []),
  (1, 1, .aload_n 1, 1, 0, []),
  (2, 3, .getfield 15, 2, 1, []),
  (5, 1, .aload_n 1, 1, 0, []),
  (6, 3, .getfield 19, 2, 2, []),
  (9, 3, .invokevirtual 45, 184, 2, []),
  (12, 1, .aload_n 0, 0, 0, []),
  (13, 1, .aload_n 1, 1, 0, []),
  (14, 3, .getfield 9, 2, 0, []),
  (17, 3, .putfield 9, 2, 0, []),
  (20, 1, .return_, 0, 0, [])]
set_option maxRecDepth 100000 in
theorem Zk185 : Zchk 185 Zt185 := ⟨by decide +kernel, by decide +kernel, Zat_in (hs := [166, 167, 868, 612, 131, 614, 613, 163, 163]) rfl, Zan_in (hs := []) rfl⟩
/-- KnitRiver$Text.workedOut(III)I -/
def Zt186 : List Zent := [(0, 1, .aload_n 0, 0, 0, []),
  (1, 1, .iconst 0, 0, 0, []),
  (2, 3, .putfield 26, 2, 4, []),
  (5, 1, .iconst 0, 0, 0, []),
  (6, 2, .istore 4, 4, 0, []),
  (8, 2, .iload 4, 4, 0, []),
  (10, 1, .aload_n 0, 0, 0, []),
  (11, 3, .getfield 19, 2, 2, []),
  (14, 3, .if_icmp .ge (120), 134, 0, []),
  (17, 1, .aload_n 0, 0, 0, []),
  (18, 3, .getfield 15, 2, 1, []),
  (21, 2, .iload 4, 4, 0, []),
  (23, 1, .iaload, 0, 0, []),
  (24, 2, .istore 5, 5, 0, []),
  (26, 2, .iload 5, 5, 0, []),
  (28, 3, .ifCond .lt (12), 40, 0, []),
  (31, 1, .aload_n 0, 0, 0, []),
  (32, 2, .iload 5, 5, 0, []),
  (34, 3, .invokevirtual 49, 187, 2, []),
  (37, 3, .goto (91), 128, 0, []),
  (40, 2, .iload 5, 5, 0, []),
  (42, 2, .bipush (-3), 3, 1, []),
  (44, 3, .if_icmp .lt (32), 76, 0, []),
  (47, 1, .aload_n 0, 0, 0, []),
  (48, 2, .iload 5, 5, 0, []),
  (50, 1, .iconst (-1), 1, 1, []),
  (51, 3, .if_icmp .ne (7), 58, 0, []),
  (54, 1, .iload_n 1, 1, 0, []),
  (55, 3, .goto (15), 70, 0, []),
  (58, 2, .iload 5, 5, 0, []),
  (60, 2, .bipush (-2), 2, 1, []),
  (62, 3, .if_icmp .ne (7), 69, 0, []),
  (65, 1, .iload_n 2, 2, 0, []),
  (66, 3, .goto (4), 70, 0, []),
  (69, 1, .iload_n 3, 3, 0, []),
  (70, 3, .invokevirtual 49, 187, 2, []),
  (73, 3, .goto (55), 128, 0, []),
  (76, 2, .iload 5, 5, 0, []),
  (78, 2, .bipush (-33), 33, 1, []),
  (80, 3, .if_icmp .ne (22), 102, 0, []),
  (83, 1, .aload_n 0, 0, 0, []),
  (84, 1, .aload_n 0, 0, 0, []),
  (85, 3, .invokevirtual 53, 188, 2, []),
  (88, 3, .ifCond .ne (7), 95, 0, []),
  (91, 1, .iconst 1, 1, 0, []),
  (92, 3, .goto (4), 96, 0, []),
  (95, 1, .iconst 0, 0, 0, []),
  (96, 3, .invokevirtual 49, 187, 2, []),
  (99, 3, .goto (29), 128, 0, []),
  (102, 1, .aload_n 0, 0, 0, []),
  (103, 3, .invokevirtual 53, 188, 2, []),
  (106, 2, .istore 6, 6, 0, []),
  (108, 1, .aload_n 0, 0, 0, []),
  (109, 3, .invokevirtual 53, 188, 2, []),
  (112, 2, .istore 7, 7, 0, []),
  (114, 1, .aload_n 0, 0, 0, []),
  (115, 2, .iload 5, 5, 0, []),
  (117, 1, .ineg, 0, 0, []),
  (118, 2, .iload 7, 7, 0, []),
  (120, 2, .iload 6, 6, 0, []),
  (122, 3, .invokestatic 57, 189, 0, []),
  (125, 3, .invokevirtual 49, 187, 2, []),
  (128, 3, .iinc 4 1, 1, 0, [4]),
  (131, 3, .goto (-123), 8, 0, []),
  (134, 1, .aload_n 0, 0, 0, []),
  (135, 3, .invokevirtual 53, 188, 2, []),
  (138, 1, .ireturn, 0, 0, [])]
set_option maxRecDepth 100000 in
theorem Zk186 : Zchk 186 Zt186 := ⟨by decide +kernel, by decide +kernel, Zat_in (hs := [169, 167, 166, 468, 470, 131, 471, 1, 468, 470, 131, 471, 1, 472, 474, 131, 475, 2, 468, 470, 131, 471, 1, 472, 474, 131, 475, 2, 472, 474, 131, 475, 2, 476, 477, 131, 478, 468, 470, 131, 471, 1, 472, 474, 131, 475, 2]) rfl, Zan_in (hs := []) rfl⟩
/-- KnitRiver$Text.push(I)V -/
def Zt187 : List Zent := [(0, 1, .aload_n 0, 0, 0, []),
  (1, 3, .getfield 26, 2, 4, []),
  (4, 1, .aload_n 0, 0, 0, []),
  (5, 3, .getfield 23, 2, 3, []),
  (8, 1, .arraylength, 0, 0, []),
  (9, 3, .if_icmp .ge (23), 32, 0, []),
  (12, 1, .aload_n 0, 0, 0, []),
  (13, 3, .getfield 23, 2, 3, []),
  (16, 1, .aload_n 0, 0, 0, []),
  (17, 3, .getfield 26, 2, 4, []),
  (20, 1, .iload_n 1, 1, 0, []),
  (21, 1, .iastore, 0, 0, []),
  (22, 1, .aload_n 0, 0, 0, []),
  (23, 1, .dup, 0, 0, []),
  (24, 3, .getfield 26, 2, 4, []),
  (27, 1, .iconst 1, 1, 0, []),
  (28, 1, .iadd, 0, 0, []),
  (29, 3, .putfield 26, 2, 4, []),
  (32, 1, .return_, 0, 0, [])]
set_option maxRecDepth 100000 in
theorem Zk187 : Zchk 187 Zt187 := ⟨by decide +kernel, by decide +kernel, Zat_in (hs := [169, 168, 168, 169, 169, 169]) rfl, Zan_in (hs := []) rfl⟩
/-- KnitRiver$Text.pop()I -/
def Zt188 : List Zent := [(0, 1, .aload_n 0, 0, 0, []),
  (1, 3, .getfield 26, 2, 4, []),
  (4, 3, .ifCond .gt (5), 9, 0, []),
  (7, 1, .iconst 0, 0, 0, []),
  (8, 1, .ireturn, 0, 0, []),
  (9, 1, .aload_n 0, 0, 0, []),
  (10, 1, .dup, 0, 0, []),
  (11, 3, .getfield 26, 2, 4, []),
  (14, 1, .iconst 1, 1, 0, []),
  (15, 1, .isub, 0, 0, []),
  (16, 3, .putfield 26, 2, 4, []),
  (19, 1, .aload_n 0, 0, 0, []),
  (20, 3, .getfield 23, 2, 3, []),
  (23, 1, .aload_n 0, 0, 0, []),
  (24, 3, .getfield 26, 2, 4, []),
  (27, 1, .iaload, 0, 0, []),
  (28, 1, .ireturn, 0, 0, [])]
set_option maxRecDepth 100000 in
theorem Zk188 : Zchk 188 Zt188 := ⟨by decide +kernel, by decide +kernel, Zat_in (hs := [169, 169, 169, 168, 169]) rfl, Zan_in (hs := []) rfl⟩
/-- KnitRiver$Text.joined(III)I -/
def Zt189 : List Zent := [(0, 1, .iload_n 0, 0, 0, []),
  (1, 91, .lookupswitch (188) #[(37, 176), (38, 105), (42, 160), (43, 152), (45, 156), (47, 164), (60, 119), (61, 130), (62, 141), (124, 91)], 0, 0, []),
  (92, 1, .iload_n 1, 1, 0, []),
  (93, 3, .ifCond .ne (7), 100, 0, []),
  (96, 1, .iload_n 2, 2, 0, []),
  (97, 3, .ifCond .eq (7), 104, 0, []),
  (100, 1, .iconst 1, 1, 0, []),
  (101, 3, .goto (4), 105, 0, []),
  (104, 1, .iconst 0, 0, 0, []),
  (105, 1, .ireturn, 0, 0, []),
  (106, 1, .iload_n 1, 1, 0, []),
  (107, 3, .ifCond .eq (11), 118, 0, []),
  (110, 1, .iload_n 2, 2, 0, []),
  (111, 3, .ifCond .eq (7), 118, 0, []),
  (114, 1, .iconst 1, 1, 0, []),
  (115, 3, .goto (4), 119, 0, []),
  (118, 1, .iconst 0, 0, 0, []),
  (119, 1, .ireturn, 0, 0, []),
  (120, 1, .iload_n 1, 1, 0, []),
  (121, 1, .iload_n 2, 2, 0, []),
  (122, 3, .if_icmp .ge (7), 129, 0, []),
  (125, 1, .iconst 1, 1, 0, []),
  (126, 3, .goto (4), 130, 0, []),
  (129, 1, .iconst 0, 0, 0, []),
  (130, 1, .ireturn, 0, 0, []),
  (131, 1, .iload_n 1, 1, 0, []),
  (132, 1, .iload_n 2, 2, 0, []),
  (133, 3, .if_icmp .ne (7), 140, 0, []),
  (136, 1, .iconst 1, 1, 0, []),
  (137, 3, .goto (4), 141, 0, []),
  (140, 1, .iconst 0, 0, 0, []),
  (141, 1, .ireturn, 0, 0, []),
  (142, 1, .iload_n 1, 1, 0, []),
  (143, 1, .iload_n 2, 2, 0, []),
  (144, 3, .if_icmp .le (7), 151, 0, []),
  (147, 1, .iconst 1, 1, 0, []),
  (148, 3, .goto (4), 152, 0, []),
  (151, 1, .iconst 0, 0, 0, []),
  (152, 1, .ireturn, 0, 0, []),
  (153, 1, .iload_n 1, 1, 0, []),
  (154, 1, .iload_n 2, 2, 0, []),
  (155, 1, .iadd, 0, 0, []),
  (156, 1, .ireturn, 0, 0, []),
  (157, 1, .iload_n 1, 1, 0, []),
  (158, 1, .iload_n 2, 2, 0, []),
  (159, 1, .isub, 0, 0, []),
  (160, 1, .ireturn, 0, 0, []),
  (161, 1, .iload_n 1, 1, 0, []),
  (162, 1, .iload_n 2, 2, 0, []),
  (163, 1, .imul, 0, 0, []),
  (164, 1, .ireturn, 0, 0, []),
  (165, 1, .iload_n 2, 2, 0, []),
  (166, 3, .ifCond .ne (7), 173, 0, []),
  (169, 1, .iconst 0, 0, 0, []),
  (170, 3, .goto (6), 176, 0, []),
  (173, 1, .iload_n 1, 1, 0, []),
  (174, 1, .iload_n 2, 2, 0, []),
  (175, 1, .idiv, 0, 0, []),
  (176, 1, .ireturn, 0, 0, []),
  (177, 1, .iload_n 2, 2, 0, []),
  (178, 3, .ifCond .ne (7), 185, 0, []),
  (181, 1, .iconst 0, 0, 0, []),
  (182, 3, .goto (6), 188, 0, []),
  (185, 1, .iload_n 1, 1, 0, []),
  (186, 1, .iload_n 2, 2, 0, []),
  (187, 1, .irem, 0, 0, []),
  (188, 1, .ireturn, 0, 0, []),
  (189, 1, .iconst 0, 0, 0, []),
  (190, 1, .ireturn, 0, 0, [])]
set_option maxRecDepth 100000 in
theorem Zk189 : Zchk 189 Zt189 := ⟨by decide +kernel, by decide +kernel, Zat_in (hs := []) rfl, Zan_in (hs := []) rfl⟩
/-- KnitRiver$Voices.utters(LKnitRiver$River;III)Z -/
def Zt191 : List Zent := [(0, 1, .aload_n 0, 0, 0, []),
  (1, 1, .aload_n 1, 1, 0, []),
  (2, 3, .getfield 39, 1, 0, []),
  (5, 1, .iload_n 2, 2, 0, []),
  (6, 1, .iaload, 0, 0, []),
  (7, 3, .putfield 30, 6, 6, []),
  (10, 1, .aload_n 0, 0, 0, []),
  (11, 1, .iload_n 2, 2, 0, []),
  (12, 3, .putfield 33, 6, 7, []),
  (15, 1, .aload_n 0, 0, 0, []),
  (16, 1, .aload_n 1, 1, 0, []),
  (17, 3, .getfield 43, 1, 1, []),
  (20, 1, .iload_n 2, 2, 0, []),
  (21, 1, .iaload, 0, 0, []),
  (22, 3, .putfield 36, 6, 8, []),
  (25, 1, .aload_n 0, 0, 0, []),
  (26, 1, .iconst 0, 0, 0, []),
  (27, 3, .putfield 23, 6, 4, []),
  (30, 1, .aload_n 0, 0, 0, []),
  (31, 1, .iconst 0, 0, 0, []),
  (32, 3, .putfield 26, 6, 5, []),
  (35, 1, .aload_n 0, 0, 0, []),
  (36, 1, .aload_n 0, 0, 0, []),
  (37, 3, .getfield 30, 6, 6, []),
  (40, 1, .iload_n 3, 3, 0, []),
  (41, 2, .iload 4, 4, 0, []),
  (43, 1, .iconst 0, 0, 0, []),
  (44, 3, .invokevirtual 45, 192, 6, []),
  (47, 2, .istore 5, 5, 0, []),
  (49, 1, .aload_n 0, 0, 0, []),
  (50, 3, .getfield 26, 6, 5, []),
  (53, 3, .ifCond .eq (5), 58, 0, []),
  (56, 1, .iconst 0, 0, 0, []),
  (57, 1, .ireturn, 0, 0, []),
  (58, 1, .aload_n 0, 0, 0, []),
  (59, 2, .iload 5, 5, 0, []),
  (61, 3, .putfield 17, 6, 2, []),
  (64, 1, .aload_n 0, 0, 0, []),
  (65, 1, .aload_n 0, 0, 0, []),
  (66, 3, .getfield 23, 6, 4, []),
  (69, 3, .putfield 13, 6, 1, []),
  (72, 1, .aload_n 0, 0, 0, []),
  (73, 3, .getfield 20, 6, 3, []),
  (76, 1, .iconst 0, 0, 0, []),
  (77, 1, .aload_n 0, 0, 0, []),
  (78, 3, .getfield 9, 6, 0, []),
  (81, 1, .iconst 0, 0, 0, []),
  (82, 1, .aload_n 0, 0, 0, []),
  (83, 3, .getfield 23, 6, 4, []),
  (86, 3, .invokestatic 49, 0, 2, []),
  (89, 1, .iconst 1, 1, 0, []),
  (90, 1, .ireturn, 0, 0, [])]
set_option maxRecDepth 100000 in
theorem Zk191 : Zchk 191 Zt191 := ⟨by decide +kernel, by decide +kernel, Zat_in (hs := [184, 349, 350, 188, 351, 347, 348, 349, 794, 796, 135, 797, 33, 348, 344, 347, 342, 346, 340, 347, 812, 619, 618, 140]) rfl, Zan_in (hs := []) rfl⟩
/-- KnitRiver$Voices.spoken(IIII)I -/
def Zt192 : List Zent := [(0, 1, .iload_n 1, 1, 0, []),
  (1, 1, .iload_n 2, 2, 0, []),
  (2, 3, .invokestatic 55, 193, 0, []),
  (5, 2, .istore 5, 5, 0, []),
  (7, 2, .iload 4, 4, 0, []),
  (9, 2, .bipush 30, 30, 0, []),
  (11, 3, .if_icmp .le (5), 16, 0, []),
  (14, 1, .iconst 0, 0, 0, []),
  (15, 1, .ireturn, 0, 0, []),
  (16, 1, .aload_n 0, 0, 0, []),
  (17, 3, .getfield 23, 6, 4, []),
  (20, 2, .bipush 30, 30, 0, []),
  (22, 3, .if_icmp .ge (24), 46, 0, []),
  (25, 1, .aload_n 0, 0, 0, []),
  (26, 3, .getfield 20, 6, 3, []),
  (29, 1, .aload_n 0, 0, 0, []),
  (30, 3, .getfield 23, 6, 4, []),
  (33, 2, .iload 5, 5, 0, []),
  (35, 1, .iastore, 0, 0, []),
  (36, 1, .aload_n 0, 0, 0, []),
  (37, 1, .dup, 0, 0, []),
  (38, 3, .getfield 23, 6, 4, []),
  (41, 1, .iconst 1, 1, 0, []),
  (42, 1, .iadd, 0, 0, []),
  (43, 3, .putfield 23, 6, 4, []),
  (46, 1, .aload_n 0, 0, 0, []),
  (47, 2, .iload 5, 5, 0, []),
  (49, 1, .iload_n 3, 3, 0, []),
  (50, 2, .iload 4, 4, 0, []),
  (52, 1, .iconst 1, 1, 0, []),
  (53, 1, .iadd, 0, 0, []),
  (54, 3, .invokevirtual 59, 194, 6, []),
  (57, 1, .ireturn, 0, 0, [])]
set_option maxRecDepth 100000 in
theorem Zk192 : Zchk 192 Zt192 := ⟨by decide +kernel, by decide +kernel, Zat_in (hs := [798, 799, 135, 800, 347, 346, 347, 347, 347, 804, 806, 135, 807, 34]) rfl, Zan_in (hs := []) rfl⟩
/-- KnitRiver$Voices.bodyOf(II)I -/
def Zt193 : List Zent := [(0, 1, .iload_n 0, 0, 0, []),
  (1, 1, .istore_n 2, 2, 0, []),
  (2, 1, .iconst 0, 0, 0, []),
  (3, 1, .istore_n 3, 3, 0, []),
  (4, 1, .iload_n 3, 3, 0, []),
  (5, 2, .bipush 6, 6, 0, []),
  (7, 3, .if_icmp .gt (57), 64, 0, []),
  (10, 1, .iconst 4, 4, 0, []),
  (11, 1, .iload_n 2, 2, 0, []),
  (12, 1, .imul, 0, 0, []),
  (13, 1, .iload_n 1, 1, 0, []),
  (14, 1, .iadd, 0, 0, []),
  (15, 2, .istore 4, 4, 0, []),
  (17, 1, .iload_n 2, 2, 0, []),
  (18, 3, .ifCond .lt (17), 35, 0, []),
  (21, 2, .iload 4, 4, 0, []),
  (23, 3, .ifCond .lt (12), 35, 0, []),
  (26, 2, .iload 4, 4, 0, []),
  (28, 3, .getstatic 65, 103, 0, []),
  (31, 1, .arraylength, 0, 0, []),
  (32, 3, .if_icmp .lt (5), 37, 0, []),
  (35, 1, .iconst 0, 0, 0, []),
  (36, 1, .ireturn, 0, 0, []),
  (37, 3, .getstatic 65, 103, 0, []),
  (40, 2, .iload 4, 4, 0, []),
  (42, 1, .iaload, 0, 0, []),
  (43, 3, .ifCond .eq (10), 53, 0, []),
  (46, 3, .getstatic 65, 103, 0, []),
  (49, 2, .iload 4, 4, 0, []),
  (51, 1, .iaload, 0, 0, []),
  (52, 1, .ireturn, 0, 0, []),
  (53, 1, .iload_n 2, 2, 0, []),
  (54, 3, .invokestatic 68, 143, 0, []),
  (57, 1, .istore_n 2, 2, 0, []),
  (58, 3, .iinc 3 1, 1, 0, [3]),
  (61, 3, .goto (-57), 4, 0, []),
  (64, 1, .iconst 0, 0, 0, []),
  (65, 1, .ireturn, 0, 0, [])]
set_option maxRecDepth 100000 in
theorem Zk193 : Zchk 193 Zt193 := ⟨by decide +kernel, by decide +kernel, Zat_in (hs := [801, 801, 801, 803, 524, 138, 525]) rfl, Zan_in (hs := []) rfl⟩
/-- KnitRiver$Voices.workedOut(III)I -/
def Zt194 : List Zent := [(0, 1, .iload_n 1, 1, 0, []),
  (1, 2, .bipush 10, 10, 0, []),
  (3, 1, .idiv, 0, 0, []),
  (4, 1, .iconst 1, 1, 0, []),
  (5, 1, .isub, 0, 0, []),
  (6, 3, .invokestatic 68, 143, 0, []),
  (9, 2, .istore 4, 4, 0, []),
  (11, 1, .iload_n 1, 1, 0, []),
  (12, 116, .lookupswitch (284) #[(10, 116), (11, 123), (12, 137), (13, 154), (20, 169), (21, 181), (30, 203), (40, 215), (50, 227), (51, 239), (60, 254), (70, 266), (71, 269)], 0, 0, []),
  (128, 1, .iload_n 2, 2, 0, []),
  (129, 1, .aload_n 0, 0, 0, []),
  (130, 3, .getfield 33, 6, 7, []),
  (133, 1, .iadd, 0, 0, []),
  (134, 1, .ireturn, 0, 0, []),
  (135, 1, .aload_n 0, 0, 0, []),
  (136, 1, .aload_n 0, 0, 0, []),
  (137, 3, .getfield 30, 6, 6, []),
  (140, 1, .iconst 0, 0, 0, []),
  (141, 1, .iload_n 2, 2, 0, []),
  (142, 1, .iload_n 3, 3, 0, []),
  (143, 3, .invokevirtual 45, 192, 6, []),
  (146, 1, .iconst 2, 2, 0, []),
  (147, 1, .imul, 0, 0, []),
  (148, 1, .ireturn, 0, 0, []),
  (149, 1, .aload_n 0, 0, 0, []),
  (150, 1, .aload_n 0, 0, 0, []),
  (151, 3, .getfield 30, 6, 6, []),
  (154, 1, .iconst 1, 1, 0, []),
  (155, 1, .iload_n 2, 2, 0, []),
  (156, 1, .iload_n 3, 3, 0, []),
  (157, 3, .invokevirtual 45, 192, 6, []),
  (160, 1, .aload_n 0, 0, 0, []),
  (161, 3, .getfield 36, 6, 8, []),
  (164, 1, .isub, 0, 0, []),
  (165, 1, .ireturn, 0, 0, []),
  (166, 1, .aload_n 0, 0, 0, []),
  (167, 1, .iload_n 2, 2, 0, []),
  (168, 1, .aload_n 0, 0, 0, []),
  (169, 3, .getfield 36, 6, 8, []),
  (172, 1, .aload_n 0, 0, 0, []),
  (173, 3, .getfield 33, 6, 7, []),
  (176, 1, .isub, 0, 0, []),
  (177, 3, .invokevirtual 72, 195, 6, []),
  (180, 1, .ireturn, 0, 0, []),
  (181, 1, .aload_n 0, 0, 0, []),
  (182, 2, .iload 4, 4, 0, []),
  (184, 1, .iconst 0, 0, 0, []),
  (185, 1, .iload_n 2, 2, 0, []),
  (186, 1, .iload_n 3, 3, 0, []),
  (187, 3, .invokevirtual 45, 192, 6, []),
  (190, 1, .iconst 4, 4, 0, []),
  (191, 1, .isub, 0, 0, []),
  (192, 1, .ireturn, 0, 0, []),
  (193, 1, .aload_n 0, 0, 0, []),
  (194, 2, .iload 4, 4, 0, []),
  (196, 1, .iconst 3, 3, 0, []),
  (197, 1, .iload_n 2, 2, 0, []),
  (198, 1, .iload_n 3, 3, 0, []),
  (199, 3, .invokevirtual 45, 192, 6, []),
  (202, 1, .aload_n 0, 0, 0, []),
  (203, 1, .aload_n 0, 0, 0, []),
  (204, 3, .getfield 30, 6, 6, []),
  (207, 1, .iconst 1, 1, 0, []),
  (208, 1, .iconst 1, 1, 0, []),
  (209, 1, .iload_n 3, 3, 0, []),
  (210, 3, .invokevirtual 45, 192, 6, []),
  (213, 1, .iadd, 0, 0, []),
  (214, 1, .ireturn, 0, 0, []),
  (215, 1, .iconst 0, 0, 0, []),
  (216, 1, .aload_n 0, 0, 0, []),
  (217, 2, .iload 4, 4, 0, []),
  (219, 1, .iconst 1, 1, 0, []),
  (220, 1, .iload_n 2, 2, 0, []),
  (221, 1, .iload_n 3, 3, 0, []),
  (222, 3, .invokevirtual 45, 192, 6, []),
  (225, 1, .isub, 0, 0, []),
  (226, 1, .ireturn, 0, 0, []),
  (227, 1, .aload_n 0, 0, 0, []),
  (228, 2, .iload 4, 4, 0, []),
  (230, 1, .iconst 2, 2, 0, []),
  (231, 1, .iload_n 2, 2, 0, []),
  (232, 1, .iconst 2, 2, 0, []),
  (233, 1, .idiv, 0, 0, []),
  (234, 1, .iload_n 3, 3, 0, []),
  (235, 3, .invokevirtual 45, 192, 6, []),
  (238, 1, .ireturn, 0, 0, []),
  (239, 1, .aload_n 0, 0, 0, []),
  (240, 2, .iload 4, 4, 0, []),
  (242, 1, .iconst 0, 0, 0, []),
  (243, 1, .iload_n 2, 2, 0, []),
  (244, 1, .iload_n 3, 3, 0, []),
  (245, 3, .invokevirtual 45, 192, 6, []),
  (248, 1, .iconst 3, 3, 0, []),
  (249, 1, .imul, 0, 0, []),
  (250, 1, .ireturn, 0, 0, []),
  (251, 1, .aload_n 0, 0, 0, []),
  (252, 2, .iload 4, 4, 0, []),
  (254, 1, .iconst 2, 2, 0, []),
  (255, 1, .iload_n 2, 2, 0, []),
  (256, 1, .iload_n 3, 3, 0, []),
  (257, 3, .invokevirtual 45, 192, 6, []),
  (260, 1, .aload_n 0, 0, 0, []),
  (261, 3, .getfield 33, 6, 7, []),
  (264, 1, .ixor, 0, 0, []),
  (265, 1, .ireturn, 0, 0, []),
  (266, 1, .aload_n 0, 0, 0, []),
  (267, 2, .iload 4, 4, 0, []),
  (269, 1, .iconst 1, 1, 0, []),
  (270, 1, .iload_n 2, 2, 0, []),
  (271, 1, .iconst 1, 1, 0, []),
  (272, 1, .iadd, 0, 0, []),
  (273, 1, .iload_n 3, 3, 0, []),
  (274, 3, .invokevirtual 45, 192, 6, []),
  (277, 1, .ireturn, 0, 0, []),
  (278, 2, .bipush 9, 9, 0, []),
  (280, 1, .ireturn, 0, 0, []),
  (281, 1, .aload_n 0, 0, 0, []),
  (282, 2, .iload 4, 4, 0, []),
  (284, 1, .iconst 1, 1, 0, []),
  (285, 1, .iload_n 2, 2, 0, []),
  (286, 1, .iload_n 3, 3, 0, []),
  (287, 3, .invokevirtual 45, 192, 6, []),
  (290, 1, .aload_n 0, 0, 0, []),
  (291, 3, .getfield 36, 6, 8, []),
  (294, 1, .iadd, 0, 0, []),
  (295, 1, .ireturn, 0, 0, []),
  (296, 1, .iconst 0, 0, 0, []),
  (297, 1, .ireturn, 0, 0, [])]
set_option maxRecDepth 100000 in
theorem Zk194 : Zchk 194 Zt194 := ⟨by decide +kernel, by decide +kernel, Zat_in (hs := [803, 524, 138, 525, 350, 349, 794, 796, 135, 797, 33, 349, 794, 796, 135, 797, 33, 351, 351, 350, 808, 810, 135, 811, 35, 794, 796, 135, 797, 33, 794, 796, 135, 797, 33, 349, 794, 796, 135, 797, 33, 794, 796, 135, 797, 33, 794, 796, 135, 797, 33, 794, 796, 135, 797, 33, 794, 796, 135, 797, 33, 350, 794, 796, 135, 797, 33, 794, 796, 135, 797, 33, 351]) rfl, Zan_in (hs := []) rfl⟩
/-- KnitRiver$Voices.partedBy(II)I -/
def Zt195 : List Zent := [(0, 1, .iload_n 2, 2, 0, []),
  (1, 3, .ifCond .ne (10), 11, 0, []),
  (4, 1, .aload_n 0, 0, 0, []),
  (5, 1, .iconst 1, 1, 0, []),
  (6, 3, .putfield 26, 6, 5, []),
  (9, 1, .iconst 0, 0, 0, []),
  (10, 1, .ireturn, 0, 0, []),
  (11, 1, .iload_n 1, 1, 0, []),
  (12, 1, .iload_n 2, 2, 0, []),
  (13, 1, .idiv, 0, 0, []),
  (14, 1, .ireturn, 0, 0, [])]
set_option maxRecDepth 100000 in
theorem Zk195 : Zchk 195 Zt195 := ⟨by decide +kernel, by decide +kernel, Zat_in (hs := [348]) rfl, Zan_in (hs := []) rfl⟩
/-- KnitRiverLaw.law([I)Z -/
def Zt196_0 : List Zent := [(0, 3, .new 7, 0, 0, []),
  (3, 1, .dup, 0, 0, []),
  (4, 3, .invokespecial 9, 0, 0, []),
  (7, 1, .astore_n 1, 1, 0, []),
  (8, 3, .new 10, 0, 0, []),
  (11, 1, .dup, 0, 0, []),
  (12, 3, .invokespecial 12, 49, 0, []),
  (15, 1, .astore_n 2, 2, 0, []),
  (16, 1, .iconst 0, 0, 0, []),
  (17, 1, .istore_n 3, 3, 0, []),
  (18, 1, .iload_n 3, 3, 0, []),
  (19, 1, .aload_n 0, 0, 0, []),
  (20, 1, .arraylength, 0, 0, []),
  (21, 2, .bipush 6, 6, 0, []),
  (23, 1, .isub, 0, 0, []),
  (24, 3, .if_icmp .gt (1282), 1306, 0, []),
  (27, 1, .aload_n 0, 0, 0, []),
  (28, 1, .iload_n 3, 3, 0, []),
  (29, 1, .iaload, 0, 0, []),
  (30, 2, .bipush 63, 63, 0, []),
  (32, 1, .iand, 0, 0, []),
  (33, 159, .tableswitch (1267) 0 35 #[159, 202, 235, 268, 301, 334, 357, 390, 413, 446, 509, 532, 555, 608, 631, 654, 677, 720, 753, 766, 809, 842, 865, 898, 941, 964, 1007, 1050, 1113, 1136, 1159, 1172, 1185, 1208, 1221, 1244], 0, 0, []),
  (192, 1, .aload_n 1, 1, 0, []),
  (193, 1, .aload_n 0, 0, 0, []),
  (194, 1, .iload_n 3, 3, 0, []),
  (195, 1, .iconst 1, 1, 0, []),
  (196, 1, .iadd, 0, 0, []),
  (197, 1, .iaload, 0, 0, []),
  (198, 1, .aload_n 0, 0, 0, []),
  (199, 1, .iload_n 3, 3, 0, []),
  (200, 1, .iconst 2, 2, 0, []),
  (201, 1, .iadd, 0, 0, []),
  (202, 1, .iaload, 0, 0, []),
  (203, 1, .aload_n 0, 0, 0, []),
  (204, 1, .iload_n 3, 3, 0, []),
  (205, 1, .iconst 3, 3, 0, []),
  (206, 1, .iadd, 0, 0, []),
  (207, 1, .iaload, 0, 0, []),
  (208, 3, .invokevirtual 13, 1, 0, []),
  (211, 1, .pop, 0, 0, []),
  (212, 1, .aload_n 2, 2, 0, []),
  (213, 1, .aload_n 0, 0, 0, []),
  (214, 1, .iload_n 3, 3, 0, []),
  (215, 1, .iconst 1, 1, 0, []),
  (216, 1, .iadd, 0, 0, []),
  (217, 1, .iaload, 0, 0, []),
  (218, 1, .aload_n 0, 0, 0, []),
  (219, 1, .iload_n 3, 3, 0, []),
  (220, 1, .iconst 2, 2, 0, []),
  (221, 1, .iadd, 0, 0, []),
  (222, 1, .iaload, 0, 0, []),
  (223, 1, .aload_n 0, 0, 0, []),
  (224, 1, .iload_n 3, 3, 0, []),
  (225, 1, .iconst 3, 3, 0, []),
  (226, 1, .iadd, 0, 0, []),
  (227, 1, .iaload, 0, 0, []),
  (228, 3, .invokevirtual 17, 89, 8, []),
  (231, 1, .pop, 0, 0, []),
  (232, 3, .goto (1068), 1300, 0, []),
  (235, 1, .aload_n 1, 1, 0, [])]
def Zt196_1 : List Zent := [(236, 1, .aload_n 0, 0, 0, []),
  (237, 1, .iload_n 3, 3, 0, []),
  (238, 1, .iconst 1, 1, 0, []),
  (239, 1, .iadd, 0, 0, []),
  (240, 1, .iaload, 0, 0, []),
  (241, 1, .aload_n 0, 0, 0, []),
  (242, 1, .iload_n 3, 3, 0, []),
  (243, 1, .iconst 2, 2, 0, []),
  (244, 1, .iadd, 0, 0, []),
  (245, 1, .iaload, 0, 0, []),
  (246, 3, .invokevirtual 18, 2, 0, []),
  (249, 1, .pop, 0, 0, []),
  (250, 1, .aload_n 2, 2, 0, []),
  (251, 1, .aload_n 0, 0, 0, []),
  (252, 1, .iload_n 3, 3, 0, []),
  (253, 1, .iconst 1, 1, 0, []),
  (254, 1, .iadd, 0, 0, []),
  (255, 1, .iaload, 0, 0, []),
  (256, 1, .aload_n 0, 0, 0, []),
  (257, 1, .iload_n 3, 3, 0, []),
  (258, 1, .iconst 2, 2, 0, []),
  (259, 1, .iadd, 0, 0, []),
  (260, 1, .iaload, 0, 0, []),
  (261, 3, .invokevirtual 22, 90, 8, []),
  (264, 1, .pop, 0, 0, []),
  (265, 3, .goto (1035), 1300, 0, []),
  (268, 1, .aload_n 1, 1, 0, []),
  (269, 1, .aload_n 0, 0, 0, []),
  (270, 1, .iload_n 3, 3, 0, []),
  (271, 1, .iconst 1, 1, 0, []),
  (272, 1, .iadd, 0, 0, []),
  (273, 1, .iaload, 0, 0, []),
  (274, 1, .aload_n 0, 0, 0, []),
  (275, 1, .iload_n 3, 3, 0, []),
  (276, 1, .iconst 2, 2, 0, []),
  (277, 1, .iadd, 0, 0, []),
  (278, 1, .iaload, 0, 0, []),
  (279, 3, .invokevirtual 23, 3, 0, []),
  (282, 1, .pop, 0, 0, []),
  (283, 1, .aload_n 2, 2, 0, []),
  (284, 1, .aload_n 0, 0, 0, []),
  (285, 1, .iload_n 3, 3, 0, []),
  (286, 1, .iconst 1, 1, 0, []),
  (287, 1, .iadd, 0, 0, []),
  (288, 1, .iaload, 0, 0, []),
  (289, 1, .aload_n 0, 0, 0, []),
  (290, 1, .iload_n 3, 3, 0, []),
  (291, 1, .iconst 2, 2, 0, []),
  (292, 1, .iadd, 0, 0, []),
  (293, 1, .iaload, 0, 0, []),
  (294, 3, .invokevirtual 26, 91, 8, []),
  (297, 1, .pop, 0, 0, []),
  (298, 3, .goto (1002), 1300, 0, []),
  (301, 1, .aload_n 1, 1, 0, []),
  (302, 1, .aload_n 0, 0, 0, []),
  (303, 1, .iload_n 3, 3, 0, []),
  (304, 1, .iconst 1, 1, 0, []),
  (305, 1, .iadd, 0, 0, []),
  (306, 1, .iaload, 0, 0, []),
  (307, 1, .aload_n 0, 0, 0, [])]
def Zt196_2 : List Zent := [(308, 1, .iload_n 3, 3, 0, []),
  (309, 1, .iconst 2, 2, 0, []),
  (310, 1, .iadd, 0, 0, []),
  (311, 1, .iaload, 0, 0, []),
  (312, 3, .invokevirtual 27, 4, 0, []),
  (315, 1, .pop, 0, 0, []),
  (316, 1, .aload_n 2, 2, 0, []),
  (317, 1, .aload_n 0, 0, 0, []),
  (318, 1, .iload_n 3, 3, 0, []),
  (319, 1, .iconst 1, 1, 0, []),
  (320, 1, .iadd, 0, 0, []),
  (321, 1, .iaload, 0, 0, []),
  (322, 1, .aload_n 0, 0, 0, []),
  (323, 1, .iload_n 3, 3, 0, []),
  (324, 1, .iconst 2, 2, 0, []),
  (325, 1, .iadd, 0, 0, []),
  (326, 1, .iaload, 0, 0, []),
  (327, 3, .invokevirtual 30, 92, 8, []),
  (330, 1, .pop, 0, 0, []),
  (331, 3, .goto (969), 1300, 0, []),
  (334, 1, .aload_n 1, 1, 0, []),
  (335, 1, .aload_n 0, 0, 0, []),
  (336, 1, .iload_n 3, 3, 0, []),
  (337, 1, .iconst 1, 1, 0, []),
  (338, 1, .iadd, 0, 0, []),
  (339, 1, .iaload, 0, 0, []),
  (340, 1, .aload_n 0, 0, 0, []),
  (341, 1, .iload_n 3, 3, 0, []),
  (342, 1, .iconst 2, 2, 0, []),
  (343, 1, .iadd, 0, 0, []),
  (344, 1, .iaload, 0, 0, []),
  (345, 3, .invokevirtual 31, 5, 0, []),
  (348, 1, .pop, 0, 0, []),
  (349, 1, .aload_n 2, 2, 0, []),
  (350, 1, .aload_n 0, 0, 0, []),
  (351, 1, .iload_n 3, 3, 0, []),
  (352, 1, .iconst 1, 1, 0, []),
  (353, 1, .iadd, 0, 0, []),
  (354, 1, .iaload, 0, 0, []),
  (355, 1, .aload_n 0, 0, 0, []),
  (356, 1, .iload_n 3, 3, 0, []),
  (357, 1, .iconst 2, 2, 0, []),
  (358, 1, .iadd, 0, 0, []),
  (359, 1, .iaload, 0, 0, []),
  (360, 3, .invokevirtual 34, 93, 8, []),
  (363, 1, .pop, 0, 0, []),
  (364, 3, .goto (936), 1300, 0, []),
  (367, 1, .aload_n 1, 1, 0, []),
  (368, 1, .aload_n 0, 0, 0, []),
  (369, 1, .iload_n 3, 3, 0, []),
  (370, 1, .iconst 1, 1, 0, []),
  (371, 1, .iadd, 0, 0, []),
  (372, 1, .iaload, 0, 0, []),
  (373, 3, .invokevirtual 35, 6, 0, []),
  (376, 1, .pop, 0, 0, []),
  (377, 1, .aload_n 2, 2, 0, []),
  (378, 1, .aload_n 0, 0, 0, []),
  (379, 1, .iload_n 3, 3, 0, []),
  (380, 1, .iconst 1, 1, 0, []),
  (381, 1, .iadd, 0, 0, [])]
def Zt196_3 : List Zent := [(382, 1, .iaload, 0, 0, []),
  (383, 3, .invokevirtual 39, 94, 8, []),
  (386, 1, .pop, 0, 0, []),
  (387, 3, .goto (913), 1300, 0, []),
  (390, 1, .aload_n 1, 1, 0, []),
  (391, 1, .aload_n 0, 0, 0, []),
  (392, 1, .iload_n 3, 3, 0, []),
  (393, 1, .iconst 1, 1, 0, []),
  (394, 1, .iadd, 0, 0, []),
  (395, 1, .iaload, 0, 0, []),
  (396, 1, .aload_n 0, 0, 0, []),
  (397, 1, .iload_n 3, 3, 0, []),
  (398, 1, .iconst 2, 2, 0, []),
  (399, 1, .iadd, 0, 0, []),
  (400, 1, .iaload, 0, 0, []),
  (401, 3, .invokevirtual 40, 7, 0, []),
  (404, 1, .pop, 0, 0, []),
  (405, 1, .aload_n 2, 2, 0, []),
  (406, 1, .aload_n 0, 0, 0, []),
  (407, 1, .iload_n 3, 3, 0, []),
  (408, 1, .iconst 1, 1, 0, []),
  (409, 1, .iadd, 0, 0, []),
  (410, 1, .iaload, 0, 0, []),
  (411, 1, .aload_n 0, 0, 0, []),
  (412, 1, .iload_n 3, 3, 0, []),
  (413, 1, .iconst 2, 2, 0, []),
  (414, 1, .iadd, 0, 0, []),
  (415, 1, .iaload, 0, 0, []),
  (416, 3, .invokevirtual 43, 95, 8, []),
  (419, 1, .pop, 0, 0, []),
  (420, 3, .goto (880), 1300, 0, []),
  (423, 1, .aload_n 1, 1, 0, []),
  (424, 1, .aload_n 0, 0, 0, []),
  (425, 1, .iload_n 3, 3, 0, []),
  (426, 1, .iconst 1, 1, 0, []),
  (427, 1, .iadd, 0, 0, []),
  (428, 1, .iaload, 0, 0, []),
  (429, 3, .invokevirtual 44, 8, 0, []),
  (432, 1, .pop, 0, 0, []),
  (433, 1, .aload_n 2, 2, 0, []),
  (434, 1, .aload_n 0, 0, 0, []),
  (435, 1, .iload_n 3, 3, 0, []),
  (436, 1, .iconst 1, 1, 0, []),
  (437, 1, .iadd, 0, 0, []),
  (438, 1, .iaload, 0, 0, []),
  (439, 3, .invokevirtual 47, 96, 8, []),
  (442, 1, .pop, 0, 0, []),
  (443, 3, .goto (857), 1300, 0, []),
  (446, 1, .aload_n 1, 1, 0, []),
  (447, 1, .aload_n 0, 0, 0, []),
  (448, 1, .iload_n 3, 3, 0, []),
  (449, 1, .iconst 1, 1, 0, []),
  (450, 1, .iadd, 0, 0, []),
  (451, 1, .iaload, 0, 0, []),
  (452, 1, .aload_n 0, 0, 0, []),
  (453, 1, .iload_n 3, 3, 0, []),
  (454, 1, .iconst 2, 2, 0, []),
  (455, 1, .iadd, 0, 0, []),
  (456, 1, .iaload, 0, 0, []),
  (457, 3, .invokevirtual 48, 9, 0, [])]
def Zt196_4 : List Zent := [(460, 1, .pop, 0, 0, []),
  (461, 1, .aload_n 2, 2, 0, []),
  (462, 1, .aload_n 0, 0, 0, []),
  (463, 1, .iload_n 3, 3, 0, []),
  (464, 1, .iconst 1, 1, 0, []),
  (465, 1, .iadd, 0, 0, []),
  (466, 1, .iaload, 0, 0, []),
  (467, 1, .aload_n 0, 0, 0, []),
  (468, 1, .iload_n 3, 3, 0, []),
  (469, 1, .iconst 2, 2, 0, []),
  (470, 1, .iadd, 0, 0, []),
  (471, 1, .iaload, 0, 0, []),
  (472, 3, .invokevirtual 51, 97, 8, []),
  (475, 1, .pop, 0, 0, []),
  (476, 3, .goto (824), 1300, 0, []),
  (479, 1, .aload_n 1, 1, 0, []),
  (480, 1, .aload_n 0, 0, 0, []),
  (481, 1, .iload_n 3, 3, 0, []),
  (482, 1, .iconst 1, 1, 0, []),
  (483, 1, .iadd, 0, 0, []),
  (484, 1, .iaload, 0, 0, []),
  (485, 1, .i2l, 0, 0, []),
  (486, 2, .bipush 32, 32, 0, []),
  (488, 1, .lshl, 0, 0, []),
  (489, 1, .aload_n 0, 0, 0, []),
  (490, 1, .iload_n 3, 3, 0, []),
  (491, 1, .iconst 2, 2, 0, []),
  (492, 1, .iadd, 0, 0, []),
  (493, 1, .iaload, 0, 0, []),
  (494, 1, .i2l, 0, 0, []),
  (495, 3, .ldc2_w 52, 4294967295, 0, []),
  (498, 1, .land, 0, 0, []),
  (499, 1, .lor, 0, 0, []),
  (500, 1, .aload_n 0, 0, 0, []),
  (501, 1, .iload_n 3, 3, 0, []),
  (502, 1, .iconst 3, 3, 0, []),
  (503, 1, .iadd, 0, 0, []),
  (504, 1, .iaload, 0, 0, []),
  (505, 3, .invokevirtual 54, 10, 0, []),
  (508, 1, .pop, 0, 0, []),
  (509, 1, .aload_n 2, 2, 0, []),
  (510, 1, .aload_n 0, 0, 0, []),
  (511, 1, .iload_n 3, 3, 0, []),
  (512, 1, .iconst 1, 1, 0, []),
  (513, 1, .iadd, 0, 0, []),
  (514, 1, .iaload, 0, 0, []),
  (515, 1, .i2l, 0, 0, []),
  (516, 2, .bipush 32, 32, 0, []),
  (518, 1, .lshl, 0, 0, []),
  (519, 1, .aload_n 0, 0, 0, []),
  (520, 1, .iload_n 3, 3, 0, []),
  (521, 1, .iconst 2, 2, 0, []),
  (522, 1, .iadd, 0, 0, []),
  (523, 1, .iaload, 0, 0, []),
  (524, 1, .i2l, 0, 0, []),
  (525, 3, .ldc2_w 52, 4294967295, 0, []),
  (528, 1, .land, 0, 0, []),
  (529, 1, .lor, 0, 0, []),
  (530, 1, .aload_n 0, 0, 0, []),
  (531, 1, .iload_n 3, 3, 0, [])]
def Zt196_5 : List Zent := [(532, 1, .iconst 3, 3, 0, []),
  (533, 1, .iadd, 0, 0, []),
  (534, 1, .iaload, 0, 0, []),
  (535, 3, .invokevirtual 58, 59, 8, []),
  (538, 1, .pop, 0, 0, []),
  (539, 3, .goto (761), 1300, 0, []),
  (542, 1, .aload_n 1, 1, 0, []),
  (543, 1, .aload_n 0, 0, 0, []),
  (544, 1, .iload_n 3, 3, 0, []),
  (545, 1, .iconst 1, 1, 0, []),
  (546, 1, .iadd, 0, 0, []),
  (547, 1, .iaload, 0, 0, []),
  (548, 3, .invokevirtual 59, 11, 0, []),
  (551, 1, .pop, 0, 0, []),
  (552, 1, .aload_n 2, 2, 0, []),
  (553, 1, .aload_n 0, 0, 0, []),
  (554, 1, .iload_n 3, 3, 0, []),
  (555, 1, .iconst 1, 1, 0, []),
  (556, 1, .iadd, 0, 0, []),
  (557, 1, .iaload, 0, 0, []),
  (558, 3, .invokevirtual 62, 71, 8, []),
  (561, 1, .pop, 0, 0, []),
  (562, 3, .goto (738), 1300, 0, []),
  (565, 1, .aload_n 1, 1, 0, []),
  (566, 1, .aload_n 0, 0, 0, []),
  (567, 1, .iload_n 3, 3, 0, []),
  (568, 1, .iconst 1, 1, 0, []),
  (569, 1, .iadd, 0, 0, []),
  (570, 1, .iaload, 0, 0, []),
  (571, 3, .invokevirtual 63, 12, 0, []),
  (574, 1, .pop, 0, 0, []),
  (575, 1, .aload_n 2, 2, 0, []),
  (576, 1, .aload_n 0, 0, 0, []),
  (577, 1, .iload_n 3, 3, 0, []),
  (578, 1, .iconst 1, 1, 0, []),
  (579, 1, .iadd, 0, 0, []),
  (580, 1, .iaload, 0, 0, []),
  (581, 3, .invokevirtual 66, 72, 8, []),
  (584, 1, .pop, 0, 0, []),
  (585, 3, .goto (715), 1300, 0, []),
  (588, 1, .aload_n 1, 1, 0, []),
  (589, 1, .aload_n 0, 0, 0, []),
  (590, 1, .iload_n 3, 3, 0, []),
  (591, 1, .iconst 1, 1, 0, []),
  (592, 1, .iadd, 0, 0, []),
  (593, 1, .iaload, 0, 0, []),
  (594, 1, .aload_n 0, 0, 0, []),
  (595, 1, .iload_n 3, 3, 0, []),
  (596, 1, .iconst 2, 2, 0, []),
  (597, 1, .iadd, 0, 0, []),
  (598, 1, .iaload, 0, 0, []),
  (599, 1, .aload_n 0, 0, 0, []),
  (600, 1, .iload_n 3, 3, 0, []),
  (601, 1, .iconst 3, 3, 0, []),
  (602, 1, .iadd, 0, 0, []),
  (603, 1, .iaload, 0, 0, []),
  (604, 1, .aload_n 0, 0, 0, []),
  (605, 1, .iload_n 3, 3, 0, []),
  (606, 1, .iconst 4, 4, 0, []),
  (607, 1, .iadd, 0, 0, [])]
def Zt196_6 : List Zent := [(608, 1, .iaload, 0, 0, []),
  (609, 3, .invokevirtual 67, 13, 0, []),
  (612, 1, .pop, 0, 0, []),
  (613, 1, .aload_n 2, 2, 0, []),
  (614, 1, .aload_n 0, 0, 0, []),
  (615, 1, .iload_n 3, 3, 0, []),
  (616, 1, .iconst 1, 1, 0, []),
  (617, 1, .iadd, 0, 0, []),
  (618, 1, .iaload, 0, 0, []),
  (619, 1, .aload_n 0, 0, 0, []),
  (620, 1, .iload_n 3, 3, 0, []),
  (621, 1, .iconst 2, 2, 0, []),
  (622, 1, .iadd, 0, 0, []),
  (623, 1, .iaload, 0, 0, []),
  (624, 1, .aload_n 0, 0, 0, []),
  (625, 1, .iload_n 3, 3, 0, []),
  (626, 1, .iconst 3, 3, 0, []),
  (627, 1, .iadd, 0, 0, []),
  (628, 1, .iaload, 0, 0, []),
  (629, 1, .aload_n 0, 0, 0, []),
  (630, 1, .iload_n 3, 3, 0, []),
  (631, 1, .iconst 4, 4, 0, []),
  (632, 1, .iadd, 0, 0, []),
  (633, 1, .iaload, 0, 0, []),
  (634, 3, .invokevirtual 71, 98, 8, []),
  (637, 1, .pop, 0, 0, []),
  (638, 3, .goto (662), 1300, 0, []),
  (641, 1, .aload_n 1, 1, 0, []),
  (642, 1, .aload_n 0, 0, 0, []),
  (643, 1, .iload_n 3, 3, 0, []),
  (644, 1, .iconst 1, 1, 0, []),
  (645, 1, .iadd, 0, 0, []),
  (646, 1, .iaload, 0, 0, []),
  (647, 3, .invokevirtual 72, 14, 0, []),
  (650, 1, .pop, 0, 0, []),
  (651, 1, .aload_n 2, 2, 0, []),
  (652, 1, .aload_n 0, 0, 0, []),
  (653, 1, .iload_n 3, 3, 0, []),
  (654, 1, .iconst 1, 1, 0, []),
  (655, 1, .iadd, 0, 0, []),
  (656, 1, .iaload, 0, 0, []),
  (657, 3, .invokevirtual 75, 100, 8, []),
  (660, 1, .pop, 0, 0, []),
  (661, 3, .goto (639), 1300, 0, []),
  (664, 1, .aload_n 1, 1, 0, []),
  (665, 1, .aload_n 0, 0, 0, []),
  (666, 1, .iload_n 3, 3, 0, []),
  (667, 1, .iconst 1, 1, 0, []),
  (668, 1, .iadd, 0, 0, []),
  (669, 1, .iaload, 0, 0, []),
  (670, 3, .invokevirtual 76, 15, 0, []),
  (673, 1, .pop, 0, 0, []),
  (674, 1, .aload_n 2, 2, 0, []),
  (675, 1, .aload_n 0, 0, 0, []),
  (676, 1, .iload_n 3, 3, 0, []),
  (677, 1, .iconst 1, 1, 0, []),
  (678, 1, .iadd, 0, 0, []),
  (679, 1, .iaload, 0, 0, []),
  (680, 3, .invokevirtual 79, 101, 8, []),
  (683, 1, .pop, 0, 0, [])]
def Zt196_7 : List Zent := [(684, 3, .goto (616), 1300, 0, []),
  (687, 1, .aload_n 1, 1, 0, []),
  (688, 1, .aload_n 0, 0, 0, []),
  (689, 1, .iload_n 3, 3, 0, []),
  (690, 1, .iconst 1, 1, 0, []),
  (691, 1, .iadd, 0, 0, []),
  (692, 1, .iaload, 0, 0, []),
  (693, 3, .invokevirtual 80, 16, 0, []),
  (696, 1, .pop, 0, 0, []),
  (697, 1, .aload_n 2, 2, 0, []),
  (698, 1, .aload_n 0, 0, 0, []),
  (699, 1, .iload_n 3, 3, 0, []),
  (700, 1, .iconst 1, 1, 0, []),
  (701, 1, .iadd, 0, 0, []),
  (702, 1, .iaload, 0, 0, []),
  (703, 3, .invokevirtual 83, 102, 8, []),
  (706, 1, .pop, 0, 0, []),
  (707, 3, .goto (593), 1300, 0, []),
  (710, 1, .aload_n 1, 1, 0, []),
  (711, 1, .aload_n 0, 0, 0, []),
  (712, 1, .iload_n 3, 3, 0, []),
  (713, 1, .iconst 1, 1, 0, []),
  (714, 1, .iadd, 0, 0, []),
  (715, 1, .iaload, 0, 0, []),
  (716, 1, .aload_n 0, 0, 0, []),
  (717, 1, .iload_n 3, 3, 0, []),
  (718, 1, .iconst 2, 2, 0, []),
  (719, 1, .iadd, 0, 0, []),
  (720, 1, .iaload, 0, 0, []),
  (721, 1, .aload_n 0, 0, 0, []),
  (722, 1, .iload_n 3, 3, 0, []),
  (723, 1, .iconst 3, 3, 0, []),
  (724, 1, .iadd, 0, 0, []),
  (725, 1, .iaload, 0, 0, []),
  (726, 3, .invokevirtual 84, 17, 0, []),
  (729, 1, .pop, 0, 0, []),
  (730, 1, .aload_n 2, 2, 0, []),
  (731, 1, .aload_n 0, 0, 0, []),
  (732, 1, .iload_n 3, 3, 0, []),
  (733, 1, .iconst 1, 1, 0, []),
  (734, 1, .iadd, 0, 0, []),
  (735, 1, .iaload, 0, 0, []),
  (736, 1, .aload_n 0, 0, 0, []),
  (737, 1, .iload_n 3, 3, 0, []),
  (738, 1, .iconst 2, 2, 0, []),
  (739, 1, .iadd, 0, 0, []),
  (740, 1, .iaload, 0, 0, []),
  (741, 1, .aload_n 0, 0, 0, []),
  (742, 1, .iload_n 3, 3, 0, []),
  (743, 1, .iconst 3, 3, 0, []),
  (744, 1, .iadd, 0, 0, []),
  (745, 1, .iaload, 0, 0, []),
  (746, 3, .invokevirtual 87, 103, 8, []),
  (749, 1, .pop, 0, 0, []),
  (750, 3, .goto (550), 1300, 0, []),
  (753, 1, .aload_n 1, 1, 0, []),
  (754, 1, .aload_n 0, 0, 0, []),
  (755, 1, .iload_n 3, 3, 0, []),
  (756, 1, .iconst 1, 1, 0, []),
  (757, 1, .iadd, 0, 0, [])]
def Zt196_8 : List Zent := [(758, 1, .iaload, 0, 0, []),
  (759, 1, .aload_n 0, 0, 0, []),
  (760, 1, .iload_n 3, 3, 0, []),
  (761, 1, .iconst 2, 2, 0, []),
  (762, 1, .iadd, 0, 0, []),
  (763, 1, .iaload, 0, 0, []),
  (764, 3, .invokevirtual 88, 18, 0, []),
  (767, 1, .pop, 0, 0, []),
  (768, 1, .aload_n 2, 2, 0, []),
  (769, 1, .aload_n 0, 0, 0, []),
  (770, 1, .iload_n 3, 3, 0, []),
  (771, 1, .iconst 1, 1, 0, []),
  (772, 1, .iadd, 0, 0, []),
  (773, 1, .iaload, 0, 0, []),
  (774, 1, .aload_n 0, 0, 0, []),
  (775, 1, .iload_n 3, 3, 0, []),
  (776, 1, .iconst 2, 2, 0, []),
  (777, 1, .iadd, 0, 0, []),
  (778, 1, .iaload, 0, 0, []),
  (779, 3, .invokevirtual 91, 104, 8, []),
  (782, 1, .pop, 0, 0, []),
  (783, 3, .goto (517), 1300, 0, []),
  (786, 1, .aload_n 1, 1, 0, []),
  (787, 3, .invokevirtual 92, 19, 0, []),
  (790, 1, .pop, 0, 0, []),
  (791, 1, .aload_n 2, 2, 0, []),
  (792, 3, .invokevirtual 96, 105, 8, []),
  (795, 1, .pop, 0, 0, []),
  (796, 3, .goto (504), 1300, 0, []),
  (799, 1, .aload_n 1, 1, 0, []),
  (800, 1, .aload_n 0, 0, 0, []),
  (801, 1, .iload_n 3, 3, 0, []),
  (802, 1, .iconst 1, 1, 0, []),
  (803, 1, .iadd, 0, 0, []),
  (804, 1, .iaload, 0, 0, []),
  (805, 1, .aload_n 0, 0, 0, []),
  (806, 1, .iload_n 3, 3, 0, []),
  (807, 1, .iconst 2, 2, 0, []),
  (808, 1, .iadd, 0, 0, []),
  (809, 1, .iaload, 0, 0, []),
  (810, 1, .aload_n 0, 0, 0, []),
  (811, 1, .iload_n 3, 3, 0, []),
  (812, 1, .iconst 3, 3, 0, []),
  (813, 1, .iadd, 0, 0, []),
  (814, 1, .iaload, 0, 0, []),
  (815, 3, .invokevirtual 97, 20, 0, []),
  (818, 1, .pop, 0, 0, []),
  (819, 1, .aload_n 2, 2, 0, []),
  (820, 1, .aload_n 0, 0, 0, []),
  (821, 1, .iload_n 3, 3, 0, []),
  (822, 1, .iconst 1, 1, 0, []),
  (823, 1, .iadd, 0, 0, []),
  (824, 1, .iaload, 0, 0, []),
  (825, 1, .aload_n 0, 0, 0, []),
  (826, 1, .iload_n 3, 3, 0, []),
  (827, 1, .iconst 2, 2, 0, []),
  (828, 1, .iadd, 0, 0, []),
  (829, 1, .iaload, 0, 0, []),
  (830, 1, .aload_n 0, 0, 0, []),
  (831, 1, .iload_n 3, 3, 0, [])]
def Zt196_9 : List Zent := [(832, 1, .iconst 3, 3, 0, []),
  (833, 1, .iadd, 0, 0, []),
  (834, 1, .iaload, 0, 0, []),
  (835, 3, .invokevirtual 100, 108, 8, []),
  (838, 1, .pop, 0, 0, []),
  (839, 3, .goto (461), 1300, 0, []),
  (842, 1, .aload_n 1, 1, 0, []),
  (843, 1, .aload_n 0, 0, 0, []),
  (844, 1, .iload_n 3, 3, 0, []),
  (845, 1, .iconst 1, 1, 0, []),
  (846, 1, .iadd, 0, 0, []),
  (847, 1, .iaload, 0, 0, []),
  (848, 1, .aload_n 0, 0, 0, []),
  (849, 1, .iload_n 3, 3, 0, []),
  (850, 1, .iconst 2, 2, 0, []),
  (851, 1, .iadd, 0, 0, []),
  (852, 1, .iaload, 0, 0, []),
  (853, 3, .invokevirtual 101, 21, 0, []),
  (856, 1, .pop, 0, 0, []),
  (857, 1, .aload_n 2, 2, 0, []),
  (858, 1, .aload_n 0, 0, 0, []),
  (859, 1, .iload_n 3, 3, 0, []),
  (860, 1, .iconst 1, 1, 0, []),
  (861, 1, .iadd, 0, 0, []),
  (862, 1, .iaload, 0, 0, []),
  (863, 1, .aload_n 0, 0, 0, []),
  (864, 1, .iload_n 3, 3, 0, []),
  (865, 1, .iconst 2, 2, 0, []),
  (866, 1, .iadd, 0, 0, []),
  (867, 1, .iaload, 0, 0, []),
  (868, 3, .invokevirtual 104, 109, 8, []),
  (871, 1, .pop, 0, 0, []),
  (872, 3, .goto (428), 1300, 0, []),
  (875, 1, .aload_n 1, 1, 0, []),
  (876, 1, .aload_n 0, 0, 0, []),
  (877, 1, .iload_n 3, 3, 0, []),
  (878, 1, .iconst 1, 1, 0, []),
  (879, 1, .iadd, 0, 0, []),
  (880, 1, .iaload, 0, 0, []),
  (881, 3, .invokevirtual 105, 22, 0, []),
  (884, 1, .pop, 0, 0, []),
  (885, 1, .aload_n 2, 2, 0, []),
  (886, 1, .aload_n 0, 0, 0, []),
  (887, 1, .iload_n 3, 3, 0, []),
  (888, 1, .iconst 1, 1, 0, []),
  (889, 1, .iadd, 0, 0, []),
  (890, 1, .iaload, 0, 0, []),
  (891, 3, .invokevirtual 108, 111, 8, []),
  (894, 1, .pop, 0, 0, []),
  (895, 3, .goto (405), 1300, 0, []),
  (898, 1, .aload_n 1, 1, 0, []),
  (899, 1, .aload_n 0, 0, 0, []),
  (900, 1, .iload_n 3, 3, 0, []),
  (901, 1, .iconst 1, 1, 0, []),
  (902, 1, .iadd, 0, 0, []),
  (903, 1, .iaload, 0, 0, []),
  (904, 1, .aload_n 0, 0, 0, []),
  (905, 1, .iload_n 3, 3, 0, []),
  (906, 1, .iconst 2, 2, 0, []),
  (907, 1, .iadd, 0, 0, [])]
def Zt196_10 : List Zent := [(908, 1, .iaload, 0, 0, []),
  (909, 3, .invokevirtual 109, 23, 0, []),
  (912, 1, .pop, 0, 0, []),
  (913, 1, .aload_n 2, 2, 0, []),
  (914, 1, .aload_n 0, 0, 0, []),
  (915, 1, .iload_n 3, 3, 0, []),
  (916, 1, .iconst 1, 1, 0, []),
  (917, 1, .iadd, 0, 0, []),
  (918, 1, .iaload, 0, 0, []),
  (919, 1, .aload_n 0, 0, 0, []),
  (920, 1, .iload_n 3, 3, 0, []),
  (921, 1, .iconst 2, 2, 0, []),
  (922, 1, .iadd, 0, 0, []),
  (923, 1, .iaload, 0, 0, []),
  (924, 3, .invokevirtual 112, 112, 8, []),
  (927, 1, .pop, 0, 0, []),
  (928, 3, .goto (372), 1300, 0, []),
  (931, 1, .aload_n 1, 1, 0, []),
  (932, 1, .aload_n 0, 0, 0, []),
  (933, 1, .iload_n 3, 3, 0, []),
  (934, 1, .iconst 1, 1, 0, []),
  (935, 1, .iadd, 0, 0, []),
  (936, 1, .iaload, 0, 0, []),
  (937, 1, .aload_n 0, 0, 0, []),
  (938, 1, .iload_n 3, 3, 0, []),
  (939, 1, .iconst 2, 2, 0, []),
  (940, 1, .iadd, 0, 0, []),
  (941, 1, .iaload, 0, 0, []),
  (942, 1, .aload_n 0, 0, 0, []),
  (943, 1, .iload_n 3, 3, 0, []),
  (944, 1, .iconst 3, 3, 0, []),
  (945, 1, .iadd, 0, 0, []),
  (946, 1, .iaload, 0, 0, []),
  (947, 3, .invokevirtual 113, 24, 0, []),
  (950, 1, .pop, 0, 0, []),
  (951, 1, .aload_n 2, 2, 0, []),
  (952, 1, .aload_n 0, 0, 0, []),
  (953, 1, .iload_n 3, 3, 0, []),
  (954, 1, .iconst 1, 1, 0, []),
  (955, 1, .iadd, 0, 0, []),
  (956, 1, .iaload, 0, 0, []),
  (957, 1, .aload_n 0, 0, 0, []),
  (958, 1, .iload_n 3, 3, 0, []),
  (959, 1, .iconst 2, 2, 0, []),
  (960, 1, .iadd, 0, 0, []),
  (961, 1, .iaload, 0, 0, []),
  (962, 1, .aload_n 0, 0, 0, []),
  (963, 1, .iload_n 3, 3, 0, []),
  (964, 1, .iconst 3, 3, 0, []),
  (965, 1, .iadd, 0, 0, []),
  (966, 1, .iaload, 0, 0, []),
  (967, 3, .invokevirtual 116, 121, 8, []),
  (970, 1, .pop, 0, 0, []),
  (971, 3, .goto (329), 1300, 0, []),
  (974, 1, .aload_n 1, 1, 0, []),
  (975, 1, .aload_n 0, 0, 0, []),
  (976, 1, .iload_n 3, 3, 0, []),
  (977, 1, .iconst 1, 1, 0, []),
  (978, 1, .iadd, 0, 0, []),
  (979, 1, .iaload, 0, 0, [])]
def Zt196_11 : List Zent := [(980, 3, .invokevirtual 117, 25, 0, []),
  (983, 1, .pop, 0, 0, []),
  (984, 1, .aload_n 2, 2, 0, []),
  (985, 1, .aload_n 0, 0, 0, []),
  (986, 1, .iload_n 3, 3, 0, []),
  (987, 1, .iconst 1, 1, 0, []),
  (988, 1, .iadd, 0, 0, []),
  (989, 1, .iaload, 0, 0, []),
  (990, 3, .invokevirtual 120, 122, 8, []),
  (993, 1, .pop, 0, 0, []),
  (994, 3, .goto (306), 1300, 0, []),
  (997, 1, .aload_n 1, 1, 0, []),
  (998, 1, .aload_n 0, 0, 0, []),
  (999, 1, .iload_n 3, 3, 0, []),
  (1000, 1, .iconst 1, 1, 0, []),
  (1001, 1, .iadd, 0, 0, []),
  (1002, 1, .iaload, 0, 0, []),
  (1003, 1, .aload_n 0, 0, 0, []),
  (1004, 1, .iload_n 3, 3, 0, []),
  (1005, 1, .iconst 2, 2, 0, []),
  (1006, 1, .iadd, 0, 0, []),
  (1007, 1, .iaload, 0, 0, []),
  (1008, 1, .aload_n 0, 0, 0, []),
  (1009, 1, .iload_n 3, 3, 0, []),
  (1010, 1, .iconst 3, 3, 0, []),
  (1011, 1, .iadd, 0, 0, []),
  (1012, 1, .iaload, 0, 0, []),
  (1013, 3, .invokevirtual 121, 26, 0, []),
  (1016, 1, .pop, 0, 0, []),
  (1017, 1, .aload_n 2, 2, 0, []),
  (1018, 1, .aload_n 0, 0, 0, []),
  (1019, 1, .iload_n 3, 3, 0, []),
  (1020, 1, .iconst 1, 1, 0, []),
  (1021, 1, .iadd, 0, 0, []),
  (1022, 1, .iaload, 0, 0, []),
  (1023, 1, .aload_n 0, 0, 0, []),
  (1024, 1, .iload_n 3, 3, 0, []),
  (1025, 1, .iconst 2, 2, 0, []),
  (1026, 1, .iadd, 0, 0, []),
  (1027, 1, .iaload, 0, 0, []),
  (1028, 1, .aload_n 0, 0, 0, []),
  (1029, 1, .iload_n 3, 3, 0, []),
  (1030, 1, .iconst 3, 3, 0, []),
  (1031, 1, .iadd, 0, 0, []),
  (1032, 1, .iaload, 0, 0, []),
  (1033, 3, .invokevirtual 124, 124, 8, []),
  (1036, 1, .pop, 0, 0, []),
  (1037, 3, .goto (263), 1300, 0, []),
  (1040, 1, .aload_n 1, 1, 0, []),
  (1041, 1, .aload_n 0, 0, 0, []),
  (1042, 1, .iload_n 3, 3, 0, []),
  (1043, 1, .iconst 1, 1, 0, []),
  (1044, 1, .iadd, 0, 0, []),
  (1045, 1, .iaload, 0, 0, []),
  (1046, 1, .aload_n 0, 0, 0, []),
  (1047, 1, .iload_n 3, 3, 0, []),
  (1048, 1, .iconst 2, 2, 0, []),
  (1049, 1, .iadd, 0, 0, []),
  (1050, 1, .iaload, 0, 0, []),
  (1051, 1, .aload_n 0, 0, 0, [])]
def Zt196_12 : List Zent := [(1052, 1, .iload_n 3, 3, 0, []),
  (1053, 1, .iconst 3, 3, 0, []),
  (1054, 1, .iadd, 0, 0, []),
  (1055, 1, .iaload, 0, 0, []),
  (1056, 3, .invokevirtual 125, 27, 0, []),
  (1059, 1, .pop, 0, 0, []),
  (1060, 1, .aload_n 2, 2, 0, []),
  (1061, 1, .aload_n 0, 0, 0, []),
  (1062, 1, .iload_n 3, 3, 0, []),
  (1063, 1, .iconst 1, 1, 0, []),
  (1064, 1, .iadd, 0, 0, []),
  (1065, 1, .iaload, 0, 0, []),
  (1066, 1, .aload_n 0, 0, 0, []),
  (1067, 1, .iload_n 3, 3, 0, []),
  (1068, 1, .iconst 2, 2, 0, []),
  (1069, 1, .iadd, 0, 0, []),
  (1070, 1, .iaload, 0, 0, []),
  (1071, 1, .aload_n 0, 0, 0, []),
  (1072, 1, .iload_n 3, 3, 0, []),
  (1073, 1, .iconst 3, 3, 0, []),
  (1074, 1, .iadd, 0, 0, []),
  (1075, 1, .iaload, 0, 0, []),
  (1076, 3, .invokevirtual 128, 125, 8, []),
  (1079, 1, .pop, 0, 0, []),
  (1080, 3, .goto (220), 1300, 0, []),
  (1083, 1, .aload_n 1, 1, 0, []),
  (1084, 1, .aload_n 0, 0, 0, []),
  (1085, 1, .iload_n 3, 3, 0, []),
  (1086, 1, .iconst 1, 1, 0, []),
  (1087, 1, .iadd, 0, 0, []),
  (1088, 1, .iaload, 0, 0, []),
  (1089, 1, .aload_n 0, 0, 0, []),
  (1090, 1, .iload_n 3, 3, 0, []),
  (1091, 1, .iconst 2, 2, 0, []),
  (1092, 1, .iadd, 0, 0, []),
  (1093, 1, .iaload, 0, 0, []),
  (1094, 1, .aload_n 0, 0, 0, []),
  (1095, 1, .iload_n 3, 3, 0, []),
  (1096, 1, .iconst 3, 3, 0, []),
  (1097, 1, .iadd, 0, 0, []),
  (1098, 1, .iaload, 0, 0, []),
  (1099, 1, .aload_n 0, 0, 0, []),
  (1100, 1, .iload_n 3, 3, 0, []),
  (1101, 1, .iconst 4, 4, 0, []),
  (1102, 1, .iadd, 0, 0, []),
  (1103, 1, .iaload, 0, 0, []),
  (1104, 1, .aload_n 0, 0, 0, []),
  (1105, 1, .iload_n 3, 3, 0, []),
  (1106, 1, .iconst 5, 5, 0, []),
  (1107, 1, .iadd, 0, 0, []),
  (1108, 1, .iaload, 0, 0, []),
  (1109, 3, .invokevirtual 129, 28, 0, []),
  (1112, 1, .pop, 0, 0, []),
  (1113, 1, .aload_n 2, 2, 0, []),
  (1114, 1, .aload_n 0, 0, 0, []),
  (1115, 1, .iload_n 3, 3, 0, []),
  (1116, 1, .iconst 1, 1, 0, []),
  (1117, 1, .iadd, 0, 0, []),
  (1118, 1, .iaload, 0, 0, []),
  (1119, 1, .aload_n 0, 0, 0, [])]
def Zt196_13 : List Zent := [(1120, 1, .iload_n 3, 3, 0, []),
  (1121, 1, .iconst 2, 2, 0, []),
  (1122, 1, .iadd, 0, 0, []),
  (1123, 1, .iaload, 0, 0, []),
  (1124, 1, .aload_n 0, 0, 0, []),
  (1125, 1, .iload_n 3, 3, 0, []),
  (1126, 1, .iconst 3, 3, 0, []),
  (1127, 1, .iadd, 0, 0, []),
  (1128, 1, .iaload, 0, 0, []),
  (1129, 1, .aload_n 0, 0, 0, []),
  (1130, 1, .iload_n 3, 3, 0, []),
  (1131, 1, .iconst 4, 4, 0, []),
  (1132, 1, .iadd, 0, 0, []),
  (1133, 1, .iaload, 0, 0, []),
  (1134, 1, .aload_n 0, 0, 0, []),
  (1135, 1, .iload_n 3, 3, 0, []),
  (1136, 1, .iconst 5, 5, 0, []),
  (1137, 1, .iadd, 0, 0, []),
  (1138, 1, .iaload, 0, 0, []),
  (1139, 3, .invokevirtual 133, 126, 8, []),
  (1142, 1, .pop, 0, 0, []),
  (1143, 3, .goto (157), 1300, 0, []),
  (1146, 1, .aload_n 1, 1, 0, []),
  (1147, 1, .aload_n 0, 0, 0, []),
  (1148, 1, .iload_n 3, 3, 0, []),
  (1149, 1, .iconst 1, 1, 0, []),
  (1150, 1, .iadd, 0, 0, []),
  (1151, 1, .iaload, 0, 0, []),
  (1152, 3, .invokevirtual 134, 29, 0, []),
  (1155, 1, .pop, 0, 0, []),
  (1156, 1, .aload_n 2, 2, 0, []),
  (1157, 1, .aload_n 0, 0, 0, []),
  (1158, 1, .iload_n 3, 3, 0, []),
  (1159, 1, .iconst 1, 1, 0, []),
  (1160, 1, .iadd, 0, 0, []),
  (1161, 1, .iaload, 0, 0, []),
  (1162, 3, .invokevirtual 137, 128, 8, []),
  (1165, 1, .pop, 0, 0, []),
  (1166, 3, .goto (134), 1300, 0, []),
  (1169, 1, .aload_n 1, 1, 0, []),
  (1170, 1, .aload_n 0, 0, 0, []),
  (1171, 1, .iload_n 3, 3, 0, []),
  (1172, 1, .iconst 1, 1, 0, []),
  (1173, 1, .iadd, 0, 0, []),
  (1174, 1, .iaload, 0, 0, []),
  (1175, 3, .invokevirtual 138, 30, 0, []),
  (1178, 1, .pop, 0, 0, []),
  (1179, 1, .aload_n 2, 2, 0, []),
  (1180, 1, .aload_n 0, 0, 0, []),
  (1181, 1, .iload_n 3, 3, 0, []),
  (1182, 1, .iconst 1, 1, 0, []),
  (1183, 1, .iadd, 0, 0, []),
  (1184, 1, .iaload, 0, 0, []),
  (1185, 3, .invokevirtual 141, 129, 8, []),
  (1188, 1, .pop, 0, 0, []),
  (1189, 3, .goto (111), 1300, 0, []),
  (1192, 1, .aload_n 1, 1, 0, []),
  (1193, 3, .invokevirtual 142, 31, 0, []),
  (1196, 1, .aload_n 2, 2, 0, []),
  (1197, 3, .invokevirtual 145, 130, 8, [])]
def Zt196_14 : List Zent := [(1200, 3, .if_icmp .eq (100), 1300, 0, []),
  (1203, 1, .iconst 0, 0, 0, []),
  (1204, 1, .ireturn, 0, 0, []),
  (1205, 1, .aload_n 1, 1, 0, []),
  (1206, 3, .invokevirtual 146, 32, 0, []),
  (1209, 1, .pop, 0, 0, []),
  (1210, 1, .aload_n 2, 2, 0, []),
  (1211, 3, .invokevirtual 149, 131, 8, []),
  (1214, 1, .pop, 0, 0, []),
  (1215, 3, .goto (85), 1300, 0, []),
  (1218, 1, .aload_n 1, 1, 0, []),
  (1219, 1, .aload_n 0, 0, 0, []),
  (1220, 1, .iload_n 3, 3, 0, []),
  (1221, 1, .iconst 1, 1, 0, []),
  (1222, 1, .iadd, 0, 0, []),
  (1223, 1, .iaload, 0, 0, []),
  (1224, 3, .invokevirtual 150, 33, 0, []),
  (1227, 1, .pop, 0, 0, []),
  (1228, 1, .aload_n 2, 2, 0, []),
  (1229, 1, .aload_n 0, 0, 0, []),
  (1230, 1, .iload_n 3, 3, 0, []),
  (1231, 1, .iconst 1, 1, 0, []),
  (1232, 1, .iadd, 0, 0, []),
  (1233, 1, .iaload, 0, 0, []),
  (1234, 3, .invokevirtual 153, 132, 8, []),
  (1237, 1, .pop, 0, 0, []),
  (1238, 3, .goto (62), 1300, 0, []),
  (1241, 1, .aload_n 1, 1, 0, []),
  (1242, 3, .invokevirtual 154, 34, 0, []),
  (1245, 1, .pop, 0, 0, []),
  (1246, 1, .aload_n 2, 2, 0, []),
  (1247, 3, .invokevirtual 157, 133, 8, []),
  (1250, 1, .pop, 0, 0, []),
  (1251, 3, .goto (49), 1300, 0, []),
  (1254, 1, .aload_n 1, 1, 0, []),
  (1255, 1, .aload_n 0, 0, 0, []),
  (1256, 1, .iload_n 3, 3, 0, []),
  (1257, 1, .iconst 1, 1, 0, []),
  (1258, 1, .iadd, 0, 0, []),
  (1259, 1, .iaload, 0, 0, []),
  (1260, 3, .invokevirtual 158, 35, 0, []),
  (1263, 1, .pop, 0, 0, []),
  (1264, 1, .aload_n 2, 2, 0, []),
  (1265, 1, .aload_n 0, 0, 0, []),
  (1266, 1, .iload_n 3, 3, 0, []),
  (1267, 1, .iconst 1, 1, 0, []),
  (1268, 1, .iadd, 0, 0, []),
  (1269, 1, .iaload, 0, 0, []),
  (1270, 3, .invokevirtual 161, 134, 8, []),
  (1273, 1, .pop, 0, 0, []),
  (1274, 3, .goto (26), 1300, 0, []),
  (1277, 1, .aload_n 1, 1, 0, []),
  (1278, 1, .aload_n 0, 0, 0, []),
  (1279, 1, .iload_n 3, 3, 0, []),
  (1280, 1, .iconst 1, 1, 0, []),
  (1281, 1, .iadd, 0, 0, []),
  (1282, 1, .iaload, 0, 0, []),
  (1283, 3, .invokevirtual 162, 36, 0, []),
  (1286, 1, .pop, 0, 0, []),
  (1287, 1, .aload_n 2, 2, 0, [])]
def Zt196_15 : List Zent := [(1288, 1, .aload_n 0, 0, 0, []),
  (1289, 1, .iload_n 3, 3, 0, []),
  (1290, 1, .iconst 1, 1, 0, []),
  (1291, 1, .iadd, 0, 0, []),
  (1292, 1, .iaload, 0, 0, []),
  (1293, 3, .invokevirtual 165, 135, 8, []),
  (1296, 1, .pop, 0, 0, []),
  (1297, 3, .goto (3), 1300, 0, []),
  (1300, 3, .iinc 3 6, 6, 0, [3]),
  (1303, 3, .goto (-1285), 18, 0, []),
  (1306, 1, .iconst 1, 1, 0, []),
  (1307, 1, .ireturn, 0, 0, [])]
def Zt196 : List Zent := Zt196_0 ++ (Zt196_1 ++ (Zt196_2 ++ (Zt196_3 ++ (Zt196_4 ++ (Zt196_5 ++ (Zt196_6 ++ (Zt196_7 ++ (Zt196_8 ++ (Zt196_9 ++ (Zt196_10 ++ (Zt196_11 ++ (Zt196_12 ++ (Zt196_13 ++ (Zt196_14 ++ (Zt196_15)))))))))))))))
set_option maxRecDepth 100000 in
theorem Zk196_0 : Zt196_0.all (Zck 196 Zt196) = true := by decide +kernel
set_option maxRecDepth 100000 in
theorem Zk196_1 : Zt196_1.all (Zck 196 Zt196) = true := by decide +kernel
set_option maxRecDepth 100000 in
theorem Zk196_2 : Zt196_2.all (Zck 196 Zt196) = true := by decide +kernel
set_option maxRecDepth 100000 in
theorem Zk196_3 : Zt196_3.all (Zck 196 Zt196) = true := by decide +kernel
set_option maxRecDepth 100000 in
theorem Zk196_4 : Zt196_4.all (Zck 196 Zt196) = true := by decide +kernel
set_option maxRecDepth 100000 in
theorem Zk196_5 : Zt196_5.all (Zck 196 Zt196) = true := by decide +kernel
set_option maxRecDepth 100000 in
theorem Zk196_6 : Zt196_6.all (Zck 196 Zt196) = true := by decide +kernel
set_option maxRecDepth 100000 in
theorem Zk196_7 : Zt196_7.all (Zck 196 Zt196) = true := by decide +kernel
set_option maxRecDepth 100000 in
theorem Zk196_8 : Zt196_8.all (Zck 196 Zt196) = true := by decide +kernel
set_option maxRecDepth 100000 in
theorem Zk196_9 : Zt196_9.all (Zck 196 Zt196) = true := by decide +kernel
set_option maxRecDepth 100000 in
theorem Zk196_10 : Zt196_10.all (Zck 196 Zt196) = true := by decide +kernel
set_option maxRecDepth 100000 in
theorem Zk196_11 : Zt196_11.all (Zck 196 Zt196) = true := by decide +kernel
set_option maxRecDepth 100000 in
theorem Zk196_12 : Zt196_12.all (Zck 196 Zt196) = true := by decide +kernel
set_option maxRecDepth 100000 in
theorem Zk196_13 : Zt196_13.all (Zck 196 Zt196) = true := by decide +kernel
set_option maxRecDepth 100000 in
theorem Zk196_14 : Zt196_14.all (Zck 196 Zt196) = true := by decide +kernel
set_option maxRecDepth 100000 in
theorem Zk196_15 : Zt196_15.all (Zck 196 Zt196) = true := by decide +kernel
set_option maxRecDepth 100000 in
theorem Zw196_0 : (∀ w ∈ Zt196_0.flatMap (Zwo 196), w ∈ Ztg) ∧ ∀ w ∈ Zt196_0.flatMap (Zwn 196), w ∈ Znest := ⟨Zat_in (hs := [435, 436, 129, 438, 437, 1058, 1059, 137, 1061, 1060]) rfl, Zan_in (hs := []) rfl⟩
set_option maxRecDepth 100000 in
theorem Zw196_1 : (∀ w ∈ Zt196_1.flatMap (Zwo 196), w ∈ Ztg) ∧ ∀ w ∈ Zt196_1.flatMap (Zwn 196), w ∈ Znest := ⟨Zat_in (hs := [492, 493, 129, 495, 494, 1094, 1095, 137, 1097, 1096, 512, 513, 129, 515, 514, 1121, 1122, 137, 1124, 1123]) rfl, Zan_in (hs := []) rfl⟩
set_option maxRecDepth 100000 in
theorem Zw196_2 : (∀ w ∈ Zt196_2.flatMap (Zwo 196), w ∈ Ztg) ∧ ∀ w ∈ Zt196_2.flatMap (Zwn 196), w ∈ Znest := ⟨Zat_in (hs := [516, 517, 129, 519, 518, 1129, 1130, 137, 1132, 1131, 529, 530, 129, 532, 531, 1152, 1153, 137, 1155, 1154, 533, 534, 129, 536, 535]) rfl, Zan_in (hs := []) rfl⟩
set_option maxRecDepth 100000 in
theorem Zw196_3 : (∀ w ∈ Zt196_3.flatMap (Zwo 196), w ∈ Ztg) ∧ ∀ w ∈ Zt196_3.flatMap (Zwn 196), w ∈ Znest := ⟨Zat_in (hs := [1156, 1157, 137, 1159, 1158, 537, 538, 129, 540, 539, 1160, 1161, 137, 1163, 1162, 541, 542, 129, 544, 543, 1164, 1165, 137, 1167, 1166, 551, 552, 129, 554, 553]) rfl, Zan_in (hs := []) rfl⟩
set_option maxRecDepth 100000 in
theorem Zw196_4 : (∀ w ∈ Zt196_4.flatMap (Zwo 196), w ∈ Ztg) ∧ ∀ w ∈ Zt196_4.flatMap (Zwn 196), w ∈ Znest := ⟨Zat_in (hs := [1168, 1169, 137, 1171, 1170, 1343, 555, 556, 129, 558, 557, 1343]) rfl, Zan_in (hs := []) rfl⟩
set_option maxRecDepth 100000 in
theorem Zw196_5 : (∀ w ∈ Zt196_5.flatMap (Zwo 196), w ∈ Ztg) ∧ ∀ w ∈ Zt196_5.flatMap (Zwn 196), w ∈ Znest := ⟨Zat_in (hs := [993, 994, 137, 996, 995, 559, 560, 129, 562, 561, 1006, 1007, 137, 1009, 1008, 620, 621, 129, 623, 622, 1050, 1051, 137, 1053, 1052]) rfl, Zan_in (hs := []) rfl⟩
set_option maxRecDepth 100000 in
theorem Zw196_6 : (∀ w ∈ Zt196_6.flatMap (Zwo 196), w ∈ Ztg) ∧ ∀ w ∈ Zt196_6.flatMap (Zwn 196), w ∈ Znest := ⟨Zat_in (hs := [640, 641, 129, 643, 642, 1172, 1173, 137, 1175, 1174, 645, 646, 129, 648, 647, 1176, 1177, 137, 1179, 1178, 662, 663, 129, 665, 664, 1191, 1192, 137, 1194, 1193]) rfl, Zan_in (hs := []) rfl⟩
set_option maxRecDepth 100000 in
theorem Zw196_7 : (∀ w ∈ Zt196_7.flatMap (Zwo 196), w ∈ Ztg) ∧ ∀ w ∈ Zt196_7.flatMap (Zwn 196), w ∈ Znest := ⟨Zat_in (hs := [676, 677, 129, 679, 678, 1200, 1201, 137, 1203, 1202, 680, 681, 129, 683, 682, 1204, 1205, 137, 1207, 1206]) rfl, Zan_in (hs := []) rfl⟩
set_option maxRecDepth 100000 in
theorem Zw196_8 : (∀ w ∈ Zt196_8.flatMap (Zwo 196), w ∈ Ztg) ∧ ∀ w ∈ Zt196_8.flatMap (Zwn 196), w ∈ Znest := ⟨Zat_in (hs := [685, 686, 129, 688, 687, 1208, 1209, 137, 1211, 1210, 706, 707, 129, 709, 708, 1220, 1221, 137, 1223, 1222, 718, 719, 129, 721, 720]) rfl, Zan_in (hs := []) rfl⟩
set_option maxRecDepth 100000 in
theorem Zw196_9 : (∀ w ∈ Zt196_9.flatMap (Zwo 196), w ∈ Ztg) ∧ ∀ w ∈ Zt196_9.flatMap (Zwn 196), w ∈ Znest := ⟨Zat_in (hs := [1224, 1225, 137, 1227, 1226, 754, 755, 129, 757, 756, 1235, 1236, 137, 1238, 1237, 764, 765, 129, 767, 766, 1242, 1243, 137, 1245, 1244]) rfl, Zan_in (hs := []) rfl⟩
set_option maxRecDepth 100000 in
theorem Zw196_10 : (∀ w ∈ Zt196_10.flatMap (Zwo 196), w ∈ Ztg) ∧ ∀ w ∈ Zt196_10.flatMap (Zwn 196), w ∈ Znest := ⟨Zat_in (hs := [775, 776, 129, 778, 777, 1249, 1250, 137, 1252, 1251, 786, 787, 129, 789, 788, 1260, 1261, 137, 1263, 1262]) rfl, Zan_in (hs := []) rfl⟩
set_option maxRecDepth 100000 in
theorem Zw196_11 : (∀ w ∈ Zt196_11.flatMap (Zwo 196), w ∈ Ztg) ∧ ∀ w ∈ Zt196_11.flatMap (Zwn 196), w ∈ Znest := ⟨Zat_in (hs := [813, 814, 129, 816, 815, 1292, 1293, 137, 1295, 1294, 817, 818, 129, 820, 819, 1296, 1297, 137, 1299, 1298]) rfl, Zan_in (hs := []) rfl⟩
set_option maxRecDepth 100000 in
theorem Zw196_12 : (∀ w ∈ Zt196_12.flatMap (Zwo 196), w ∈ Ztg) ∧ ∀ w ∈ Zt196_12.flatMap (Zwn 196), w ∈ Znest := ⟨Zat_in (hs := [826, 827, 129, 829, 828, 1300, 1301, 137, 1303, 1302, 838, 839, 129, 841, 840]) rfl, Zan_in (hs := []) rfl⟩
set_option maxRecDepth 100000 in
theorem Zw196_13 : (∀ w ∈ Zt196_13.flatMap (Zwo 196), w ∈ Ztg) ∧ ∀ w ∈ Zt196_13.flatMap (Zwn 196), w ∈ Znest := ⟨Zat_in (hs := [1304, 1305, 137, 1307, 1306, 847, 848, 129, 850, 849, 1308, 1309, 137, 1311, 1310, 851, 852, 129, 854, 853, 1312, 1313, 137, 1315, 1314, 855, 856, 129, 858, 857, 1316, 1317, 137, 1319, 1318]) rfl, Zan_in (hs := []) rfl⟩
set_option maxRecDepth 100000 in
theorem Zw196_14 : (∀ w ∈ Zt196_14.flatMap (Zwo 196), w ∈ Ztg) ∧ ∀ w ∈ Zt196_14.flatMap (Zwn 196), w ∈ Znest := ⟨Zat_in (hs := [869, 870, 129, 872, 871, 1323, 1324, 137, 1326, 1325, 873, 874, 129, 876, 875, 1327, 1328, 137, 1330, 1329, 877, 878, 129, 896, 879, 1331, 1332, 137, 1334, 1333, 897, 898, 129, 900, 899, 1335, 1336, 137, 1338, 1337, 901, 902, 129, 904, 903]) rfl, Zan_in (hs := []) rfl⟩
set_option maxRecDepth 100000 in
theorem Zw196_15 : (∀ w ∈ Zt196_15.flatMap (Zwo 196), w ∈ Ztg) ∧ ∀ w ∈ Zt196_15.flatMap (Zwn 196), w ∈ Znest := ⟨Zat_in (hs := [1339, 1340, 137, 1342, 1341]) rfl, Zan_in (hs := []) rfl⟩
set_option maxRecDepth 100000 in
theorem Zk196 : Zchk 196 Zt196 := by
  refine ⟨?_, by decide +kernel, ?_, ?_⟩
  · unfold Zt196
    simp only [List.all_append, Bool.and_eq_true]
    exact ⟨Zk196_0, Zk196_1, Zk196_2, Zk196_3, Zk196_4, Zk196_5, Zk196_6, Zk196_7, Zk196_8, Zk196_9, Zk196_10, Zk196_11, Zk196_12, Zk196_13, Zk196_14, Zk196_15⟩
  · unfold Zt196
    simp only [List.flatMap_append]
    exact (List.forall_mem_append.mpr ⟨Zw196_0.1, (List.forall_mem_append.mpr ⟨Zw196_1.1, (List.forall_mem_append.mpr ⟨Zw196_2.1, (List.forall_mem_append.mpr ⟨Zw196_3.1, (List.forall_mem_append.mpr ⟨Zw196_4.1, (List.forall_mem_append.mpr ⟨Zw196_5.1, (List.forall_mem_append.mpr ⟨Zw196_6.1, (List.forall_mem_append.mpr ⟨Zw196_7.1, (List.forall_mem_append.mpr ⟨Zw196_8.1, (List.forall_mem_append.mpr ⟨Zw196_9.1, (List.forall_mem_append.mpr ⟨Zw196_10.1, (List.forall_mem_append.mpr ⟨Zw196_11.1, (List.forall_mem_append.mpr ⟨Zw196_12.1, (List.forall_mem_append.mpr ⟨Zw196_13.1, (List.forall_mem_append.mpr ⟨Zw196_14.1, (Zw196_15.1)⟩)⟩)⟩)⟩)⟩)⟩)⟩)⟩)⟩)⟩)⟩)⟩)⟩)⟩)⟩)
  · unfold Zt196
    simp only [List.flatMap_append]
    exact (List.forall_mem_append.mpr ⟨Zw196_0.2, (List.forall_mem_append.mpr ⟨Zw196_1.2, (List.forall_mem_append.mpr ⟨Zw196_2.2, (List.forall_mem_append.mpr ⟨Zw196_3.2, (List.forall_mem_append.mpr ⟨Zw196_4.2, (List.forall_mem_append.mpr ⟨Zw196_5.2, (List.forall_mem_append.mpr ⟨Zw196_6.2, (List.forall_mem_append.mpr ⟨Zw196_7.2, (List.forall_mem_append.mpr ⟨Zw196_8.2, (List.forall_mem_append.mpr ⟨Zw196_9.2, (List.forall_mem_append.mpr ⟨Zw196_10.2, (List.forall_mem_append.mpr ⟨Zw196_11.2, (List.forall_mem_append.mpr ⟨Zw196_12.2, (List.forall_mem_append.mpr ⟨Zw196_13.2, (List.forall_mem_append.mpr ⟨Zw196_14.2, (Zw196_15.2)⟩)⟩)⟩)⟩)⟩)⟩)⟩)⟩)⟩)⟩)⟩)⟩)⟩)⟩)⟩)
/-- java/lang/Integer.bitCount(I)I -/
def Zt197 : List Zent := [(0, 1, .iload_n 0, 0, 0, []),
  (1, 1, .iload_n 0, 0, 0, []),
  (2, 1, .iconst 1, 1, 0, []),
  (3, 1, .iushr, 0, 0, []),
  (4, 3, .ldc_w 265, 1431655765, 0, []),
  (7, 1, .iand, 0, 0, []),
  (8, 1, .isub, 0, 0, []),
  (9, 1, .istore_n 0, 0, 0, []),
  (10, 1, .iload_n 0, 0, 0, []),
  (11, 3, .ldc_w 266, 858993459, 0, []),
  (14, 1, .iand, 0, 0, []),
  (15, 1, .iload_n 0, 0, 0, []),
  (16, 1, .iconst 2, 2, 0, []),
  (17, 1, .iushr, 0, 0, []),
  (18, 3, .ldc_w 266, 858993459, 0, []),
  (21, 1, .iand, 0, 0, []),
  (22, 1, .iadd, 0, 0, []),
  (23, 1, .istore_n 0, 0, 0, []),
  (24, 1, .iload_n 0, 0, 0, []),
  (25, 1, .iload_n 0, 0, 0, []),
  (26, 1, .iconst 4, 4, 0, []),
  (27, 1, .iushr, 0, 0, []),
  (28, 1, .iadd, 0, 0, []),
  (29, 3, .ldc_w 267, 252645135, 0, []),
  (32, 1, .iand, 0, 0, []),
  (33, 1, .istore_n 0, 0, 0, []),
  (34, 1, .iload_n 0, 0, 0, []),
  (35, 1, .iload_n 0, 0, 0, []),
  (36, 2, .bipush 8, 8, 0, []),
  (38, 1, .iushr, 0, 0, []),
  (39, 1, .iadd, 0, 0, []),
  (40, 1, .istore_n 0, 0, 0, []),
  (41, 1, .iload_n 0, 0, 0, []),
  (42, 1, .iload_n 0, 0, 0, []),
  (43, 2, .bipush 16, 16, 0, []),
  (45, 1, .iushr, 0, 0, []),
  (46, 1, .iadd, 0, 0, []),
  (47, 1, .istore_n 0, 0, 0, []),
  (48, 1, .iload_n 0, 0, 0, []),
  (49, 2, .bipush 63, 63, 0, []),
  (51, 1, .iand, 0, 0, []),
  (52, 1, .ireturn, 0, 0, [])]
set_option maxRecDepth 100000 in
theorem Zk197 : Zchk 197 Zt197 := ⟨by decide +kernel, by decide +kernel, Zat_in (hs := [761, 762, 762, 763]) rfl, Zan_in (hs := []) rfl⟩
/-- java/lang/Math.abs(I)I -/
def Zt198 : List Zent := [(0, 1, .iload_n 0, 0, 0, []),
  (1, 3, .ifCond .ge (8), 9, 0, []),
  (4, 1, .iload_n 0, 0, 0, []),
  (5, 1, .ineg, 0, 0, []),
  (6, 3, .goto (4), 10, 0, []),
  (9, 1, .iload_n 0, 0, 0, []),
  (10, 1, .ireturn, 0, 0, [])]
set_option maxRecDepth 100000 in
theorem Zk198 : Zchk 198 Zt198 := ⟨by decide +kernel, by decide +kernel, Zat_in (hs := []) rfl, Zan_in (hs := []) rfl⟩
/-- java/lang/Math.floorMod(II)I -/
def Zt199 : List Zent := [(0, 1, .iload_n 0, 0, 0, []),
  (1, 1, .iload_n 1, 1, 0, []),
  (2, 1, .irem, 0, 0, []),
  (3, 1, .istore_n 2, 2, 0, []),
  (4, 1, .iload_n 0, 0, 0, []),
  (5, 1, .iload_n 1, 1, 0, []),
  (6, 1, .ixor, 0, 0, []),
  (7, 3, .ifCond .ge (11), 18, 0, []),
  (10, 1, .iload_n 2, 2, 0, []),
  (11, 3, .ifCond .eq (7), 18, 0, []),
  (14, 1, .iload_n 2, 2, 0, []),
  (15, 1, .iload_n 1, 1, 0, []),
  (16, 1, .iadd, 0, 0, []),
  (17, 1, .ireturn, 0, 0, []),
  (18, 1, .iload_n 2, 2, 0, []),
  (19, 1, .ireturn, 0, 0, [])]
set_option maxRecDepth 100000 in
theorem Zk199 : Zchk 199 Zt199 := ⟨by decide +kernel, by decide +kernel, Zat_in (hs := []) rfl, Zan_in (hs := []) rfl⟩
/-- java/lang/Math.max(II)I -/
def Zt200 : List Zent := [(0, 1, .iload_n 0, 0, 0, []),
  (1, 1, .iload_n 1, 1, 0, []),
  (2, 3, .if_icmp .lt (7), 9, 0, []),
  (5, 1, .iload_n 0, 0, 0, []),
  (6, 3, .goto (4), 10, 0, []),
  (9, 1, .iload_n 1, 1, 0, []),
  (10, 1, .ireturn, 0, 0, [])]
set_option maxRecDepth 100000 in
theorem Zk200 : Zchk 200 Zt200 := ⟨by decide +kernel, by decide +kernel, Zat_in (hs := []) rfl, Zan_in (hs := []) rfl⟩
/-- java/lang/Math.min(II)I -/
def Zt201 : List Zent := [(0, 1, .iload_n 0, 0, 0, []),
  (1, 1, .iload_n 1, 1, 0, []),
  (2, 3, .if_icmp .gt (7), 9, 0, []),
  (5, 1, .iload_n 0, 0, 0, []),
  (6, 3, .goto (4), 10, 0, []),
  (9, 1, .iload_n 1, 1, 0, []),
  (10, 1, .ireturn, 0, 0, [])]
set_option maxRecDepth 100000 in
theorem Zk201 : Zchk 201 Zt201 := ⟨by decide +kernel, by decide +kernel, Zat_in (hs := []) rfl, Zan_in (hs := []) rfl⟩
end
section
-- numbers
theorem Zn_lt {a_z b_z : Nat} (ha_z : a_z < 2 ^ 31) (hb_z : b_z < 2 ^ 31) : nI a_z < nI b_z ↔ a_z < b_z := nI_ltI ha_z hb_z
theorem Zn_le {a_z b_z : Nat} (ha_z : a_z < 2 ^ 31) (hb_z : b_z < 2 ^ 31) : nI a_z ≤ nI b_z ↔ a_z ≤ b_z := nI_leI ha_z hb_z
theorem Zn_eq {a_z b_z : Nat} (ha_z : a_z < 2 ^ 31) (hb_z : b_z < 2 ^ 31) : nI a_z = nI b_z ↔ a_z = b_z := nI_eq ha_z hb_z
theorem Zlt_i (a_z b_z : Int32) : a_z < b_z ↔ a_z.toInt < b_z.toInt := Int32.lt_iff_toInt_lt
theorem Zle_i (a_z b_z : Int32) : a_z ≤ b_z ↔ a_z.toInt ≤ b_z.toInt := Int32.le_iff_toInt_le
theorem Zeq_i (a_z b_z : Int32) : a_z = b_z ↔ a_z.toInt = b_z.toInt := ⟨fun h_z => by rw [h_z], fun h_z => Int32.toInt_inj.mp h_z⟩
theorem Zr_lo (a_z : Int32) : -2147483648 ≤ a_z.toInt := by have := Int32.le_toInt a_z; omega
theorem Zr_hi (a_z : Int32) : a_z.toInt ≤ 2147483647 := by have := Int32.toInt_lt a_z; omega
theorem Zn_i {n_z : Nat} (h_z : n_z < 2 ^ 31) : (nI n_z).toInt = (n_z : Int) := nI_toInt h_z
theorem Zneg_i {n_z : Nat} (h_z : n_z < 2 ^ 31) : (-(nI n_z)).toInt = -(n_z : Int) := by
  rw [Int32.toInt_neg, nI_toInt h_z]
  exact Int.bmod_eq_of_le (by omega) (by omega)
theorem Zadd_i {a_z b_z : Int32} (h1_z : -2147483648 ≤ a_z.toInt + b_z.toInt) (h2_z : a_z.toInt + b_z.toInt < 2147483648) : (a_z + b_z).toInt = a_z.toInt + b_z.toInt := by
  rw [Int32.toInt_add]
  exact Int.bmod_eq_of_le (by omega) (by omega)
theorem Zsub_i {a_z b_z : Int32} (h1_z : -2147483648 ≤ a_z.toInt - b_z.toInt) (h2_z : a_z.toInt - b_z.toInt < 2147483648) : (a_z - b_z).toInt = a_z.toInt - b_z.toInt := by
  rw [Int32.toInt_sub]
  exact Int.bmod_eq_of_le (by omega) (by omega)
theorem Zmul_i {a_z b_z : Int32} (h1_z : -2147483648 ≤ a_z.toInt * b_z.toInt) (h2_z : a_z.toInt * b_z.toInt < 2147483648) : (a_z * b_z).toInt = a_z.toInt * b_z.toInt := by
  rw [Int32.toInt_mul]
  exact Int.bmod_eq_of_le (by omega) (by omega)
theorem Zin_i {x_z : Int32} {n_z : Nat} : vp_in x_z n_z ↔ 0 ≤ x_z.toInt ∧ x_z.toInt < n_z := vp_in_iff
theorem Zin_n {j_z n_z : Nat} (h_z : j_z < n_z) (hn_z : n_z < 2 ^ 31) : vp_in (nI j_z) n_z := vp_in_nI h_z hn_z
theorem Zof {x_z : Int32} (h_z : 0 ≤ x_z.toInt) : ∃ j_z : Nat, j_z < 2 ^ 31 ∧ x_z = nI j_z ∧ x_z.toInt = j_z := by
  refine ⟨x_z.toInt.toNat, by have := Zr_hi x_z; omega, ?_, by omega⟩
  rw [Zeq_i, Zn_i (by have := Zr_hi x_z; omega)]
  omega
theorem Zcl_n {j_z : Nat} (h_z : j_z < 2 ^ 31) : (nI j_z).toNatClampNeg = j_z := nI_clamp h_z
theorem Zn0 : nI 0 = 0 := nI_0
/-- what nobody keeps from one call to the next -/
def scr (o_z k_z : Nat) : Bool := match o_z with
  | 10 => true | 26 => true | 13 => true | 16 => true | 29 => true | 32 => true
  | 33 => true | 34 => true | 35 => true | 36 => true | 37 => true | 38 => true | 39 => true
  | 40 => k_z != 1 | 41 => true | 42 => true | 44 => true
  | 11 => k_z == 4 | 14 => k_z == 4 | 27 => k_z == 4 | 30 => k_z == 4
  | 53 => k_z != 2 && k_z != 19
  | 56 => true | 57 => true | 58 => true | 59 => true | 60 => true | 61 => true | 62 => true | 63 => true | 64 => true | 65 => true | 69 => true
  | _ => false
/-- nothing is changed but what nobody keeps -/
def Sc (M M' : Zmem) : Prop := ∀ o_z k_z, scr o_z k_z = false → M' o_z k_z = M o_z k_z
theorem Sc.rf (M : Zmem) : Sc M M := fun _ _ _ => rfl
theorem Sc.tr {M M' M'' : Zmem} (h_z : Sc M M') (h2_z : Sc M' M'') : Sc M M'' := fun o_z k_z q_z => (h2_z o_z k_z q_z).trans (h_z o_z k_z q_z)
theorem Zu_k (M : Zmem) (o_z k_z : Nat) (v_z : Int32) (a_z j_z : Nat) : Zu M o_z k_z v_z a_z j_z = if a_z = o_z ∧ j_z = k_z then v_z else M a_z j_z := by
  unfold Zu upd
  by_cases h_z : a_z = o_z
  · by_cases h2_z : j_z = k_z
    · simp [h_z, h2_z]
    · simp [h_z, h2_z]
  · simp [h_z]
theorem Sc.u {M M' : Zmem} {o_z k_z : Nat} (h_z : Sc M M') (v_z : Int32) (hs_z : scr o_z k_z = true) : Sc M (Zu M' o_z k_z v_z) := by
  intro a_z j_z hq_z
  rw [Zu_k, if_neg]
  · exact h_z a_z j_z hq_z
  · rintro ⟨rfl, rfl⟩
    rw [hs_z] at hq_z
    cases hq_z
/-- a_z truth value as a_z number -/
def Zb (r_z : Option Value) (C : Prop) : Prop := (r_z = some (.int (nI 1)) ∧ C) ∨ (r_z = some (.int (nI 0)) ∧ ¬ C)

set_option maxRecDepth 20000 in
theorem c_max (a_z b_z : Int32) (M : Zmem) : ZC 200 0 [.int a_z, .int b_z] M (fun r_z M' => r_z = some (.int (if a_z < b_z then b_z else a_z)) ∧ M = M') := by
  refine ZC_of Zt200 Zk200 (Nat.le_of_ble_eq_true rfl) (by decide) rfl (fun X hX hE => ?_)
  refine Zgo hX 2 rfl trivial ?_
  refine Zs_ilt hX (List.cons_ne_nil _ _) (fun h2_z => ?_) (fun h2_z => ?_)
  · skip
    refine Zgo hX 1 rfl trivial ?_
    refine Zs_ret hX hE rfl ⟨by first | rw [if_pos h2_z] | rw [if_neg h2_z], rfl⟩
  · skip
    refine Zgo hX 2 rfl trivial ?_
    refine Zs_ret hX hE rfl ⟨by first | rw [if_pos h2_z] | rw [if_neg h2_z], rfl⟩

set_option maxRecDepth 20000 in
theorem c_min (a_z b_z : Int32) (M : Zmem) : ZC 201 0 [.int a_z, .int b_z] M (fun r_z M' => r_z = some (.int (if b_z < a_z then b_z else a_z)) ∧ M = M') := by
  refine ZC_of Zt201 Zk201 (Nat.le_of_ble_eq_true rfl) (by decide) rfl (fun X hX hE => ?_)
  refine Zgo hX 2 rfl trivial ?_
  refine Zs_igt hX (List.cons_ne_nil _ _) (fun h2_z => ?_) (fun h2_z => ?_)
  · skip
    refine Zgo hX 1 rfl trivial ?_
    refine Zs_ret hX hE rfl ⟨by first | rw [if_pos h2_z] | rw [if_neg h2_z], rfl⟩
  · skip
    refine Zgo hX 2 rfl trivial ?_
    refine Zs_ret hX hE rfl ⟨by first | rw [if_pos h2_z] | rw [if_neg h2_z], rfl⟩

set_option maxRecDepth 20000 in
theorem c_abs (a_z : Int32) (M : Zmem) : ZC 198 0 [.int a_z] M (fun r_z M' => r_z = some (.int (if 0 ≤ a_z then a_z else -a_z)) ∧ M = M') := by
  refine ZC_of Zt198 Zk198 (Nat.le_of_ble_eq_true rfl) (by decide) rfl (fun X hX hE => ?_)
  refine Zgo hX 1 rfl trivial ?_
  refine Zs_ge hX (List.cons_ne_nil _ _) (fun h1_z => ?_) (fun h1_z => ?_)
  · skip
    refine Zgo hX 1 rfl trivial ?_
    refine Zs_ret hX hE rfl ⟨by first | rw [if_pos h1_z] | rw [if_neg h1_z], rfl⟩
  · skip
    refine Zgo hX 3 rfl trivial ?_
    refine Zs_ret hX hE rfl ⟨by first | rw [if_pos h1_z] | rw [if_neg h1_z], rfl⟩

set_option maxRecDepth 20000 in
theorem c_floorMod (a_z b_z : Int32) (M : Zmem) (h0_z : ¬ b_z = nI 0) : ZC 199 0 [.int a_z, .int b_z] M (fun r_z M' => r_z = some (.int (if (a_z ^^^ b_z) < 0 ∧ ¬ (a_z - a_z / b_z * b_z) = 0 then a_z - a_z / b_z * b_z + b_z else a_z - a_z / b_z * b_z)) ∧ M = M') := by
  refine ZC_of Zt199 Zk199 (Nat.le_of_ble_eq_true rfl) (by decide) rfl (fun X hX hE => ?_)
  refine Zgo hX 7 rfl h0_z ?_
  refine Zs_ge hX (List.cons_ne_nil _ _) (fun h7_z => ?_) (fun h7_z => ?_)
  · skip
    refine Zgo hX 1 rfl trivial ?_
    refine Zs_ret hX hE rfl ⟨by rw [if_neg (by intro q_z; first | exact Int32.not_lt.mpr h7_z q_z.1 | exact q_z.2 h11_z)], rfl⟩
  · skip
    refine Zgo hX 1 rfl trivial ?_
    refine Zs_eq hX (List.cons_ne_nil _ _) (fun h11_z => ?_) (fun h11_z => ?_)
    · skip
      refine Zgo hX 1 rfl trivial ?_
      refine Zs_ret hX hE rfl ⟨by rw [if_neg (by intro q_z; first | exact Int32.not_lt.mpr h7_z q_z.1 | exact q_z.2 h11_z)], rfl⟩
    · skip
      refine Zgo hX 3 rfl trivial ?_
      refine Zs_ret hX hE rfl ⟨by rw [if_pos ⟨Int32.not_le.mp h7_z, h11_z⟩], rfl⟩

set_option maxRecDepth 20000 in
theorem c_bitCount (a_z : Int32) (M : Zmem) : ZC 197 0 [.int a_z] M (fun r_z M' => (∃ v_z : Int32, r_z = some (.int v_z)) ∧ M = M') := by
  refine ZC_of Zt197 Zk197 (Nat.le_of_ble_eq_true rfl) (by decide) rfl (fun X hX hE => ?_)
  refine Zgo hX 41 rfl trivial ?_
  refine Zs_ret hX hE rfl ⟨⟨_, rfl⟩, rfl⟩

set_option maxRecDepth 20000 in
theorem k_within (v_z a_z b_z : Int32) (M : Zmem) : ZC 46 0 [.int v_z, .int a_z, .int b_z] M (fun r_z M' => Zb r_z (a_z ≤ v_z ∧ v_z ≤ b_z) ∧ M = M') := by
  refine ZC_of Zt46 Zk46 (Nat.le_of_ble_eq_true rfl) (by decide) rfl (fun X hX hE => ?_)
  refine Zgo hX 2 rfl trivial ?_
  refine Zs_ilt hX (List.cons_ne_nil _ _) (fun h1_z => ?_) (fun h1_z => ?_)
  · skip
    refine Zgo hX 1 rfl trivial ?_
    refine Zs_retz hX hE rfl (by first | exact Or.inl rfl | exact Or.inr rfl | assumption) ⟨by first | exact Or.inr ⟨rfl, fun q_z => Int32.not_le.mpr h1_z q_z.1⟩ | exact Or.inr ⟨rfl, fun q_z => Int32.not_le.mpr h2_z q_z.2⟩ | exact Or.inl ⟨rfl, Int32.not_lt.mp h1_z, Int32.not_lt.mp h2_z⟩, rfl⟩
  · skip
    refine Zgo hX 2 rfl trivial ?_
    refine Zs_igt hX (List.cons_ne_nil _ _) (fun h2_z => ?_) (fun h2_z => ?_)
    · skip
      refine Zgo hX 1 rfl trivial ?_
      refine Zs_retz hX hE rfl (by first | exact Or.inl rfl | exact Or.inr rfl | assumption) ⟨by first | exact Or.inr ⟨rfl, fun q_z => Int32.not_le.mpr h1_z q_z.1⟩ | exact Or.inr ⟨rfl, fun q_z => Int32.not_le.mpr h2_z q_z.2⟩ | exact Or.inl ⟨rfl, Int32.not_lt.mp h1_z, Int32.not_lt.mp h2_z⟩, rfl⟩
    · skip
      refine Zgo hX 2 rfl trivial ?_
      refine Zs_retz hX hE rfl (by first | exact Or.inl rfl | exact Or.inr rfl | assumption) ⟨by first | exact Or.inr ⟨rfl, fun q_z => Int32.not_le.mpr h1_z q_z.1⟩ | exact Or.inr ⟨rfl, fun q_z => Int32.not_le.mpr h2_z q_z.2⟩ | exact Or.inl ⟨rfl, Int32.not_lt.mp h1_z, Int32.not_lt.mp h2_z⟩, rfl⟩

set_option maxRecDepth 20000 in
theorem s_in (v_z a_z b_z : Int32) (M : Zmem) : ZC 51 0 [.int v_z, .int a_z, .int b_z] M (fun r_z M' => Zb r_z (a_z ≤ v_z ∧ v_z ≤ b_z) ∧ M = M') := by
  refine ZC_of Zt51 Zk51 (Nat.le_of_ble_eq_true rfl) (by decide) rfl (fun X hX hE => ?_)
  refine Zgo hX 2 rfl trivial ?_
  refine Zs_ilt hX (List.cons_ne_nil _ _) (fun h1_z => ?_) (fun h1_z => ?_)
  · skip
    refine Zgo hX 1 rfl trivial ?_
    refine Zs_retz hX hE rfl (by first | exact Or.inl rfl | exact Or.inr rfl | assumption) ⟨by first | exact Or.inr ⟨rfl, fun q_z => Int32.not_le.mpr h1_z q_z.1⟩ | exact Or.inr ⟨rfl, fun q_z => Int32.not_le.mpr h2_z q_z.2⟩ | exact Or.inl ⟨rfl, Int32.not_lt.mp h1_z, Int32.not_lt.mp h2_z⟩, rfl⟩
  · skip
    refine Zgo hX 2 rfl trivial ?_
    refine Zs_igt hX (List.cons_ne_nil _ _) (fun h2_z => ?_) (fun h2_z => ?_)
    · skip
      refine Zgo hX 1 rfl trivial ?_
      refine Zs_retz hX hE rfl (by first | exact Or.inl rfl | exact Or.inr rfl | assumption) ⟨by first | exact Or.inr ⟨rfl, fun q_z => Int32.not_le.mpr h1_z q_z.1⟩ | exact Or.inr ⟨rfl, fun q_z => Int32.not_le.mpr h2_z q_z.2⟩ | exact Or.inl ⟨rfl, Int32.not_lt.mp h1_z, Int32.not_lt.mp h2_z⟩, rfl⟩
    · skip
      refine Zgo hX 2 rfl trivial ?_
      refine Zs_retz hX hE rfl (by first | exact Or.inl rfl | exact Or.inr rfl | assumption) ⟨by first | exact Or.inr ⟨rfl, fun q_z => Int32.not_le.mpr h1_z q_z.1⟩ | exact Or.inr ⟨rfl, fun q_z => Int32.not_le.mpr h2_z q_z.2⟩ | exact Or.inl ⟨rfl, Int32.not_lt.mp h1_z, Int32.not_lt.mp h2_z⟩, rfl⟩

set_option maxRecDepth 20000 in
theorem k_held (v_z a_z b_z : Int32) (M : Zmem) : ZC 47 1 [.int v_z, .int a_z, .int b_z] M (fun r_z M' => r_z = some (.int (if a_z < (if v_z < b_z then v_z else b_z) then (if v_z < b_z then v_z else b_z) else a_z)) ∧ M = M') := by
  refine ZC_of Zt47 Zk47 (Nat.le_of_ble_eq_true rfl) (by decide) rfl (fun X hX hE => ?_)
  refine Zgo hX 3 rfl trivial ?_
  refine Zs_calls hX (List.cons_ne_nil _ _) (by decide) (c_min _ _ _) (by decide) rfl rfl (by decide) (Nat.le_of_ble_eq_true rfl) (fun r_z M' hc_z => ?_)
  obtain ⟨rfl, rfl⟩ := hc_z
  refine Zs_calls hX (List.cons_ne_nil _ _) (by decide) (c_max _ _ _) (by decide) rfl rfl (by decide) (Nat.le_of_ble_eq_true rfl) (fun r_z M' hc_z => ?_)
  obtain ⟨rfl, rfl⟩ := hc_z
  refine Zs_ret hX hE rfl ⟨rfl, rfl⟩

set_option maxRecDepth 20000 in
theorem s_held (v_z a_z b_z : Int32) (M : Zmem) : ZC 52 0 [.int v_z, .int a_z, .int b_z] M (fun r_z M' => r_z = some (.int (if v_z < a_z then a_z else if b_z < v_z then b_z else v_z)) ∧ M = M') := by
  refine ZC_of Zt52 Zk52 (Nat.le_of_ble_eq_true rfl) (by decide) rfl (fun X hX hE => ?_)
  refine Zgo hX 2 rfl trivial ?_
  refine Zs_ige hX (List.cons_ne_nil _ _) (fun h1_z => ?_) (fun h1_z => ?_)
  · skip
    refine Zgo hX 2 rfl trivial ?_
    refine Zs_ile hX (List.cons_ne_nil _ _) (fun h2_z => ?_) (fun h2_z => ?_)
    · skip
      refine Zgo hX 1 rfl trivial ?_
      refine Zs_ret hX hE rfl ⟨by first | rw [if_pos (Int32.not_le.mp h1_z)] | rw [if_neg (Int32.not_lt.mpr h1_z), if_pos (Int32.not_le.mp h2_z)] | rw [if_neg (Int32.not_lt.mpr h1_z), if_neg (Int32.not_lt.mpr h2_z)], rfl⟩
    · skip
      refine Zgo hX 2 rfl trivial ?_
      refine Zs_ret hX hE rfl ⟨by first | rw [if_pos (Int32.not_le.mp h1_z)] | rw [if_neg (Int32.not_lt.mpr h1_z), if_pos (Int32.not_le.mp h2_z)] | rw [if_neg (Int32.not_lt.mpr h1_z), if_neg (Int32.not_lt.mpr h2_z)], rfl⟩
  · skip
    refine Zgo hX 2 rfl trivial ?_
    refine Zs_ret hX hE rfl ⟨by first | rw [if_pos (Int32.not_le.mp h1_z)] | rw [if_neg (Int32.not_lt.mpr h1_z), if_pos (Int32.not_le.mp h2_z)] | rw [if_neg (Int32.not_lt.mpr h1_z), if_neg (Int32.not_lt.mpr h2_z)], rfl⟩

set_option maxRecDepth 20000 in
theorem k_isStitch (v_z : Int32) (M : Zmem) : ZC 39 1 [.int v_z] M (fun r_z M' => Zb r_z (nI 0 ≤ v_z ∧ v_z ≤ nI 69) ∧ M = M') := by
  refine ZC_of Zt39 Zk39 (Nat.le_of_ble_eq_true rfl) (by decide) rfl (fun X hX hE => ?_)
  refine Zgo hX 3 rfl trivial ?_
  refine Zs_calls hX (List.cons_ne_nil _ _) (by decide) (k_within _ _ _ _) (by decide) rfl rfl (by decide) (Nat.le_of_ble_eq_true rfl) (fun r_z M' hc_z => ?_)
  rcases hc_z with ⟨⟨rfl, hb_z⟩ | ⟨rfl, hb_z⟩, rfl⟩
  · skip
    refine Zs_retz hX hE rfl (by first | exact Or.inl rfl | exact Or.inr rfl | assumption) ⟨by first | exact Or.inl ⟨rfl, hb_z⟩ | exact Or.inr ⟨rfl, hb_z⟩, rfl⟩
  · skip
    refine Zs_retz hX hE rfl (by first | exact Or.inl rfl | exact Or.inr rfl | assumption) ⟨by first | exact Or.inl ⟨rfl, hb_z⟩ | exact Or.inr ⟨rfl, hb_z⟩, rfl⟩

set_option maxRecDepth 20000 in
theorem k_isTension (v_z : Int32) (M : Zmem) : ZC 40 1 [.int v_z] M (fun r_z M' => Zb r_z (-(nI 9) ≤ v_z ∧ v_z ≤ nI 9) ∧ M = M') := by
  refine ZC_of Zt40 Zk40 (Nat.le_of_ble_eq_true rfl) (by decide) rfl (fun X hX hE => ?_)
  refine Zgo hX 3 rfl trivial ?_
  refine Zs_calls hX (List.cons_ne_nil _ _) (by decide) (k_within _ _ _ _) (by decide) rfl rfl (by decide) (Nat.le_of_ble_eq_true rfl) (fun r_z M' hc_z => ?_)
  rcases hc_z with ⟨⟨rfl, hb_z⟩ | ⟨rfl, hb_z⟩, rfl⟩
  · skip
    refine Zs_retz hX hE rfl (by first | exact Or.inl rfl | exact Or.inr rfl | assumption) ⟨by first | exact Or.inl ⟨rfl, hb_z⟩ | exact Or.inr ⟨rfl, hb_z⟩, rfl⟩
  · skip
    refine Zs_retz hX hE rfl (by first | exact Or.inl rfl | exact Or.inr rfl | assumption) ⟨by first | exact Or.inl ⟨rfl, hb_z⟩ | exact Or.inr ⟨rfl, hb_z⟩, rfl⟩

set_option maxRecDepth 20000 in
theorem k_isWater (v_z : Int32) (M : Zmem) : ZC 41 1 [.int v_z] M (fun r_z M' => Zb r_z (nI 0 ≤ v_z ∧ v_z ≤ nI 999) ∧ M = M') := by
  refine ZC_of Zt41 Zk41 (Nat.le_of_ble_eq_true rfl) (by decide) rfl (fun X hX hE => ?_)
  refine Zgo hX 3 rfl trivial ?_
  refine Zs_calls hX (List.cons_ne_nil _ _) (by decide) (k_within _ _ _ _) (by decide) rfl rfl (by decide) (Nat.le_of_ble_eq_true rfl) (fun r_z M' hc_z => ?_)
  rcases hc_z with ⟨⟨rfl, hb_z⟩ | ⟨rfl, hb_z⟩, rfl⟩
  · skip
    refine Zs_retz hX hE rfl (by first | exact Or.inl rfl | exact Or.inr rfl | assumption) ⟨by first | exact Or.inl ⟨rfl, hb_z⟩ | exact Or.inr ⟨rfl, hb_z⟩, rfl⟩
  · skip
    refine Zs_retz hX hE rfl (by first | exact Or.inl rfl | exact Or.inr rfl | assumption) ⟨by first | exact Or.inl ⟨rfl, hb_z⟩ | exact Or.inr ⟨rfl, hb_z⟩, rfl⟩

set_option maxRecDepth 20000 in
theorem k_isUse (v_z : Int32) (M : Zmem) : ZC 42 1 [.int v_z] M (fun r_z M' => Zb r_z (nI 0 ≤ v_z ∧ v_z ≤ nI 1) ∧ M = M') := by
  refine ZC_of Zt42 Zk42 (Nat.le_of_ble_eq_true rfl) (by decide) rfl (fun X hX hE => ?_)
  refine Zgo hX 3 rfl trivial ?_
  refine Zs_calls hX (List.cons_ne_nil _ _) (by decide) (k_within _ _ _ _) (by decide) rfl rfl (by decide) (Nat.le_of_ble_eq_true rfl) (fun r_z M' hc_z => ?_)
  rcases hc_z with ⟨⟨rfl, hb_z⟩ | ⟨rfl, hb_z⟩, rfl⟩
  · skip
    refine Zs_retz hX hE rfl (by first | exact Or.inl rfl | exact Or.inr rfl | assumption) ⟨by first | exact Or.inl ⟨rfl, hb_z⟩ | exact Or.inr ⟨rfl, hb_z⟩, rfl⟩
  · skip
    refine Zs_retz hX hE rfl (by first | exact Or.inl rfl | exact Or.inr rfl | assumption) ⟨by first | exact Or.inl ⟨rfl, hb_z⟩ | exact Or.inr ⟨rfl, hb_z⟩, rfl⟩

set_option maxRecDepth 20000 in
theorem k_isSheet (v_z : Int32) (M : Zmem) : ZC 43 1 [.int v_z] M (fun r_z M' => Zb r_z (nI 0 ≤ v_z ∧ v_z ≤ nI 3) ∧ M = M') := by
  refine ZC_of Zt43 Zk43 (Nat.le_of_ble_eq_true rfl) (by decide) rfl (fun X hX hE => ?_)
  refine Zgo hX 3 rfl trivial ?_
  refine Zs_calls hX (List.cons_ne_nil _ _) (by decide) (k_within _ _ _ _) (by decide) rfl rfl (by decide) (Nat.le_of_ble_eq_true rfl) (fun r_z M' hc_z => ?_)
  rcases hc_z with ⟨⟨rfl, hb_z⟩ | ⟨rfl, hb_z⟩, rfl⟩
  · skip
    refine Zs_retz hX hE rfl (by first | exact Or.inl rfl | exact Or.inr rfl | assumption) ⟨by first | exact Or.inl ⟨rfl, hb_z⟩ | exact Or.inr ⟨rfl, hb_z⟩, rfl⟩
  · skip
    refine Zs_retz hX hE rfl (by first | exact Or.inl rfl | exact Or.inr rfl | assumption) ⟨by first | exact Or.inl ⟨rfl, hb_z⟩ | exact Or.inr ⟨rfl, hb_z⟩, rfl⟩

set_option maxRecDepth 20000 in
theorem s_isTension (v_z : Int32) (M : Zmem) : ZC 55 1 [.int v_z] M (fun r_z M' => Zb r_z (-(nI 9) ≤ v_z ∧ v_z ≤ nI 9) ∧ M = M') := by
  refine ZC_of Zt55 Zk55 (Nat.le_of_ble_eq_true rfl) (by decide) rfl (fun X hX hE => ?_)
  refine Zgo hX 3 rfl trivial ?_
  refine Zs_calls hX (List.cons_ne_nil _ _) (by decide) (s_in _ _ _ _) (by decide) rfl rfl (by decide) (Nat.le_of_ble_eq_true rfl) (fun r_z M' hc_z => ?_)
  rcases hc_z with ⟨⟨rfl, hb_z⟩ | ⟨rfl, hb_z⟩, rfl⟩
  · skip
    refine Zs_retz hX hE rfl (by first | exact Or.inl rfl | exact Or.inr rfl | assumption) ⟨by first | exact Or.inl ⟨rfl, hb_z⟩ | exact Or.inr ⟨rfl, hb_z⟩, rfl⟩
  · skip
    refine Zs_retz hX hE rfl (by first | exact Or.inl rfl | exact Or.inr rfl | assumption) ⟨by first | exact Or.inl ⟨rfl, hb_z⟩ | exact Or.inr ⟨rfl, hb_z⟩, rfl⟩

set_option maxRecDepth 20000 in
theorem s_isKind (v_z : Int32) (M : Zmem) : ZC 88 1 [.int v_z] M (fun r_z M' => Zb r_z (nI 0 ≤ v_z ∧ v_z ≤ nI 69) ∧ M = M') := by
  refine ZC_of Zt88 Zk88 (Nat.le_of_ble_eq_true rfl) (by decide) rfl (fun X hX hE => ?_)
  refine Zgo hX 3 rfl trivial ?_
  refine Zs_calls hX (List.cons_ne_nil _ _) (by decide) (s_in _ _ _ _) (by decide) rfl rfl (by decide) (Nat.le_of_ble_eq_true rfl) (fun r_z M' hc_z => ?_)
  rcases hc_z with ⟨⟨rfl, hb_z⟩ | ⟨rfl, hb_z⟩, rfl⟩
  · skip
    refine Zs_retz hX hE rfl (by first | exact Or.inl rfl | exact Or.inr rfl | assumption) ⟨by first | exact Or.inl ⟨rfl, hb_z⟩ | exact Or.inr ⟨rfl, hb_z⟩, rfl⟩
  · skip
    refine Zs_retz hX hE rfl (by first | exact Or.inl rfl | exact Or.inr rfl | assumption) ⟨by first | exact Or.inl ⟨rfl, hb_z⟩ | exact Or.inr ⟨rfl, hb_z⟩, rfl⟩

set_option maxRecDepth 20000 in
theorem s_isWater (v_z : Int32) (M : Zmem) : ZC 99 1 [.int v_z] M (fun r_z M' => Zb r_z (nI 0 ≤ v_z ∧ v_z ≤ nI 999) ∧ M = M') := by
  refine ZC_of Zt99 Zk99 (Nat.le_of_ble_eq_true rfl) (by decide) rfl (fun X hX hE => ?_)
  refine Zgo hX 3 rfl trivial ?_
  refine Zs_calls hX (List.cons_ne_nil _ _) (by decide) (s_in _ _ _ _) (by decide) rfl rfl (by decide) (Nat.le_of_ble_eq_true rfl) (fun r_z M' hc_z => ?_)
  rcases hc_z with ⟨⟨rfl, hb_z⟩ | ⟨rfl, hb_z⟩, rfl⟩
  · skip
    refine Zs_retz hX hE rfl (by first | exact Or.inl rfl | exact Or.inr rfl | assumption) ⟨by first | exact Or.inl ⟨rfl, hb_z⟩ | exact Or.inr ⟨rfl, hb_z⟩, rfl⟩
  · skip
    refine Zs_retz hX hE rfl (by first | exact Or.inl rfl | exact Or.inr rfl | assumption) ⟨by first | exact Or.inl ⟨rfl, hb_z⟩ | exact Or.inr ⟨rfl, hb_z⟩, rfl⟩

set_option maxRecDepth 20000 in
theorem s_isSheet (v_z : Int32) (M : Zmem) : ZC 123 1 [.int v_z] M (fun r_z M' => Zb r_z (nI 0 ≤ v_z ∧ v_z ≤ nI 3) ∧ M = M') := by
  refine ZC_of Zt123 Zk123 (Nat.le_of_ble_eq_true rfl) (by decide) rfl (fun X hX hE => ?_)
  refine Zgo hX 3 rfl trivial ?_
  refine Zs_calls hX (List.cons_ne_nil _ _) (by decide) (s_in _ _ _ _) (by decide) rfl rfl (by decide) (Nat.le_of_ble_eq_true rfl) (fun r_z M' hc_z => ?_)
  rcases hc_z with ⟨⟨rfl, hb_z⟩ | ⟨rfl, hb_z⟩, rfl⟩
  · skip
    refine Zs_retz hX hE rfl (by first | exact Or.inl rfl | exact Or.inr rfl | assumption) ⟨by first | exact Or.inl ⟨rfl, hb_z⟩ | exact Or.inr ⟨rfl, hb_z⟩, rfl⟩
  · skip
    refine Zs_retz hX hE rfl (by first | exact Or.inl rfl | exact Or.inr rfl | assumption) ⟨by first | exact Or.inl ⟨rfl, hb_z⟩ | exact Or.inr ⟨rfl, hb_z⟩, rfl⟩
end
section
def Er (k_z : Nat) : Int32 := -(nI 1000000000) - nI k_z
def Zsaid (kd_z m_z : Nat) (w_z t se : Int32) : Int32 := match kd_z with
  | 1 => nI 2 * w_z - t + nI 1
  | 2 => nI 3 * (nI 2 * w_z - t) / nI 2
  | 3 => (nI 2 * w_z - t) / nI 2
  | 4 => nI 2 * w_z - t + nI 1 + nI m_z
  | 5 => if se - se / nI 4 * nI 4 = nI 3 then nI 3 * (nI 2 * w_z - t) / nI 2 else nI 3 * (nI 2 * w_z - t) / nI 2 / nI 2
  | 6 => nI 2 * w_z - t + w_z
  | _ => nI 2 * w_z - t
def Zbend (kd_z m_z : Nat) : Int32 := match kd_z with
  | 1 => nI (m_z % 3) - nI 1
  | 4 => nI 2 * (nI (m_z % 3) - nI 1)
  | 6 => nI 2
  | _ => nI 0
def Zabv (kd_z : Nat) : Int32 := ([-1, 0, 0, 0, 1, 2, 0] : List Int32).getD kd_z 0
def Zjn (c_z : Nat) (x_z y_z : Int32) : Int32 := match c_z with
  | 43 => x_z + y_z
  | 45 => x_z - y_z
  | 42 => x_z * y_z
  | 47 => if y_z = 0 then nI 0 else x_z / y_z
  | 37 => if y_z = 0 then nI 0 else x_z - x_z / y_z * y_z
  | 60 => if x_z < y_z then nI 1 else nI 0
  | 62 => if y_z < x_z then nI 1 else nI 0
  | 61 => if x_z = y_z then nI 1 else nI 0
  | 38 => if ¬ x_z = 0 ∧ ¬ y_z = 0 then nI 1 else nI 0
  | 124 => if ¬ x_z = 0 ∨ ¬ y_z = 0 then nI 1 else nI 0
  | _ => nI 0
def Zsg (c_z : Nat) : Prop := c_z = 124 ∨ c_z = 38 ∨ c_z = 60 ∨ c_z = 61 ∨ c_z = 62 ∨ c_z = 43 ∨ c_z = 45 ∨ c_z = 42 ∨ c_z = 47 ∨ c_z = 37
theorem Zdiv_m1 (x_z : Int32) : x_z / -(nI 1) = -x_z := by
  have e_z : -(nI 1) = (-1 : Int32) := by decide
  rw [e_z]
  apply Int32.toInt_inj.mp
  have h1_z : (-1 : Int32).toInt = -1 := by decide
  rw [Int32.toInt_div, h1_z, Int32.toInt_neg, Int.tdiv_neg, Int.tdiv_one]
theorem Zrem_m1 (x_z : Int32) : x_z - x_z / -(nI 1) * -(nI 1) = nI 0 := by
  rw [Zdiv_m1]
  have e_z : -(nI 1) = (-1 : Int32) := by decide
  rw [e_z, Int32.mul_neg, Int32.mul_one, Int32.neg_neg, Int32.sub_self]
  rfl
/-- between the first and the last number, as a_z place -/
theorem Zrow_iff {row_z : Int32} {n_z : Nat} (hn_z : n_z ≤ 1000) : (nI 0 ≤ row_z ∧ row_z ≤ nI n_z - nI 1) ↔ vp_in row_z n_z := by
  rw [Zle_i, Zle_i, Zin_i, Zn_i (by decide)]
  rw [Zsub_i (by rw [Zn_i (by omega), Zn_i (by decide)]; omega) (by rw [Zn_i (by omega), Zn_i (by decide)]; omega), Zn_i (by omega), Zn_i (by decide)]
  omega
theorem Zin_ex {x_z : Int32} {n_z : Nat} (h_z : vp_in x_z n_z) (hn_z : n_z < 2 ^ 31) : ∃ j_z, j_z < n_z ∧ x_z = nI j_z := vp_in_of h_z hn_z
/-- a_z row_z of numbers between 0 and b_z -/
theorem Zbt_ex {x_z : Int32} {b_z : Nat} (hb_z : b_z < 2 ^ 31) (h_z : nI 0 ≤ x_z ∧ x_z ≤ nI b_z) : ∃ j_z, j_z ≤ b_z ∧ x_z = nI j_z := by
  obtain ⟨h1_z, h2_z⟩ := h_z
  rw [Zle_i, Zn_i (by decide)] at h1_z
  rw [Zle_i, Zn_i hb_z] at h2_z
  obtain ⟨j_z, hj_z, e_z, e2_z⟩ := Zof (x_z := x_z) (by omega)
  exact ⟨j_z, by omega, e_z⟩
theorem Zbt_of {j_z b_z : Nat} (hb_z : b_z < 2 ^ 31) (h_z : j_z ≤ b_z) : nI 0 ≤ nI j_z ∧ nI j_z ≤ nI b_z := ⟨(Zn_le (by decide) (by omega)).mpr (Nat.zero_le _), (Zn_le (by omega) hb_z).mpr h_z⟩
theorem Zbt_no {j_z b_z : Nat} (hb_z : j_z < 2 ^ 31) (h_z : b_z < j_z) : ¬ (nI 0 ≤ nI j_z ∧ nI j_z ≤ nI b_z) := fun q_z => absurd ((Zn_le hb_z (by omega)).mp q_z.2) (by omega)
theorem Zne {a_z b_z : Nat} (ha_z : a_z < 2 ^ 31) (hb_z : b_z < 2 ^ 31) (h_z : ¬ nI a_z = nI b_z) : a_z ≠ b_z := fun q_z => h_z (by rw [q_z])
theorem Zeq {a_z b_z : Nat} (ha_z : a_z < 2 ^ 31) (hb_z : b_z < 2 ^ 31) (h_z : nI a_z = nI b_z) : a_z = b_z := (Zn_eq ha_z hb_z).mp h_z

set_option maxRecDepth 20000 in
theorem k_refuse (k_z : Nat) (M : Zmem) (hk_z : 1 ≤ k_z ∧ k_z ≤ 6) : ZC 37 1 [.ref 0, .int (nI k_z)] M (fun r_z M' => r_z = some (.int (Er k_z)) ∧ Sc M M') := by
  refine ZC_of Zt37 Zk37 (Nat.le_of_ble_eq_true rfl) (by decide) rfl (fun X hX hE => ?_)
  refine Zgo hX 3 rfl (by first | exact True.intro | (dsimp only [ZallP]; and_intros <;> (first | decide | ((try simp only [pk_mul, nI_add]); exact Zin_n (by omega) (by decide))))) ?_
  refine Zs_calls hX (List.cons_ne_nil _ _) (by decide) (k_within _ _ _ _) (by decide) rfl rfl (by decide) (Nat.le_of_ble_eq_true rfl) (fun r_z M' hc_z => ?_)
  rcases hc_z with ⟨⟨rfl, hb_z⟩ | ⟨rfl, hb_z⟩, rfl⟩
  · skip
    refine Zs_eq hX (List.cons_ne_nil _ _) (fun q_z => absurd q_z (by decide)) (fun _ => ?_)
    refine Zgo hX 11 rfl (by first | exact True.intro | (dsimp only [ZallP]; and_intros <;> (first | decide | ((try simp only [pk_mul, nI_add]); exact Zin_n (by omega) (by decide))))) ?_
    refine Zs_ret hX hE rfl ⟨rfl, (Sc.rf _).u _ rfl⟩
  · skip
    exact absurd ⟨(Zn_le (by decide) (by omega)).mpr hk_z.1, (Zn_le (by omega) (by decide)).mpr hk_z.2⟩ hb_z

set_option maxRecDepth 20000 in
theorem s_error (k_z : Nat) (M : Zmem) (hk_z : 1 ≤ k_z ∧ k_z ≤ 6) : ZC 50 0 [.ref 53, .int (nI k_z)] M (fun r_z M' => r_z = some (.int (Er k_z)) ∧ Sc M M') := by
  refine ZC_of Zt50 Zk50 (Nat.le_of_ble_eq_true rfl) (by decide) rfl (fun X hX hE => ?_)
  refine Zgo hX 11 rfl (by first | exact True.intro | (dsimp only [ZallP]; and_intros <;> (first | decide | ((try simp only [pk_mul, nI_add]); exact Zin_n (by omega) (by decide))))) ?_
  refine Zs_ret hX hE rfl ⟨rfl, (Sc.rf _).u _ rfl⟩

set_option maxRecDepth 20000 in
theorem k_isRow (row_z : Int32) (n_z : Nat) (M : Zmem) (hn_z : M 1 5 = nI n_z) (hn2 : n_z ≤ 15) : ZC 38 1 [.ref 0, .int row_z] M (fun r_z M' => Zb r_z (vp_in row_z n_z) ∧ M = M') := by
  refine ZC_of Zt38 Zk38 (Nat.le_of_ble_eq_true rfl) (by decide) rfl (fun X hX hE => ?_)
  refine Zgo hX 7 rfl (by first | exact True.intro | (dsimp only [ZallP]; and_intros <;> (first | decide | ((try simp only [pk_mul, nI_add]); exact Zin_n (by omega) (by decide))))) ?_
  try simp only [Zcl_n, Nat.reducePow, Nat.reduceLT]
  refine Zs_calls hX (List.cons_ne_nil _ _) (by decide) (k_within _ _ _ _) (by decide) rfl rfl (by decide) (Nat.le_of_ble_eq_true rfl) (fun r_z M' hc_z => ?_)
  rcases hc_z with ⟨⟨rfl, hb_z⟩ | ⟨rfl, hb_z⟩, rfl⟩
  · skip
    refine Zs_retz hX hE rfl (by first | exact Or.inl rfl | exact Or.inr rfl | assumption) ⟨by first | exact Or.inl ⟨rfl, (Zrow_iff (by omega)).mp (by rw [← hn_z]; exact hb_z)⟩ | exact Or.inr ⟨rfl, fun q_z => hb_z (by rw [hn_z]; exact (Zrow_iff (by omega)).mpr q_z)⟩, rfl⟩
  · skip
    refine Zs_retz hX hE rfl (by first | exact Or.inl rfl | exact Or.inr rfl | assumption) ⟨by first | exact Or.inl ⟨rfl, (Zrow_iff (by omega)).mp (by rw [← hn_z]; exact hb_z)⟩ | exact Or.inr ⟨rfl, fun q_z => hb_z (by rw [hn_z]; exact (Zrow_iff (by omega)).mpr q_z)⟩, rfl⟩

set_option maxRecDepth 20000 in
theorem s_isRow (row_z : Int32) (n_z : Nat) (M : Zmem) (hn_z : M 54 7 = nI n_z) (hn2 : n_z ≤ 15) : ZC 54 1 [.ref 53, .int row_z] M (fun r_z M' => Zb r_z (vp_in row_z n_z) ∧ M = M') := by
  refine ZC_of Zt54 Zk54 (Nat.le_of_ble_eq_true rfl) (by decide) rfl (fun X hX hE => ?_)
  refine Zgo hX 8 rfl (by first | exact True.intro | (dsimp only [ZallP]; and_intros <;> (first | decide | ((try simp only [pk_mul, nI_add]); exact Zin_n (by omega) (by decide))))) ?_
  try simp only [Zcl_n, Nat.reducePow, Nat.reduceLT]
  refine Zs_calls hX (List.cons_ne_nil _ _) (by decide) (s_in _ _ _ _) (by decide) rfl rfl (by decide) (Nat.le_of_ble_eq_true rfl) (fun r_z M' hc_z => ?_)
  rcases hc_z with ⟨⟨rfl, hb_z⟩ | ⟨rfl, hb_z⟩, rfl⟩
  · skip
    refine Zs_retz hX hE rfl (by first | exact Or.inl rfl | exact Or.inr rfl | assumption) ⟨by first | exact Or.inl ⟨rfl, (Zrow_iff (by omega)).mp (by rw [← hn_z]; exact hb_z)⟩ | exact Or.inr ⟨rfl, fun q_z => hb_z (by rw [hn_z]; exact (Zrow_iff (by omega)).mpr q_z)⟩, rfl⟩
  · skip
    refine Zs_retz hX hE rfl (by first | exact Or.inl rfl | exact Or.inr rfl | assumption) ⟨by first | exact Or.inl ⟨rfl, (Zrow_iff (by omega)).mp (by rw [← hn_z]; exact hb_z)⟩ | exact Or.inr ⟨rfl, fun q_z => hb_z (by rw [hn_z]; exact (Zrow_iff (by omega)).mpr q_z)⟩, rfl⟩

set_option maxRecDepth 20000 in
theorem s_its (i_z w_z : Nat) (M : Zmem) (hi_z : i_z < 15) (hw_z : w_z < 5) : ZC 56 0 [.ref 53, .int (nI i_z), .int (nI w_z)] M (fun r_z M' => r_z = some (.int (M 54 (9 + 5 * i_z + w_z))) ∧ M = M') := by
  refine ZC_of Zt56 Zk56 (Nat.le_of_ble_eq_true rfl) (by decide) rfl (fun X hX hE => ?_)
  refine Zgo hX 10 rfl (by first | exact True.intro | (dsimp only [ZallP]; and_intros <;> (first | decide | ((try simp only [pk_mul, nI_add]); exact Zin_n (by omega) (by decide))))) ?_
  refine Zs_ret hX hE rfl ⟨(by rw [pk_mul, nI_add, nI_add, Zcl_n (by omega)]), rfl⟩

set_option maxRecDepth 20000 in
theorem s_lays1 (i_z w_z : Nat) (v_z : Int32) (M : Zmem) (hi_z : i_z < 15) (hw_z : w_z < 5) : ZC 57 0 [.ref 53, .int (nI i_z), .int (nI w_z), .int v_z] M (fun r_z M' => r_z = none ∧ Zu M 54 (9 + 5 * i_z + w_z) v_z = M') := by
  refine ZC_of Zt57 Zk57 (Nat.le_of_ble_eq_true rfl) (by decide) rfl (fun X hX hE => ?_)
  refine Zgo hX 11 rfl (by first | exact True.intro | (dsimp only [ZallP]; and_intros <;> (first | decide | ((try simp only [pk_mul, nI_add]); exact Zin_n (by omega) (by decide))))) ?_
  refine Zs_retv hX hE rfl ⟨rfl, (by rw [pk_mul, nI_add, nI_add, Zcl_n (by omega)])⟩

set_option maxRecDepth 20000 in
theorem s_change1 (j_z : Nat) (v_z : Int32) (M : Zmem) (hj_z : j_z < 418) : ZC 58 0 [.ref 53, .int (nI j_z), .int v_z] M (fun r_z M' => r_z = some (.int (M 54 j_z)) ∧ Zu M 54 j_z v_z = M') := by
  refine ZC_of Zt58 Zk58 (Nat.le_of_ble_eq_true rfl) (by decide) rfl (fun X hX hE => ?_)
  refine Zgo hX 11 rfl (by first | exact True.intro | (dsimp only [ZallP]; and_intros <;> (first | decide | ((try simp only [pk_mul, nI_add]); exact Zin_n (by omega) (by decide))))) ?_
  refine Zs_ret hX hE rfl ⟨by rw [Zcl_n (by omega)], by rw [Zcl_n (by omega)]⟩

set_option maxRecDepth 20000 in
theorem s_hasText (u_z n_z : Nat) (M : Zmem) (hu_z : u_z < 2) (hn_z : M 54 (84 + 125 * u_z) = nI n_z) (hn2 : n_z ≤ 60) : ZC 70 0 [.ref 53, .int (nI u_z)] M (fun r_z M' => Zb r_z (0 < n_z) ∧ M = M') := by
  refine ZC_of Zt70 Zk70 (Nat.le_of_ble_eq_true rfl) (by decide) rfl (fun X hX hE => ?_)
  refine Zgo hX 8 rfl (by first | exact True.intro | (dsimp only [ZallP]; and_intros <;> (first | decide | ((try simp only [pk_mul, nI_add]); exact Zin_n (by omega) (by decide))))) ?_
  rw [show (nI 84 + nI 125 * nI u_z).toNatClampNeg = 84 + 125 * u_z by rw [pk_mul, nI_add, Zcl_n (by omega)], hn_z]
  refine Zs_le hX (List.cons_ne_nil _ _) (fun h12_z => ?_) (fun h12_z => ?_)
  · skip
    refine Zgo hX 1 rfl (by first | exact True.intro | (dsimp only [ZallP]; and_intros <;> (first | decide | ((try simp only [pk_mul, nI_add]); exact Zin_n (by omega) (by decide))))) ?_
    refine Zs_retz hX hE rfl (by first | exact Or.inl rfl | exact Or.inr rfl | assumption) ⟨by first | exact Or.inl ⟨rfl, Nat.pos_of_ne_zero (fun q_z => h12_z (by rw [q_z]; decide))⟩ | exact Or.inr ⟨rfl, fun q_z => absurd h12_z (by rw [Zle_i, Zn_i (by omega)]; show ¬ ((n_z : Int) ≤ 0); omega)⟩, rfl⟩
  · skip
    refine Zgo hX 2 rfl (by first | exact True.intro | (dsimp only [ZallP]; and_intros <;> (first | decide | ((try simp only [pk_mul, nI_add]); exact Zin_n (by omega) (by decide))))) ?_
    refine Zs_retz hX hE rfl (by first | exact Or.inl rfl | exact Or.inr rfl | assumption) ⟨by first | exact Or.inl ⟨rfl, Nat.pos_of_ne_zero (fun q_z => h12_z (by rw [q_z]; decide))⟩ | exact Or.inr ⟨rfl, fun q_z => absurd h12_z (by rw [Zle_i, Zn_i (by omega)]; show ¬ ((n_z : Int) ≤ 0); omega)⟩, rfl⟩

set_option maxRecDepth 20000 in
theorem k_yarn (kd_z m_z : Nat) (w_z t se : Int32) (M : Zmem) (hkd : kd_z ≤ 6) (hm_z : m_z ≤ 9) : ZC 145 0 [.int (nI (10 * kd_z + m_z)), .int w_z, .int t, .int se] M (fun r_z M' => r_z = some (.int (Zsaid kd_z m_z w_z t se)) ∧ M = M') := by
  refine ZC_of Zt145 Zk145 (Nat.le_of_ble_eq_true rfl) (by decide) rfl (fun X hX hE => ?_)
  have e10 : nI (10 * kd_z + m_z) / nI 10 = nI kd_z := by rw [pk_div (by omega) (by decide) (by decide)]; congr 1; omega
  have r10 : nI (10 * kd_z + m_z) - nI (10 * kd_z + m_z) / nI 10 * nI 10 = nI m_z := by rw [pk_rem (by omega) (by decide) (by decide)]; congr 1; omega
  refine Zgo hX 15 rfl (by first | exact True.intro | (dsimp only [ZallP]; and_intros <;> (first | decide | ((try simp only [pk_mul, nI_add]); exact Zin_n (by omega) (by decide))))) ?_
  rw [e10]
  by_cases s19_0 : nI kd_z = nI 1
  · skip
    refine Zs_sw [(nI 1, 56), (nI 2, 61), (nI 3, 64), (nI 4, 69), (nI 5, 79), (nI 6, 96)] 101 hX (by decide +kernel) (by decide +kernel) (t := 56) (if_pos s19_0) ?_
    obtain rfl : kd_z = 1 := Zeq (by omega) (by decide) s19_0
    refine Zgo hX 3 rfl (by first | exact True.intro | (dsimp only [ZallP]; and_intros <;> (first | decide | ((try simp only [pk_mul, nI_add]); exact Zin_n (by omega) (by decide))))) ?_
    refine Zs_ret hX hE rfl ⟨rfl, rfl⟩
  by_cases s19_1 : nI kd_z = nI 2
  · skip
    refine Zs_sw [(nI 1, 56), (nI 2, 61), (nI 3, 64), (nI 4, 69), (nI 5, 79), (nI 6, 96)] 101 hX (by decide +kernel) (by decide +kernel) (t := 61) ((if_neg s19_0).trans (if_pos s19_1)) ?_
    obtain rfl : kd_z = 2 := Zeq (by omega) (by decide) s19_1
    refine Zgo hX 1 rfl (by first | exact True.intro | (dsimp only [ZallP]; and_intros <;> (first | decide | ((try simp only [pk_mul, nI_add]); exact Zin_n (by omega) (by decide))))) ?_
    refine Zs_ret hX hE rfl ⟨rfl, rfl⟩
  by_cases s19_2 : nI kd_z = nI 3
  · skip
    refine Zs_sw [(nI 1, 56), (nI 2, 61), (nI 3, 64), (nI 4, 69), (nI 5, 79), (nI 6, 96)] 101 hX (by decide +kernel) (by decide +kernel) (t := 64) ((if_neg s19_0).trans ((if_neg s19_1).trans (if_pos s19_2))) ?_
    obtain rfl : kd_z = 3 := Zeq (by omega) (by decide) s19_2
    refine Zgo hX 3 rfl (by first | exact True.intro | (dsimp only [ZallP]; and_intros <;> (first | decide | ((try simp only [pk_mul, nI_add]); exact Zin_n (by omega) (by decide))))) ?_
    refine Zs_ret hX hE rfl ⟨rfl, rfl⟩
  by_cases s19_3 : nI kd_z = nI 4
  · skip
    refine Zs_sw [(nI 1, 56), (nI 2, 61), (nI 3, 64), (nI 4, 69), (nI 5, 79), (nI 6, 96)] 101 hX (by decide +kernel) (by decide +kernel) (t := 69) ((if_neg s19_0).trans ((if_neg s19_1).trans ((if_neg s19_2).trans (if_pos s19_3)))) ?_
    obtain rfl : kd_z = 4 := Zeq (by omega) (by decide) s19_3
    refine Zgo hX 7 rfl (by first | exact True.intro | (dsimp only [ZallP]; and_intros <;> (first | decide | ((try simp only [pk_mul, nI_add]); exact Zin_n (by omega) (by decide))))) ?_
    refine Zs_ret hX hE rfl ⟨by rw [r10]; rfl, rfl⟩
  by_cases s19_4 : nI kd_z = nI 5
  · skip
    refine Zs_sw [(nI 1, 56), (nI 2, 61), (nI 3, 64), (nI 4, 69), (nI 5, 79), (nI 6, 96)] 101 hX (by decide +kernel) (by decide +kernel) (t := 79) ((if_neg s19_0).trans ((if_neg s19_1).trans ((if_neg s19_2).trans ((if_neg s19_3).trans (if_pos s19_4))))) ?_
    obtain rfl : kd_z = 5 := Zeq (by omega) (by decide) s19_4
    refine Zgo hX 4 rfl (by first | exact True.intro | (dsimp only [ZallP]; and_intros <;> (first | decide | ((try simp only [pk_mul, nI_add]); exact Zin_n (by omega) (by decide))))) ?_
    refine Zs_ine hX (List.cons_ne_nil _ _) (fun h83_z => ?_) (fun h83_z => ?_)
    · skip
      refine Zgo hX 3 rfl (by first | exact True.intro | (dsimp only [ZallP]; and_intros <;> (first | decide | ((try simp only [pk_mul, nI_add]); exact Zin_n (by omega) (by decide))))) ?_
      refine Zs_ret hX hE rfl ⟨by first | (simp only [Zsaid]; exact congrArg (fun z_z => some (Value.int z_z)) (if_pos h83_z).symm) | (simp only [Zsaid]; exact congrArg (fun z_z => some (Value.int z_z)) (if_neg h83_z).symm), rfl⟩
    · skip
      refine Zgo hX 2 rfl (by first | exact True.intro | (dsimp only [ZallP]; and_intros <;> (first | decide | ((try simp only [pk_mul, nI_add]); exact Zin_n (by omega) (by decide))))) ?_
      refine Zs_ret hX hE rfl ⟨by first | (simp only [Zsaid]; exact congrArg (fun z_z => some (Value.int z_z)) (if_pos h83_z).symm) | (simp only [Zsaid]; exact congrArg (fun z_z => some (Value.int z_z)) (if_neg h83_z).symm), rfl⟩
  by_cases s19_5 : nI kd_z = nI 6
  · skip
    refine Zs_sw [(nI 1, 56), (nI 2, 61), (nI 3, 64), (nI 4, 69), (nI 5, 79), (nI 6, 96)] 101 hX (by decide +kernel) (by decide +kernel) (t := 96) ((if_neg s19_0).trans ((if_neg s19_1).trans ((if_neg s19_2).trans ((if_neg s19_3).trans ((if_neg s19_4).trans (if_pos s19_5)))))) ?_
    obtain rfl : kd_z = 6 := Zeq (by omega) (by decide) s19_5
    refine Zgo hX 3 rfl (by first | exact True.intro | (dsimp only [ZallP]; and_intros <;> (first | decide | ((try simp only [pk_mul, nI_add]); exact Zin_n (by omega) (by decide))))) ?_
    refine Zs_ret hX hE rfl ⟨rfl, rfl⟩
  refine Zs_sw [(nI 1, 56), (nI 2, 61), (nI 3, 64), (nI 4, 69), (nI 5, 79), (nI 6, 96)] 101 hX (by decide +kernel) (by decide +kernel) (t := 101) ((if_neg s19_0).trans ((if_neg s19_1).trans ((if_neg s19_2).trans ((if_neg s19_3).trans ((if_neg s19_4).trans (if_neg s19_5)))))) ?_
  have z19_0 : kd_z ≠ 1 := Zne (by omega) (by decide) s19_0
  have z19_1 : kd_z ≠ 2 := Zne (by omega) (by decide) s19_1
  have z19_2 : kd_z ≠ 3 := Zne (by omega) (by decide) s19_2
  have z19_3 : kd_z ≠ 4 := Zne (by omega) (by decide) s19_3
  have z19_4 : kd_z ≠ 5 := Zne (by omega) (by decide) s19_4
  have z19_5 : kd_z ≠ 6 := Zne (by omega) (by decide) s19_5
  refine Zgo hX 1 rfl (by first | exact True.intro | (dsimp only [ZallP]; and_intros <;> (first | decide | ((try simp only [pk_mul, nI_add]); exact Zin_n (by omega) (by decide))))) ?_
  refine Zs_ret hX hE rfl ⟨?_, rfl⟩
  obtain rfl : kd_z = 0 := by omega
  rfl

set_option maxRecDepth 20000 in
theorem s_saidOf (kd_z m_z : Nat) (w_z t : Int32) (M : Zmem) (hkd : kd_z ≤ 6) (hm_z : m_z ≤ 9) : ZC 75 0 [.ref 53, .int (nI kd_z), .int (nI m_z), .int w_z, .int t] M (fun r_z M' => r_z = some (.int (Zsaid kd_z m_z w_z t (M 54 2))) ∧ M = M') := by
  refine ZC_of Zt75 Zk75 (Nat.le_of_ble_eq_true rfl) (by decide) rfl (fun X hX hE => ?_)
  refine Zgo hX 7 rfl (by first | exact True.intro | (dsimp only [ZallP]; and_intros <;> (first | decide | ((try simp only [pk_mul, nI_add]); exact Zin_n (by omega) (by decide))))) ?_
  by_cases s9_0 : nI kd_z = nI 1
  · skip
    refine Zs_sw [(nI 1, 48), (nI 2, 53), (nI 3, 60), (nI 4, 65), (nI 5, 72), (nI 6, 102)] 107 hX (by decide +kernel) (by decide +kernel) (t := 48) (if_pos s9_0) ?_
    obtain rfl : kd_z = 1 := Zeq (by omega) (by decide) s9_0
    refine Zgo hX 3 rfl (by first | exact True.intro | (dsimp only [ZallP]; and_intros <;> (first | decide | ((try simp only [pk_mul, nI_add]); exact Zin_n (by omega) (by decide))))) ?_
    refine Zs_ret hX hE rfl ⟨rfl, rfl⟩
  by_cases s9_1 : nI kd_z = nI 2
  · skip
    refine Zs_sw [(nI 1, 48), (nI 2, 53), (nI 3, 60), (nI 4, 65), (nI 5, 72), (nI 6, 102)] 107 hX (by decide +kernel) (by decide +kernel) (t := 53) ((if_neg s9_0).trans (if_pos s9_1)) ?_
    obtain rfl : kd_z = 2 := Zeq (by omega) (by decide) s9_1
    refine Zgo hX 5 rfl (by first | exact True.intro | (dsimp only [ZallP]; and_intros <;> (first | decide | ((try simp only [pk_mul, nI_add]); exact Zin_n (by omega) (by decide))))) ?_
    refine Zs_ret hX hE rfl ⟨rfl, rfl⟩
  by_cases s9_2 : nI kd_z = nI 3
  · skip
    refine Zs_sw [(nI 1, 48), (nI 2, 53), (nI 3, 60), (nI 4, 65), (nI 5, 72), (nI 6, 102)] 107 hX (by decide +kernel) (by decide +kernel) (t := 60) ((if_neg s9_0).trans ((if_neg s9_1).trans (if_pos s9_2))) ?_
    obtain rfl : kd_z = 3 := Zeq (by omega) (by decide) s9_2
    refine Zgo hX 3 rfl (by first | exact True.intro | (dsimp only [ZallP]; and_intros <;> (first | decide | ((try simp only [pk_mul, nI_add]); exact Zin_n (by omega) (by decide))))) ?_
    refine Zs_ret hX hE rfl ⟨rfl, rfl⟩
  by_cases s9_3 : nI kd_z = nI 4
  · skip
    refine Zs_sw [(nI 1, 48), (nI 2, 53), (nI 3, 60), (nI 4, 65), (nI 5, 72), (nI 6, 102)] 107 hX (by decide +kernel) (by decide +kernel) (t := 65) ((if_neg s9_0).trans ((if_neg s9_1).trans ((if_neg s9_2).trans (if_pos s9_3)))) ?_
    obtain rfl : kd_z = 4 := Zeq (by omega) (by decide) s9_3
    refine Zgo hX 5 rfl (by first | exact True.intro | (dsimp only [ZallP]; and_intros <;> (first | decide | ((try simp only [pk_mul, nI_add]); exact Zin_n (by omega) (by decide))))) ?_
    refine Zs_ret hX hE rfl ⟨rfl, rfl⟩
  by_cases s9_4 : nI kd_z = nI 5
  · skip
    refine Zs_sw [(nI 1, 48), (nI 2, 53), (nI 3, 60), (nI 4, 65), (nI 5, 72), (nI 6, 102)] 107 hX (by decide +kernel) (by decide +kernel) (t := 72) ((if_neg s9_0).trans ((if_neg s9_1).trans ((if_neg s9_2).trans ((if_neg s9_3).trans (if_pos s9_4))))) ?_
    obtain rfl : kd_z = 5 := Zeq (by omega) (by decide) s9_4
    refine Zgo hX 7 rfl (by first | exact True.intro | (dsimp only [ZallP]; and_intros <;> (first | decide | ((try simp only [pk_mul, nI_add]); exact Zin_n (by omega) (by decide))))) ?_
    refine Zs_ine hX (List.cons_ne_nil _ _) (fun h81_z => ?_) (fun h81_z => ?_)
    · skip
      refine Zgo hX 7 rfl (by first | exact True.intro | (dsimp only [ZallP]; and_intros <;> (first | decide | ((try simp only [pk_mul, nI_add]); exact Zin_n (by omega) (by decide))))) ?_
      refine Zs_ret hX hE rfl ⟨by first | (simp only [Zsaid]; exact congrArg (fun z_z => some (Value.int z_z)) (if_pos h81_z).symm) | (simp only [Zsaid]; exact congrArg (fun z_z => some (Value.int z_z)) (if_neg h81_z).symm), rfl⟩
    · skip
      refine Zgo hX 6 rfl (by first | exact True.intro | (dsimp only [ZallP]; and_intros <;> (first | decide | ((try simp only [pk_mul, nI_add]); exact Zin_n (by omega) (by decide))))) ?_
      refine Zs_ret hX hE rfl ⟨by first | (simp only [Zsaid]; exact congrArg (fun z_z => some (Value.int z_z)) (if_pos h81_z).symm) | (simp only [Zsaid]; exact congrArg (fun z_z => some (Value.int z_z)) (if_neg h81_z).symm), rfl⟩
  by_cases s9_5 : nI kd_z = nI 6
  · skip
    refine Zs_sw [(nI 1, 48), (nI 2, 53), (nI 3, 60), (nI 4, 65), (nI 5, 72), (nI 6, 102)] 107 hX (by decide +kernel) (by decide +kernel) (t := 102) ((if_neg s9_0).trans ((if_neg s9_1).trans ((if_neg s9_2).trans ((if_neg s9_3).trans ((if_neg s9_4).trans (if_pos s9_5)))))) ?_
    obtain rfl : kd_z = 6 := Zeq (by omega) (by decide) s9_5
    refine Zgo hX 3 rfl (by first | exact True.intro | (dsimp only [ZallP]; and_intros <;> (first | decide | ((try simp only [pk_mul, nI_add]); exact Zin_n (by omega) (by decide))))) ?_
    refine Zs_ret hX hE rfl ⟨rfl, rfl⟩
  refine Zs_sw [(nI 1, 48), (nI 2, 53), (nI 3, 60), (nI 4, 65), (nI 5, 72), (nI 6, 102)] 107 hX (by decide +kernel) (by decide +kernel) (t := 107) ((if_neg s9_0).trans ((if_neg s9_1).trans ((if_neg s9_2).trans ((if_neg s9_3).trans ((if_neg s9_4).trans (if_neg s9_5)))))) ?_
  have z9_0 : kd_z ≠ 1 := Zne (by omega) (by decide) s9_0
  have z9_1 : kd_z ≠ 2 := Zne (by omega) (by decide) s9_1
  have z9_2 : kd_z ≠ 3 := Zne (by omega) (by decide) s9_2
  have z9_3 : kd_z ≠ 4 := Zne (by omega) (by decide) s9_3
  have z9_4 : kd_z ≠ 5 := Zne (by omega) (by decide) s9_4
  have z9_5 : kd_z ≠ 6 := Zne (by omega) (by decide) s9_5
  refine Zgo hX 1 rfl (by first | exact True.intro | (dsimp only [ZallP]; and_intros <;> (first | decide | ((try simp only [pk_mul, nI_add]); exact Zin_n (by omega) (by decide))))) ?_
  refine Zs_ret hX hE rfl ⟨?_, rfl⟩
  obtain rfl : kd_z = 0 := by omega
  rfl

set_option maxRecDepth 20000 in
theorem k_bends (kd_z m_z : Nat) (M : Zmem) (hkd : kd_z ≤ 6) (hm_z : m_z ≤ 9) : ZC 146 0 [.int (nI kd_z), .int (nI m_z)] M (fun r_z M' => r_z = some (.int (Zbend kd_z m_z)) ∧ M = M') := by
  refine ZC_of Zt146 Zk146 (Nat.le_of_ble_eq_true rfl) (by decide) rfl (fun X hX hE => ?_)
  have r3 : nI m_z - nI m_z / nI 3 * nI 3 = nI (m_z % 3) := pk_rem (by omega) (by decide) (by decide)
  refine Zgo hX 7 rfl (by first | exact True.intro | (dsimp only [ZallP]; and_intros <;> (first | decide | ((try simp only [pk_mul, nI_add]); exact Zin_n (by omega) (by decide))))) ?_
  by_cases s7_0 : nI kd_z = nI 1
  · skip
    refine Zs_sw [(nI 1, 40), (nI 4, 42), (nI 6, 46)] 48 hX (by decide +kernel) (by decide +kernel) (t := 40) (if_pos s7_0) ?_
    obtain rfl : kd_z = 1 := Zeq (by omega) (by decide) s7_0
    refine Zgo hX 1 rfl (by first | exact True.intro | (dsimp only [ZallP]; and_intros <;> (first | decide | ((try simp only [pk_mul, nI_add]); exact Zin_n (by omega) (by decide))))) ?_
    refine Zs_ret hX hE rfl ⟨by rw [r3]; rfl, rfl⟩
  by_cases s7_1 : nI kd_z = nI 4
  · skip
    refine Zs_sw [(nI 1, 40), (nI 4, 42), (nI 6, 46)] 48 hX (by decide +kernel) (by decide +kernel) (t := 42) ((if_neg s7_0).trans (if_pos s7_1)) ?_
    obtain rfl : kd_z = 4 := Zeq (by omega) (by decide) s7_1
    refine Zgo hX 3 rfl (by first | exact True.intro | (dsimp only [ZallP]; and_intros <;> (first | decide | ((try simp only [pk_mul, nI_add]); exact Zin_n (by omega) (by decide))))) ?_
    refine Zs_ret hX hE rfl ⟨by rw [r3]; rfl, rfl⟩
  by_cases s7_2 : nI kd_z = nI 6
  · skip
    refine Zs_sw [(nI 1, 40), (nI 4, 42), (nI 6, 46)] 48 hX (by decide +kernel) (by decide +kernel) (t := 46) ((if_neg s7_0).trans ((if_neg s7_1).trans (if_pos s7_2))) ?_
    obtain rfl : kd_z = 6 := Zeq (by omega) (by decide) s7_2
    refine Zgo hX 1 rfl (by first | exact True.intro | (dsimp only [ZallP]; and_intros <;> (first | decide | ((try simp only [pk_mul, nI_add]); exact Zin_n (by omega) (by decide))))) ?_
    refine Zs_ret hX hE rfl ⟨rfl, rfl⟩
  refine Zs_sw [(nI 1, 40), (nI 4, 42), (nI 6, 46)] 48 hX (by decide +kernel) (by decide +kernel) (t := 48) ((if_neg s7_0).trans ((if_neg s7_1).trans (if_neg s7_2))) ?_
  have z7_0 : kd_z ≠ 1 := Zne (by omega) (by decide) s7_0
  have z7_1 : kd_z ≠ 4 := Zne (by omega) (by decide) s7_1
  have z7_2 : kd_z ≠ 6 := Zne (by omega) (by decide) s7_2
  refine Zgo hX 1 rfl (by first | exact True.intro | (dsimp only [ZallP]; and_intros <;> (first | decide | ((try simp only [pk_mul, nI_add]); exact Zin_n (by omega) (by decide))))) ?_
  refine Zs_ret hX hE rfl ⟨?_, rfl⟩
  obtain h0_z | h0_z | h0_z | h0_z : kd_z = 0 ∨ kd_z = 2 ∨ kd_z = 3 ∨ kd_z = 5 := by omega
  all_goals (subst h0_z; rfl)

set_option maxRecDepth 20000 in
theorem s_bendsAs (kd_z m_z : Nat) (M : Zmem) (hkd : kd_z ≤ 6) (hm_z : m_z ≤ 9) : ZC 81 0 [.int (nI kd_z), .int (nI m_z)] M (fun r_z M' => r_z = some (.int (Zbend kd_z m_z)) ∧ M = M') := by
  refine ZC_of Zt81 Zk81 (Nat.le_of_ble_eq_true rfl) (by decide) rfl (fun X hX hE => ?_)
  have r3 : nI m_z - nI m_z / nI 3 * nI 3 = nI (m_z % 3) := pk_rem (by omega) (by decide) (by decide)
  refine Zgo hX 1 rfl (by first | exact True.intro | (dsimp only [ZallP]; and_intros <;> (first | decide | ((try simp only [pk_mul, nI_add]); exact Zin_n (by omega) (by decide))))) ?_
  by_cases s1_0 : nI kd_z = nI 1
  · skip
    refine Zs_sw [(nI 1, 36), (nI 4, 42), (nI 6, 50)] 52 hX (by decide +kernel) (by decide +kernel) (t := 36) (if_pos s1_0) ?_
    obtain rfl : kd_z = 1 := Zeq (by omega) (by decide) s1_0
    refine Zgo hX 5 rfl (by first | exact True.intro | (dsimp only [ZallP]; and_intros <;> (first | decide | ((try simp only [pk_mul, nI_add]); exact Zin_n (by omega) (by decide))))) ?_
    refine Zs_ret hX hE rfl ⟨by rw [r3]; rfl, rfl⟩
  by_cases s1_1 : nI kd_z = nI 4
  · skip
    refine Zs_sw [(nI 1, 36), (nI 4, 42), (nI 6, 50)] 52 hX (by decide +kernel) (by decide +kernel) (t := 42) ((if_neg s1_0).trans (if_pos s1_1)) ?_
    obtain rfl : kd_z = 4 := Zeq (by omega) (by decide) s1_1
    refine Zgo hX 7 rfl (by first | exact True.intro | (dsimp only [ZallP]; and_intros <;> (first | decide | ((try simp only [pk_mul, nI_add]); exact Zin_n (by omega) (by decide))))) ?_
    refine Zs_ret hX hE rfl ⟨by rw [r3]; rfl, rfl⟩
  by_cases s1_2 : nI kd_z = nI 6
  · skip
    refine Zs_sw [(nI 1, 36), (nI 4, 42), (nI 6, 50)] 52 hX (by decide +kernel) (by decide +kernel) (t := 50) ((if_neg s1_0).trans ((if_neg s1_1).trans (if_pos s1_2))) ?_
    obtain rfl : kd_z = 6 := Zeq (by omega) (by decide) s1_2
    refine Zgo hX 1 rfl (by first | exact True.intro | (dsimp only [ZallP]; and_intros <;> (first | decide | ((try simp only [pk_mul, nI_add]); exact Zin_n (by omega) (by decide))))) ?_
    refine Zs_ret hX hE rfl ⟨rfl, rfl⟩
  refine Zs_sw [(nI 1, 36), (nI 4, 42), (nI 6, 50)] 52 hX (by decide +kernel) (by decide +kernel) (t := 52) ((if_neg s1_0).trans ((if_neg s1_1).trans (if_neg s1_2))) ?_
  have z1_0 : kd_z ≠ 1 := Zne (by omega) (by decide) s1_0
  have z1_1 : kd_z ≠ 4 := Zne (by omega) (by decide) s1_1
  have z1_2 : kd_z ≠ 6 := Zne (by omega) (by decide) s1_2
  refine Zgo hX 1 rfl (by first | exact True.intro | (dsimp only [ZallP]; and_intros <;> (first | decide | ((try simp only [pk_mul, nI_add]); exact Zin_n (by omega) (by decide))))) ?_
  refine Zs_ret hX hE rfl ⟨?_, rfl⟩
  obtain h0_z | h0_z | h0_z | h0_z : kd_z = 0 ∨ kd_z = 2 ∨ kd_z = 3 ∨ kd_z = 5 := by omega
  all_goals (subst h0_z; rfl)

set_option maxRecDepth 20000 in
theorem k_above (v_z : Int32) (M : Zmem) : ZC 143 1 [.int v_z] M (fun r_z M' => (∃ x_z : Int32, r_z = some (.int x_z) ∧ ((∃ kd_z, kd_z ≤ 6 ∧ v_z = nI kd_z ∧ x_z = Zabv kd_z) ∨ (¬ (nI 0 ≤ v_z ∧ v_z ≤ nI 6) ∧ x_z = -(nI 1)))) ∧ M = M') := by
  refine ZC_of Zt143 Zk143 (Nat.le_of_ble_eq_true rfl) (by decide) rfl (fun X hX hE => ?_)
  refine Zgo hX 3 rfl (by first | exact True.intro | (dsimp only [ZallP]; and_intros <;> (first | decide | ((try simp only [pk_mul, nI_add]); exact Zin_n (by omega) (by decide))))) ?_
  refine Zs_calls hX (List.cons_ne_nil _ _) (by decide) (k_within _ _ _ _) (by decide) rfl rfl (by decide) (Nat.le_of_ble_eq_true rfl) (fun r_z M' hc_z => ?_)
  rcases hc_z with ⟨⟨rfl, hb_z⟩ | ⟨rfl, hb_z⟩, rfl⟩
  · skip
    refine Zs_eq hX (List.cons_ne_nil _ _) (fun q_z => absurd q_z (by decide)) (fun _ => ?_)
    obtain ⟨kd_z, hkd, rfl⟩ := Zbt_ex (by decide) hb_z
    refine Zgo hX 4 rfl (Zin_n (by omega) (by decide)) ?_
    refine Zs_ret hX hE rfl ⟨⟨_, rfl, by first | exact Or.inl ⟨kd_z, hkd, rfl, by rw [Zcl_n (by omega)]; rfl⟩ | exact Or.inr ⟨hb_z, rfl⟩⟩, rfl⟩
  · skip
    refine Zs_eq hX (List.cons_ne_nil _ _) (fun _ => ?_) (fun q_z => absurd rfl q_z)
    refine Zgo hX 1 rfl (by first | exact True.intro | (dsimp only [ZallP]; and_intros <;> (first | decide | ((try simp only [pk_mul, nI_add]); exact Zin_n (by omega) (by decide))))) ?_
    refine Zs_ret hX hE rfl ⟨⟨_, rfl, by first | exact Or.inl ⟨kd_z, hkd, rfl, by rw [Zcl_n (by omega)]; rfl⟩ | exact Or.inr ⟨hb_z, rfl⟩⟩, rfl⟩

set_option maxRecDepth 20000 in
theorem s_above (v_z : Int32) (M : Zmem) : ZC 114 0 [.int v_z] M (fun r_z M' => r_z = some (.int (if v_z = nI 4 then nI 1 else if v_z = nI 5 then nI 2 else nI 0)) ∧ M = M') := by
  refine ZC_of Zt114 Zk114 (Nat.le_of_ble_eq_true rfl) (by decide) rfl (fun X hX hE => ?_)
  refine Zgo hX 2 rfl (by first | exact True.intro | (dsimp only [ZallP]; and_intros <;> (first | decide | ((try simp only [pk_mul, nI_add]); exact Zin_n (by omega) (by decide))))) ?_
  refine Zs_ine hX (List.cons_ne_nil _ _) (fun h1_z => ?_) (fun h1_z => ?_)
  · skip
    refine Zgo hX 2 rfl (by first | exact True.intro | (dsimp only [ZallP]; and_intros <;> (first | decide | ((try simp only [pk_mul, nI_add]); exact Zin_n (by omega) (by decide))))) ?_
    refine Zs_ine hX (List.cons_ne_nil _ _) (fun h2_z => ?_) (fun h2_z => ?_)
    · skip
      refine Zgo hX 1 rfl (by first | exact True.intro | (dsimp only [ZallP]; and_intros <;> (first | decide | ((try simp only [pk_mul, nI_add]); exact Zin_n (by omega) (by decide))))) ?_
      refine Zs_ret hX hE rfl ⟨by first | rw [if_pos h1_z] | rw [if_neg h1_z, if_pos h2_z] | rw [if_neg h1_z, if_neg h2_z], rfl⟩
    · skip
      refine Zgo hX 2 rfl (by first | exact True.intro | (dsimp only [ZallP]; and_intros <;> (first | decide | ((try simp only [pk_mul, nI_add]); exact Zin_n (by omega) (by decide))))) ?_
      refine Zs_ret hX hE rfl ⟨by first | rw [if_pos h1_z] | rw [if_neg h1_z, if_pos h2_z] | rw [if_neg h1_z, if_neg h2_z], rfl⟩
  · skip
    refine Zgo hX 2 rfl (by first | exact True.intro | (dsimp only [ZallP]; and_intros <;> (first | decide | ((try simp only [pk_mul, nI_add]); exact Zin_n (by omega) (by decide))))) ?_
    refine Zs_ret hX hE rfl ⟨by first | rw [if_pos h1_z] | rw [if_neg h1_z, if_pos h2_z] | rw [if_neg h1_z, if_neg h2_z], rfl⟩

set_option maxRecDepth 20000 in
theorem k_draw (M : Zmem) : ZC 178 0 [.ref 1] M (fun r_z M' => r_z = some (.int ((M 1 10 * nI 1103515245 + nI 12345).toUInt32 >>> ((nI 8).toUInt32 &&& Int32.toUInt32 31)).toInt32) ∧ Zu M 1 10 (M 1 10 * nI 1103515245 + nI 12345) = M') := by
  refine ZC_of Zt178 Zk178 (Nat.le_of_ble_eq_true rfl) (by decide) rfl (fun X hX hE => ?_)
  refine Zgo hX 12 rfl (by first | exact True.intro | (dsimp only [ZallP]; and_intros <;> (first | decide | ((try simp only [pk_mul, nI_add]); exact Zin_n (by omega) (by decide))))) ?_
  refine Zs_ret hX hE rfl ⟨by rw [Zu_k, if_pos ⟨rfl, rfl⟩], rfl⟩

set_option maxRecDepth 20000 in
theorem s_draw (M : Zmem) : ZC 84 0 [.ref 53] M (fun r_z M' => r_z = some (.int ((M 54 4 * nI 1103515245 + nI 12345).toUInt32 >>> ((nI 8).toUInt32 &&& Int32.toUInt32 31)).toInt32) ∧ Zu M 54 4 (M 54 4 * nI 1103515245 + nI 12345) = M') := by
  refine ZC_of Zt84 Zk84 (Nat.le_of_ble_eq_true rfl) (by decide) rfl (fun X hX hE => ?_)
  refine Zgo hX 18 rfl (by first | exact True.intro | (dsimp only [ZallP]; and_intros <;> (first | decide | ((try simp only [pk_mul, nI_add]); exact Zin_n (by omega) (by decide))))) ?_
  refine Zs_ret hX hE rfl ⟨by rw [Zcl_n (by decide), Zu_k, if_pos ⟨rfl, rfl⟩], by rw [Zcl_n (by decide)]⟩
end
section
/-- what a_z text's working out leaves -/
def sct (o_z k_z : Nat) : Bool := match o_z with
  | 11 => k_z == 4 | 13 => true | 14 => k_z == 4 | 16 => true | 27 => k_z == 4 | 29 => true | 30 => k_z == 4 | 32 => true | 58 => true | 59 => true
  | _ => false
theorem sct_scr {o_z k_z : Nat} (h_z : scr o_z k_z = false) : sct o_z k_z = false := by
  unfold sct
  unfold scr at h_z
  split <;> first | rfl | (exact h_z) | (simp at h_z)
/-- nothing is changed but that -/
def St (M M' : Zmem) : Prop := ∀ o_z k_z, sct o_z k_z = false → M' o_z k_z = M o_z k_z
theorem St.rf (M : Zmem) : St M M := fun _ _ _ => rfl
theorem St.tr {M M' M'' : Zmem} (h_z : St M M') (h2_z : St M' M'') : St M M'' := fun o_z k_z q_z => (h2_z o_z k_z q_z).trans (h_z o_z k_z q_z)
theorem St.u {M M' : Zmem} {o_z k_z : Nat} (h_z : St M M') (v_z : Int32) (hs_z : sct o_z k_z = true) : St M (Zu M' o_z k_z v_z) := by
  intro a_z j_z hq_z
  rw [Zu_k, if_neg]
  · exact h_z a_z j_z hq_z
  · rintro ⟨rfl, rfl⟩
    rw [hs_z] at hq_z
    cases hq_z
theorem St.sc {M M' : Zmem} (h_z : St M M') : Sc M M' := fun o_z k_z q_z => h_z o_z k_z (sct_scr q_z)
-- texts worked out: an item is (what, v_z): 0 a_z number, 1 a_z name by its sign, 2 not, 3 a_z sign
abbrev Zitm : Type := Int32 × Int32
def Zit (nm : Int32 → Int32) (a_z v_z : Int32) (st : List Int32) : List Int32 :=
  if a_z = nI 0 then v_z :: st else if a_z = nI 1 then nm v_z :: st
  else if a_z = nI 2 then (match st with
    | x_z :: r_z => (if x_z = 0 then nI 1 else nI 0) :: r_z
    | [] => [])
  else (match st with
    | y_z :: x_z :: r_z => Zjn v_z.toNatClampNeg x_z y_z :: r_z
    | _ => [])
def Zev (nm : Int32 → Int32) (g_z : Nat → Zitm) : Nat → List Int32
  | 0 => []
  | n_z + 1 => Zit nm (g_z n_z).1 (g_z n_z).2 (Zev nm g_z n_z)
/-- the sign of a_z name, by its use -/
def Znm (u_z c_z : Nat) : Prop := (u_z = 0 ∧ (c_z = 98 ∨ c_z = 119 ∨ c_z = 116)) ∨ (u_z = 1 ∧ (c_z = 119 ∨ c_z = 116 ∨ c_z = 107))
def Zpn (u_z c_z : Nat) : Nat := if u_z = 0 then (if c_z = 98 then 0 else if c_z = 119 then 1 else 2) else (if c_z = 119 then 0 else if c_z = 116 then 1 else 2)
/-- n_z items stand, and leave d_z numbers -/
def Zwf (u_z : Nat) (g_z : Nat → Zitm) : Nat → Nat → Prop
  | 0, d_z => d_z = 0
  | n_z + 1, d_z => ∃ d', Zwf u_z g_z n_z d' ∧ (((g_z n_z).1 = nI 0 ∧ (∃ j_z, j_z < 10000 ∧ (g_z n_z).2 = nI j_z) ∧ d_z = d' + 1) ∨ ((g_z n_z).1 = nI 1 ∧ (∃ c_z, Znm u_z c_z ∧ (g_z n_z).2 = nI c_z) ∧ d_z = d' + 1) ∨ ((g_z n_z).1 = nI 2 ∧ 1 ≤ d' ∧ d_z = d') ∨ ((g_z n_z).1 = nI 3 ∧ (∃ c_z, Zsg c_z ∧ (g_z n_z).2 = nI c_z) ∧ 2 ≤ d' ∧ d_z + 1 = d'))
theorem Zwf_le {u_z : Nat} {g_z : Nat → Zitm} : ∀ {n_z d_z : Nat}, Zwf u_z g_z n_z d_z → d_z ≤ n_z := by
  intro n_z
  induction n_z with
  | zero => intro d_z h_z; simp only [Zwf] at h_z; omega
  | succ n_z ih_z =>
    intro d_z h_z
    obtain ⟨d', h1_z, h2_z⟩ := h_z
    have := ih_z h1_z
    rcases h2_z with ⟨-, -, h_z⟩ | ⟨-, -, h_z⟩ | ⟨-, -, h_z⟩ | ⟨-, -, -, h_z⟩ <;> omega
theorem Zwf_len {u_z : Nat} {g_z : Nat → Zitm} (nm : Int32 → Int32) : ∀ {n_z d_z : Nat}, Zwf u_z g_z n_z d_z → (Zev nm g_z n_z).length = d_z := by
  intro n_z
  induction n_z with
  | zero => intro d_z h_z; simp only [Zwf] at h_z; simp [Zev, h_z]
  | succ n_z ih_z =>
    intro d_z h_z
    obtain ⟨d', h1_z, h2_z⟩ := h_z
    have hl_z := ih_z h1_z
    have ne10 : ¬ nI 1 = nI 0 := by decide
    have ne20 : ¬ nI 2 = nI 0 := by decide
    have ne21 : ¬ nI 2 = nI 1 := by decide
    have ne30 : ¬ nI 3 = nI 0 := by decide
    have ne31 : ¬ nI 3 = nI 1 := by decide
    have ne32 : ¬ nI 3 = nI 2 := by decide
    generalize hq_z : Zev nm g_z n_z = L at hl_z
    rcases h2_z with ⟨e_z, -, h_z⟩ | ⟨e_z, -, h_z⟩ | ⟨e_z, h3_z, h_z⟩ | ⟨e_z, -, h3_z, h_z⟩
    · simp only [Zev, Zit, e_z, hq_z, if_true, List.length_cons]; omega
    · simp only [Zev, Zit, e_z, hq_z, if_neg ne10, if_true, List.length_cons]; omega
    · match L, hl_z with
      | [], hl_z => simp at hl_z; omega
      | x_z :: r_z, hl_z => simp only [Zev, Zit, e_z, hq_z, if_neg ne20, if_neg ne21, if_true, List.length_cons] at hl_z ⊢; omega
    · match L, hl_z with
      | [], hl_z => simp at hl_z; omega
      | [x_z], hl_z => simp at hl_z; omega
      | y_z :: x_z :: r_z, hl_z => simp only [Zev, Zit, e_z, hq_z, if_neg ne30, if_neg ne31, if_neg ne32, List.length_cons] at hl_z ⊢; omega
/-- a_z pile of numbers in a_z row_z: the lowest at 0 -/
def Zpl (p_z : Nat → Int32) : List Int32 → Prop
  | [] => True
  | x_z :: r_z => p_z r_z.length = x_z ∧ Zpl p_z r_z
theorem Zpl_kp {p_z p' : Nat → Int32} : ∀ {L : List Int32}, Zpl p_z L → (∀ j_z, j_z < L.length → p' j_z = p_z j_z) → Zpl p' L := by
  intro L
  induction L with
  | nil => intro _ _; trivial
  | cons x_z r_z ih_z =>
    intro h_z hk_z
    exact ⟨by rw [hk_z _ (by simp)]; exact h_z.1, ih_z h_z.2 (fun j_z hj_z => hk_z j_z (by simp; omega))⟩
theorem Zpl_push {p_z : Nat → Int32} {L : List Int32} {d_z : Nat} (v_z : Int32) (h_z : Zpl p_z L) (hd_z : L.length = d_z) : Zpl (fun j_z => if j_z = d_z then v_z else p_z j_z) (v_z :: L) := by
  subst hd_z
  exact ⟨by simp, Zpl_kp h_z (fun j_z hj_z => by simp [show ¬ j_z = L.length by omega])⟩
def Zgi (f_z : Nat → Int32) (u_z : Nat) (k_z : Nat) : Zitm := (f_z (85 + 125 * u_z + 2 * k_z), f_z (86 + 125 * u_z + 2 * k_z))
def Ztop (L : List Int32) : Int32 := L.headD 0
/-- how the class tells an item -/
def Zen (u_z : Nat) (q_z : Zitm) (x_z : Int32) : Prop := (q_z.1 = nI 0 ∧ x_z = q_z.2) ∨ (q_z.1 = nI 1 ∧ ∃ c_z, Znm u_z c_z ∧ q_z.2 = nI c_z ∧ x_z = -(nI (1 + Zpn u_z c_z))) ∨ (q_z.1 = nI 2 ∧ x_z = -(nI 33)) ∨ (q_z.1 = nI 3 ∧ x_z = -q_z.2)
def Zvi (u_z : Nat) (q_z : Zitm) : Prop := (q_z.1 = nI 0 ∧ ∃ j_z, j_z < 10000 ∧ q_z.2 = nI j_z) ∨ (q_z.1 = nI 1 ∧ ∃ c_z, Znm u_z c_z ∧ q_z.2 = nI c_z) ∨ q_z.1 = nI 2 ∨ (q_z.1 = nI 3 ∧ ∃ c_z, Zsg c_z ∧ q_z.2 = nI c_z)
theorem Zsg_lt {c_z : Nat} (h_z : Zsg c_z) : 37 ≤ c_z ∧ c_z < 128 ∧ c_z ≠ 33 := by unfold Zsg at h_z; omega
theorem Znm_lt {u_z c_z : Nat} (h_z : Znm u_z c_z) : c_z < 128 := by unfold Znm at h_z; omega
theorem Zpn_lt (u_z c_z : Nat) : Zpn u_z c_z < 3 := by
  unfold Zpn
  split <;> split <;> (try split) <;> omega
theorem Zvi_of {u_z : Nat} {g_z : Nat → Zitm} {n_z d_z : Nat} (h_z : Zwf u_z g_z (n_z + 1) d_z) : Zvi u_z (g_z n_z) := by
  obtain ⟨d', -, h_z⟩ := h_z
  rcases h_z with ⟨e_z, h_z, -⟩ | ⟨e_z, h_z, -⟩ | ⟨e_z, -⟩ | ⟨e_z, h_z, -⟩
  · exact Or.inl ⟨e_z, h_z⟩
  · exact Or.inr (Or.inl ⟨e_z, h_z⟩)
  · exact Or.inr (Or.inr (Or.inl e_z))
  · exact Or.inr (Or.inr (Or.inr ⟨e_z, h_z⟩))
theorem Zwf_pre {u_z : Nat} {g_z : Nat → Zitm} : ∀ {n_z d_z : Nat}, Zwf u_z g_z n_z d_z → ∀ i_z, i_z ≤ n_z → ∃ d', Zwf u_z g_z i_z d' := by
  intro n_z
  induction n_z with
  | zero => intro d_z h_z i_z hi_z; obtain rfl : i_z = 0 := by omega
            exact ⟨d_z, h_z⟩
  | succ n_z ih_z =>
    intro d_z h_z i_z hi_z
    by_cases he_z : i_z = n_z + 1
    · subst he_z; exact ⟨d_z, h_z⟩
    · obtain ⟨d', h1_z, -⟩ := h_z
      exact ih_z h1_z i_z (by omega)
theorem Zwf_un {u_z : Nat} {g_z : Nat → Zitm} {n_z d_z d' : Nat} (h_z : Zwf u_z g_z n_z d_z) (h' : Zwf u_z g_z n_z d') : d_z = d' := by
  rw [← Zwf_len (fun x_z => x_z) h_z, ← Zwf_len (fun x_z => x_z) h']
theorem Zneg_lt0 {k_z : Nat} (h_z : 0 < k_z) (h2_z : k_z < 2 ^ 31) : -(nI k_z) < (0 : Int32) := by
  rw [Zlt_i, Zneg_i h2_z, ← Zn0, Zn_i (by decide)]; omega
theorem Zn_nlt0 {k_z : Nat} (h2_z : k_z < 2 ^ 31) : ¬ nI k_z < (0 : Int32) := by
  rw [Zlt_i, Zn_i h2_z, ← Zn0, Zn_i (by decide)]; omega
theorem Zneg_eq {a_z b_z : Nat} (ha_z : a_z < 2 ^ 31) (hb_z : b_z < 2 ^ 31) (h_z : -(nI a_z) = -(nI b_z)) : a_z = b_z := by
  rw [Zeq_i, Zneg_i ha_z, Zneg_i hb_z] at h_z; omega
theorem Zneg_lt {a_z b_z : Nat} (ha_z : a_z < 2 ^ 31) (hb_z : b_z < 2 ^ 31) : -(nI a_z) < -(nI b_z) ↔ b_z < a_z := by
  rw [Zlt_i, Zneg_i ha_z, Zneg_i hb_z]; omega
section ZEN
variable {u_z : Nat} {q_z : Zitm} {x_z : Int32}
theorem Zen_0 (h_z : Zen u_z q_z x_z) (hv_z : Zvi u_z q_z) (hx_z : ¬ x_z < 0) : q_z.1 = nI 0 ∧ x_z = q_z.2 := by
  rcases h_z with ⟨h1_z, h2_z⟩ | ⟨-, c_z, -, -, rfl⟩ | ⟨-, rfl⟩ | ⟨h1_z, rfl⟩
  · exact ⟨h1_z, h2_z⟩
  · exact absurd (Zneg_lt0 (by omega) (by have := Zpn_lt u_z c_z; omega)) hx_z
  · exact absurd (Zneg_lt0 (by decide) (by decide)) hx_z
  · exfalso
    rcases hv_z with ⟨e_z, -⟩ | ⟨e_z, -⟩ | e_z | ⟨-, c_z, hc_z, e2_z⟩
    · rw [h1_z] at e_z; exact absurd e_z (by decide)
    · rw [h1_z] at e_z; exact absurd e_z (by decide)
    · rw [h1_z] at e_z; exact absurd e_z (by decide)
    · have := Zsg_lt hc_z
      rw [e2_z] at hx_z
      exact hx_z (Zneg_lt0 (by omega) (by omega))
theorem Zen_1 (h_z : Zen u_z q_z x_z) (hv_z : Zvi u_z q_z) (hx_z : x_z < 0) (h3_z : ¬ x_z < -(nI 3)) : q_z.1 = nI 1 ∧ ∃ c_z, Znm u_z c_z ∧ q_z.2 = nI c_z ∧ x_z = -(nI (1 + Zpn u_z c_z)) := by
  rcases h_z with ⟨h1_z, rfl⟩ | h_z | ⟨-, rfl⟩ | ⟨h1_z, rfl⟩
  · exfalso
    rcases hv_z with ⟨-, j_z, hj_z, e_z⟩ | ⟨e_z, -⟩ | e_z | ⟨e_z, -⟩
    · rw [e_z] at hx_z; exact Zn_nlt0 (by omega) hx_z
    · rw [h1_z] at e_z; exact absurd e_z (by decide)
    · rw [h1_z] at e_z; exact absurd e_z (by decide)
    · rw [h1_z] at e_z; exact absurd e_z (by decide)
  · exact h_z
  · exact absurd ((Zneg_lt (by decide) (by decide)).mpr (by decide)) h3_z
  · exfalso
    rcases hv_z with ⟨e_z, -⟩ | ⟨e_z, -⟩ | e_z | ⟨-, c_z, hc_z, e2_z⟩
    · rw [h1_z] at e_z; exact absurd e_z (by decide)
    · rw [h1_z] at e_z; exact absurd e_z (by decide)
    · rw [h1_z] at e_z; exact absurd e_z (by decide)
    · have := Zsg_lt hc_z
      rw [e2_z] at h3_z
      exact h3_z ((Zneg_lt (by omega) (by decide)).mpr (by omega))
theorem Zen_2 (h_z : Zen u_z q_z x_z) (hv_z : Zvi u_z q_z) (hx_z : x_z = -(nI 33)) : q_z.1 = nI 2 := by
  subst hx_z
  rcases h_z with ⟨h1_z, h2_z⟩ | ⟨-, c_z, -, -, h2_z⟩ | ⟨h1_z, -⟩ | ⟨h1_z, h2_z⟩
  · exfalso
    rcases hv_z with ⟨-, j_z, hj_z, e_z⟩ | ⟨e_z, -⟩ | e_z | ⟨e_z, -⟩
    · rw [e_z, Zeq_i, Zneg_i (by decide), Zn_i (by omega)] at h2_z; omega
    · rw [h1_z] at e_z; exact absurd e_z (by decide)
    · rw [h1_z] at e_z; exact absurd e_z (by decide)
    · rw [h1_z] at e_z; exact absurd e_z (by decide)
  · have := Zneg_eq (by decide) (by have := Zpn_lt u_z c_z; omega) h2_z
    have := Zpn_lt u_z c_z
    omega
  · exact h1_z
  · exfalso
    rcases hv_z with ⟨e_z, -⟩ | ⟨e_z, -⟩ | e_z | ⟨-, c_z, hc_z, e2_z⟩
    · rw [h1_z] at e_z; exact absurd e_z (by decide)
    · rw [h1_z] at e_z; exact absurd e_z (by decide)
    · rw [h1_z] at e_z; exact absurd e_z (by decide)
    · have h5_z := Zsg_lt hc_z
      rw [e2_z] at h2_z
      have := Zneg_eq (by decide) (by omega) h2_z
      omega
theorem Zen_3 (h_z : Zen u_z q_z x_z) (hv_z : Zvi u_z q_z) (h3_z : x_z < -(nI 3)) (hx_z : ¬ x_z = -(nI 33)) : q_z.1 = nI 3 ∧ ∃ c_z, Zsg c_z ∧ q_z.2 = nI c_z ∧ x_z = -(nI c_z) := by
  rcases h_z with ⟨h1_z, rfl⟩ | ⟨-, c_z, -, -, rfl⟩ | ⟨-, h2_z⟩ | ⟨h1_z, h2_z⟩
  · exfalso
    rcases hv_z with ⟨-, j_z, hj_z, e_z⟩ | ⟨e_z, -⟩ | e_z | ⟨e_z, -⟩
    · rw [e_z, Zlt_i, Zneg_i (by decide), Zn_i (by omega)] at h3_z; omega
    · rw [h1_z] at e_z; exact absurd e_z (by decide)
    · rw [h1_z] at e_z; exact absurd e_z (by decide)
    · rw [h1_z] at e_z; exact absurd e_z (by decide)
  · exfalso
    have := (Zneg_lt (by have := Zpn_lt u_z c_z; omega) (by decide)).mp h3_z
    have := Zpn_lt u_z c_z
    omega
  · exact absurd h2_z hx_z
  · rcases hv_z with ⟨e_z, -⟩ | ⟨e_z, -⟩ | e_z | ⟨-, c_z, hc_z, e2_z⟩
    · rw [h1_z] at e_z; exact absurd e_z (by decide)
    · rw [h1_z] at e_z; exact absurd e_z (by decide)
    · rw [h1_z] at e_z; exact absurd e_z (by decide)
    · exact ⟨h1_z, c_z, hc_z, e2_z, by rw [h2_z, e2_z]⟩
end ZEN
theorem Zpush_ok {M M1 : Zmem} {t d_z : Nat} {L : List Int32} (v_z : Int32) (ht_z : t = 11 ∨ t = 14) (hsc : St M M1) (hp : Zpl (M1 (t + 2)) L) (hd_z : L.length = d_z) : St M (Zu (Zu M1 (t + 2) d_z v_z) t 4 (nI (d_z + 1))) ∧ (Zu (Zu M1 (t + 2) d_z v_z) t 4 (nI (d_z + 1))) t 4 = nI (d_z + 1) ∧ Zpl ((Zu (Zu M1 (t + 2) d_z v_z) t 4 (nI (d_z + 1))) (t + 2)) (v_z :: L) := by
  refine ⟨?_, by rw [Zu_k, if_pos ⟨rfl, rfl⟩], ?_⟩
  · rcases ht_z with rfl | rfl <;> exact (hsc.u _ rfl).u _ rfl
  · rw [Zu_ne _ _ _ (by omega), Zu_at]
    exact Zpl_push v_z hp hd_z
theorem Zpop_ok {M M1 : Zmem} {t d_z : Nat} {L : List Int32} {x_z : Int32} (ht_z : t = 11 ∨ t = 14) (hsc : St M M1) (hp : Zpl (M1 (t + 2)) (x_z :: L)) (hd_z : L.length = d_z) : M1 (t + 2) d_z = x_z ∧ St M (Zu M1 t 4 (nI d_z)) ∧ (Zu M1 t 4 (nI d_z)) t 4 = nI d_z ∧ Zpl ((Zu M1 t 4 (nI d_z)) (t + 2)) L := by
  refine ⟨by rw [← hd_z]; exact hp.1, ?_, by rw [Zu_k, if_pos ⟨rfl, rfl⟩], ?_⟩
  · rcases ht_z with rfl | rfl <;> exact hsc.u _ rfl
  · rw [Zu_ne _ _ _ (by omega)]
    exact hp.2
/-- the names' numbers, for the class -/
def Zab (u_z : Nat) (nm : Int32 → Int32) (a_z b_z c_z : Int32) : Prop := ∀ n_z, Znm u_z n_z → nm (nI n_z) = ([a_z, b_z, c_z] : List Int32).getD (Zpn u_z n_z) 0

set_option maxRecDepth 20000 in
theorem s_joined (c_z : Nat) (x_z y_z : Int32) (M : Zmem) (hsg : Zsg c_z) : ZC 73 0 [.int (nI c_z), .int x_z, .int y_z] M (fun r_z M' => r_z = some (.int (Zjn c_z x_z y_z)) ∧ M = M') := by
  refine ZC_of Zt73 Zk73 (Nat.le_of_ble_eq_true rfl) (by decide) rfl (fun X hX hE => ?_)
  have hlt := Zsg_lt hsg
  refine Zgo hX 1 rfl (by first | exact True.intro | (dsimp only [ZallP]; and_intros <;> (first | decide | ((try simp only [pk_mul, nI_add]); exact Zin_n (by omega) (by decide))))) ?_
  by_cases s1_0 : nI c_z = nI 37
  · skip
    refine Zs_sw [(nI 37, 154), (nI 38, 204), (nI 39, 218), (nI 40, 218), (nI 41, 218), (nI 42, 128), (nI 43, 120), (nI 44, 218), (nI 45, 124), (nI 46, 218), (nI 47, 132), (nI 48, 218), (nI 49, 218), (nI 50, 218), (nI 51, 218), (nI 52, 218), (nI 53, 218), (nI 54, 218), (nI 55, 218), (nI 56, 218), (nI 57, 218), (nI 58, 218), (nI 59, 218), (nI 60, 171), (nI 61, 193), (nI 62, 182)] 218 hX (by decide +kernel) (by decide +kernel) (t := 154) (if_pos s1_0) ?_
    obtain rfl : c_z = 37 := Zeq (by omega) (by decide) s1_0
    refine Zgo hX 1 rfl (by first | exact True.intro | (dsimp only [ZallP]; and_intros <;> (first | decide | ((try simp only [pk_mul, nI_add]); exact Zin_n (by omega) (by decide))))) ?_
    refine Zs_eq hX (List.cons_ne_nil _ _) (fun h155_z => ?_) (fun h155_z => ?_)
    · skip
      refine Zgo hX 2 rfl (by first | exact True.intro | (dsimp only [ZallP]; and_intros <;> (first | decide | ((try simp only [pk_mul, nI_add]); exact Zin_n (by omega) (by decide))))) ?_
      refine Zs_ret hX hE rfl ⟨by show some (Value.int _) = some (Value.int (if y_z = 0 then nI 0 else x_z - x_z / y_z * y_z)); first | (rw [if_pos h155_z]; done) | (rw [if_neg h155_z, h160_z, Zrem_m1]; done) | (rw [if_neg h155_z]; done), rfl⟩
    · skip
      refine Zgo hX 2 rfl (by first | exact True.intro | (dsimp only [ZallP]; and_intros <;> (first | decide | ((try simp only [pk_mul, nI_add]); exact Zin_n (by omega) (by decide))))) ?_
      refine Zs_ine hX (List.cons_ne_nil _ _) (fun h160_z => ?_) (fun h160_z => ?_)
      · skip
        refine Zgo hX 3 rfl h155_z ?_
        refine Zs_ret hX hE rfl ⟨by show some (Value.int _) = some (Value.int (if y_z = 0 then nI 0 else x_z - x_z / y_z * y_z)); first | (rw [if_pos h155_z]; done) | (rw [if_neg h155_z, h160_z, Zrem_m1]; done) | (rw [if_neg h155_z]; done), rfl⟩
      · skip
        refine Zgo hX 2 rfl (by first | exact True.intro | (dsimp only [ZallP]; and_intros <;> (first | decide | ((try simp only [pk_mul, nI_add]); exact Zin_n (by omega) (by decide))))) ?_
        refine Zs_ret hX hE rfl ⟨by show some (Value.int _) = some (Value.int (if y_z = 0 then nI 0 else x_z - x_z / y_z * y_z)); first | (rw [if_pos h155_z]; done) | (rw [if_neg h155_z, h160_z, Zrem_m1]; done) | (rw [if_neg h155_z]; done), rfl⟩
  by_cases s1_1 : nI c_z = nI 38
  · skip
    refine Zs_sw [(nI 37, 154), (nI 38, 204), (nI 39, 218), (nI 40, 218), (nI 41, 218), (nI 42, 128), (nI 43, 120), (nI 44, 218), (nI 45, 124), (nI 46, 218), (nI 47, 132), (nI 48, 218), (nI 49, 218), (nI 50, 218), (nI 51, 218), (nI 52, 218), (nI 53, 218), (nI 54, 218), (nI 55, 218), (nI 56, 218), (nI 57, 218), (nI 58, 218), (nI 59, 218), (nI 60, 171), (nI 61, 193), (nI 62, 182)] 218 hX (by decide +kernel) (by decide +kernel) (t := 204) ((if_neg s1_0).trans (if_pos s1_1)) ?_
    obtain rfl : c_z = 38 := Zeq (by omega) (by decide) s1_1
    refine Zgo hX 1 rfl (by first | exact True.intro | (dsimp only [ZallP]; and_intros <;> (first | decide | ((try simp only [pk_mul, nI_add]); exact Zin_n (by omega) (by decide))))) ?_
    refine Zs_eq hX (List.cons_ne_nil _ _) (fun h205_z => ?_) (fun h205_z => ?_)
    · skip
      refine Zgo hX 1 rfl (by first | exact True.intro | (dsimp only [ZallP]; and_intros <;> (first | decide | ((try simp only [pk_mul, nI_add]); exact Zin_n (by omega) (by decide))))) ?_
      refine Zs_ret hX hE rfl ⟨by show some (Value.int _) = some (Value.int (if ¬ x_z = 0 ∧ ¬ y_z = 0 then nI 1 else nI 0)); first | (rw [if_pos ⟨h205_z, h209_z⟩]; done) | (rw [if_neg (fun q_z => q_z.1 h205_z)]; done) | (rw [if_neg (fun q_z => q_z.2 h209_z)]; done), rfl⟩
    · skip
      refine Zgo hX 1 rfl (by first | exact True.intro | (dsimp only [ZallP]; and_intros <;> (first | decide | ((try simp only [pk_mul, nI_add]); exact Zin_n (by omega) (by decide))))) ?_
      refine Zs_eq hX (List.cons_ne_nil _ _) (fun h209_z => ?_) (fun h209_z => ?_)
      · skip
        refine Zgo hX 1 rfl (by first | exact True.intro | (dsimp only [ZallP]; and_intros <;> (first | decide | ((try simp only [pk_mul, nI_add]); exact Zin_n (by omega) (by decide))))) ?_
        refine Zs_ret hX hE rfl ⟨by show some (Value.int _) = some (Value.int (if ¬ x_z = 0 ∧ ¬ y_z = 0 then nI 1 else nI 0)); first | (rw [if_pos ⟨h205_z, h209_z⟩]; done) | (rw [if_neg (fun q_z => q_z.1 h205_z)]; done) | (rw [if_neg (fun q_z => q_z.2 h209_z)]; done), rfl⟩
      · skip
        refine Zgo hX 2 rfl (by first | exact True.intro | (dsimp only [ZallP]; and_intros <;> (first | decide | ((try simp only [pk_mul, nI_add]); exact Zin_n (by omega) (by decide))))) ?_
        refine Zs_ret hX hE rfl ⟨by show some (Value.int _) = some (Value.int (if ¬ x_z = 0 ∧ ¬ y_z = 0 then nI 1 else nI 0)); first | (rw [if_pos ⟨h205_z, h209_z⟩]; done) | (rw [if_neg (fun q_z => q_z.1 h205_z)]; done) | (rw [if_neg (fun q_z => q_z.2 h209_z)]; done), rfl⟩
  by_cases s1_2 : nI c_z = nI 39
  · skip
    refine Zs_sw [(nI 37, 154), (nI 38, 204), (nI 39, 218), (nI 40, 218), (nI 41, 218), (nI 42, 128), (nI 43, 120), (nI 44, 218), (nI 45, 124), (nI 46, 218), (nI 47, 132), (nI 48, 218), (nI 49, 218), (nI 50, 218), (nI 51, 218), (nI 52, 218), (nI 53, 218), (nI 54, 218), (nI 55, 218), (nI 56, 218), (nI 57, 218), (nI 58, 218), (nI 59, 218), (nI 60, 171), (nI 61, 193), (nI 62, 182)] 218 hX (by decide +kernel) (by decide +kernel) (t := 218) ((if_neg s1_0).trans ((if_neg s1_1).trans (if_pos s1_2))) ?_
    obtain rfl : c_z = 39 := Zeq (by omega) (by decide) s1_2
    exact absurd hsg (by unfold Zsg; omega)
  by_cases s1_3 : nI c_z = nI 40
  · skip
    refine Zs_sw [(nI 37, 154), (nI 38, 204), (nI 39, 218), (nI 40, 218), (nI 41, 218), (nI 42, 128), (nI 43, 120), (nI 44, 218), (nI 45, 124), (nI 46, 218), (nI 47, 132), (nI 48, 218), (nI 49, 218), (nI 50, 218), (nI 51, 218), (nI 52, 218), (nI 53, 218), (nI 54, 218), (nI 55, 218), (nI 56, 218), (nI 57, 218), (nI 58, 218), (nI 59, 218), (nI 60, 171), (nI 61, 193), (nI 62, 182)] 218 hX (by decide +kernel) (by decide +kernel) (t := 218) ((if_neg s1_0).trans ((if_neg s1_1).trans ((if_neg s1_2).trans (if_pos s1_3)))) ?_
    obtain rfl : c_z = 40 := Zeq (by omega) (by decide) s1_3
    exact absurd hsg (by unfold Zsg; omega)
  by_cases s1_4 : nI c_z = nI 41
  · skip
    refine Zs_sw [(nI 37, 154), (nI 38, 204), (nI 39, 218), (nI 40, 218), (nI 41, 218), (nI 42, 128), (nI 43, 120), (nI 44, 218), (nI 45, 124), (nI 46, 218), (nI 47, 132), (nI 48, 218), (nI 49, 218), (nI 50, 218), (nI 51, 218), (nI 52, 218), (nI 53, 218), (nI 54, 218), (nI 55, 218), (nI 56, 218), (nI 57, 218), (nI 58, 218), (nI 59, 218), (nI 60, 171), (nI 61, 193), (nI 62, 182)] 218 hX (by decide +kernel) (by decide +kernel) (t := 218) ((if_neg s1_0).trans ((if_neg s1_1).trans ((if_neg s1_2).trans ((if_neg s1_3).trans (if_pos s1_4))))) ?_
    obtain rfl : c_z = 41 := Zeq (by omega) (by decide) s1_4
    exact absurd hsg (by unfold Zsg; omega)
  by_cases s1_5 : nI c_z = nI 42
  · skip
    refine Zs_sw [(nI 37, 154), (nI 38, 204), (nI 39, 218), (nI 40, 218), (nI 41, 218), (nI 42, 128), (nI 43, 120), (nI 44, 218), (nI 45, 124), (nI 46, 218), (nI 47, 132), (nI 48, 218), (nI 49, 218), (nI 50, 218), (nI 51, 218), (nI 52, 218), (nI 53, 218), (nI 54, 218), (nI 55, 218), (nI 56, 218), (nI 57, 218), (nI 58, 218), (nI 59, 218), (nI 60, 171), (nI 61, 193), (nI 62, 182)] 218 hX (by decide +kernel) (by decide +kernel) (t := 128) ((if_neg s1_0).trans ((if_neg s1_1).trans ((if_neg s1_2).trans ((if_neg s1_3).trans ((if_neg s1_4).trans (if_pos s1_5)))))) ?_
    obtain rfl : c_z = 42 := Zeq (by omega) (by decide) s1_5
    refine Zgo hX 3 rfl (by first | exact True.intro | (dsimp only [ZallP]; and_intros <;> (first | decide | ((try simp only [pk_mul, nI_add]); exact Zin_n (by omega) (by decide))))) ?_
    refine Zs_ret hX hE rfl ⟨rfl, rfl⟩
  by_cases s1_6 : nI c_z = nI 43
  · skip
    refine Zs_sw [(nI 37, 154), (nI 38, 204), (nI 39, 218), (nI 40, 218), (nI 41, 218), (nI 42, 128), (nI 43, 120), (nI 44, 218), (nI 45, 124), (nI 46, 218), (nI 47, 132), (nI 48, 218), (nI 49, 218), (nI 50, 218), (nI 51, 218), (nI 52, 218), (nI 53, 218), (nI 54, 218), (nI 55, 218), (nI 56, 218), (nI 57, 218), (nI 58, 218), (nI 59, 218), (nI 60, 171), (nI 61, 193), (nI 62, 182)] 218 hX (by decide +kernel) (by decide +kernel) (t := 120) ((if_neg s1_0).trans ((if_neg s1_1).trans ((if_neg s1_2).trans ((if_neg s1_3).trans ((if_neg s1_4).trans ((if_neg s1_5).trans (if_pos s1_6))))))) ?_
    obtain rfl : c_z = 43 := Zeq (by omega) (by decide) s1_6
    refine Zgo hX 3 rfl (by first | exact True.intro | (dsimp only [ZallP]; and_intros <;> (first | decide | ((try simp only [pk_mul, nI_add]); exact Zin_n (by omega) (by decide))))) ?_
    refine Zs_ret hX hE rfl ⟨rfl, rfl⟩
  by_cases s1_7 : nI c_z = nI 44
  · skip
    refine Zs_sw [(nI 37, 154), (nI 38, 204), (nI 39, 218), (nI 40, 218), (nI 41, 218), (nI 42, 128), (nI 43, 120), (nI 44, 218), (nI 45, 124), (nI 46, 218), (nI 47, 132), (nI 48, 218), (nI 49, 218), (nI 50, 218), (nI 51, 218), (nI 52, 218), (nI 53, 218), (nI 54, 218), (nI 55, 218), (nI 56, 218), (nI 57, 218), (nI 58, 218), (nI 59, 218), (nI 60, 171), (nI 61, 193), (nI 62, 182)] 218 hX (by decide +kernel) (by decide +kernel) (t := 218) ((if_neg s1_0).trans ((if_neg s1_1).trans ((if_neg s1_2).trans ((if_neg s1_3).trans ((if_neg s1_4).trans ((if_neg s1_5).trans ((if_neg s1_6).trans (if_pos s1_7)))))))) ?_
    obtain rfl : c_z = 44 := Zeq (by omega) (by decide) s1_7
    exact absurd hsg (by unfold Zsg; omega)
  by_cases s1_8 : nI c_z = nI 45
  · skip
    refine Zs_sw [(nI 37, 154), (nI 38, 204), (nI 39, 218), (nI 40, 218), (nI 41, 218), (nI 42, 128), (nI 43, 120), (nI 44, 218), (nI 45, 124), (nI 46, 218), (nI 47, 132), (nI 48, 218), (nI 49, 218), (nI 50, 218), (nI 51, 218), (nI 52, 218), (nI 53, 218), (nI 54, 218), (nI 55, 218), (nI 56, 218), (nI 57, 218), (nI 58, 218), (nI 59, 218), (nI 60, 171), (nI 61, 193), (nI 62, 182)] 218 hX (by decide +kernel) (by decide +kernel) (t := 124) ((if_neg s1_0).trans ((if_neg s1_1).trans ((if_neg s1_2).trans ((if_neg s1_3).trans ((if_neg s1_4).trans ((if_neg s1_5).trans ((if_neg s1_6).trans ((if_neg s1_7).trans (if_pos s1_8))))))))) ?_
    obtain rfl : c_z = 45 := Zeq (by omega) (by decide) s1_8
    refine Zgo hX 3 rfl (by first | exact True.intro | (dsimp only [ZallP]; and_intros <;> (first | decide | ((try simp only [pk_mul, nI_add]); exact Zin_n (by omega) (by decide))))) ?_
    refine Zs_ret hX hE rfl ⟨rfl, rfl⟩
  by_cases s1_9 : nI c_z = nI 46
  · skip
    refine Zs_sw [(nI 37, 154), (nI 38, 204), (nI 39, 218), (nI 40, 218), (nI 41, 218), (nI 42, 128), (nI 43, 120), (nI 44, 218), (nI 45, 124), (nI 46, 218), (nI 47, 132), (nI 48, 218), (nI 49, 218), (nI 50, 218), (nI 51, 218), (nI 52, 218), (nI 53, 218), (nI 54, 218), (nI 55, 218), (nI 56, 218), (nI 57, 218), (nI 58, 218), (nI 59, 218), (nI 60, 171), (nI 61, 193), (nI 62, 182)] 218 hX (by decide +kernel) (by decide +kernel) (t := 218) ((if_neg s1_0).trans ((if_neg s1_1).trans ((if_neg s1_2).trans ((if_neg s1_3).trans ((if_neg s1_4).trans ((if_neg s1_5).trans ((if_neg s1_6).trans ((if_neg s1_7).trans ((if_neg s1_8).trans (if_pos s1_9)))))))))) ?_
    obtain rfl : c_z = 46 := Zeq (by omega) (by decide) s1_9
    exact absurd hsg (by unfold Zsg; omega)
  by_cases s1_10 : nI c_z = nI 47
  · skip
    refine Zs_sw [(nI 37, 154), (nI 38, 204), (nI 39, 218), (nI 40, 218), (nI 41, 218), (nI 42, 128), (nI 43, 120), (nI 44, 218), (nI 45, 124), (nI 46, 218), (nI 47, 132), (nI 48, 218), (nI 49, 218), (nI 50, 218), (nI 51, 218), (nI 52, 218), (nI 53, 218), (nI 54, 218), (nI 55, 218), (nI 56, 218), (nI 57, 218), (nI 58, 218), (nI 59, 218), (nI 60, 171), (nI 61, 193), (nI 62, 182)] 218 hX (by decide +kernel) (by decide +kernel) (t := 132) ((if_neg s1_0).trans ((if_neg s1_1).trans ((if_neg s1_2).trans ((if_neg s1_3).trans ((if_neg s1_4).trans ((if_neg s1_5).trans ((if_neg s1_6).trans ((if_neg s1_7).trans ((if_neg s1_8).trans ((if_neg s1_9).trans (if_pos s1_10))))))))))) ?_
    obtain rfl : c_z = 47 := Zeq (by omega) (by decide) s1_10
    refine Zgo hX 1 rfl (by first | exact True.intro | (dsimp only [ZallP]; and_intros <;> (first | decide | ((try simp only [pk_mul, nI_add]); exact Zin_n (by omega) (by decide))))) ?_
    refine Zs_ne hX (List.cons_ne_nil _ _) (fun h133_z => ?_) (fun h133_z => ?_)
    · skip
      refine Zgo hX 2 rfl (by first | exact True.intro | (dsimp only [ZallP]; and_intros <;> (first | decide | ((try simp only [pk_mul, nI_add]); exact Zin_n (by omega) (by decide))))) ?_
      refine Zs_ine hX (List.cons_ne_nil _ _) (fun h142_z => ?_) (fun h142_z => ?_)
      · skip
        refine Zgo hX 3 rfl h133_z ?_
        refine Zs_ret hX hE rfl ⟨by show some (Value.int _) = some (Value.int (if y_z = 0 then nI 0 else x_z / y_z)); first | (rw [if_pos h133_z]; done) | (rw [if_neg h133_z, h142_z, Zdiv_m1]; done) | (rw [if_neg h133_z]; done), rfl⟩
      · skip
        refine Zgo hX 3 rfl (by first | exact True.intro | (dsimp only [ZallP]; and_intros <;> (first | decide | ((try simp only [pk_mul, nI_add]); exact Zin_n (by omega) (by decide))))) ?_
        refine Zs_ret hX hE rfl ⟨by show some (Value.int _) = some (Value.int (if y_z = 0 then nI 0 else x_z / y_z)); first | (rw [if_pos h133_z]; done) | (rw [if_neg h133_z, h142_z, Zdiv_m1]; done) | (rw [if_neg h133_z]; done), rfl⟩
    · skip
      refine Zgo hX 2 rfl (by first | exact True.intro | (dsimp only [ZallP]; and_intros <;> (first | decide | ((try simp only [pk_mul, nI_add]); exact Zin_n (by omega) (by decide))))) ?_
      refine Zs_ret hX hE rfl ⟨by show some (Value.int _) = some (Value.int (if y_z = 0 then nI 0 else x_z / y_z)); first | (rw [if_pos h133_z]; done) | (rw [if_neg h133_z, h142_z, Zdiv_m1]; done) | (rw [if_neg h133_z]; done), rfl⟩
  by_cases s1_11 : nI c_z = nI 48
  · skip
    refine Zs_sw [(nI 37, 154), (nI 38, 204), (nI 39, 218), (nI 40, 218), (nI 41, 218), (nI 42, 128), (nI 43, 120), (nI 44, 218), (nI 45, 124), (nI 46, 218), (nI 47, 132), (nI 48, 218), (nI 49, 218), (nI 50, 218), (nI 51, 218), (nI 52, 218), (nI 53, 218), (nI 54, 218), (nI 55, 218), (nI 56, 218), (nI 57, 218), (nI 58, 218), (nI 59, 218), (nI 60, 171), (nI 61, 193), (nI 62, 182)] 218 hX (by decide +kernel) (by decide +kernel) (t := 218) ((if_neg s1_0).trans ((if_neg s1_1).trans ((if_neg s1_2).trans ((if_neg s1_3).trans ((if_neg s1_4).trans ((if_neg s1_5).trans ((if_neg s1_6).trans ((if_neg s1_7).trans ((if_neg s1_8).trans ((if_neg s1_9).trans ((if_neg s1_10).trans (if_pos s1_11)))))))))))) ?_
    obtain rfl : c_z = 48 := Zeq (by omega) (by decide) s1_11
    exact absurd hsg (by unfold Zsg; omega)
  by_cases s1_12 : nI c_z = nI 49
  · skip
    refine Zs_sw [(nI 37, 154), (nI 38, 204), (nI 39, 218), (nI 40, 218), (nI 41, 218), (nI 42, 128), (nI 43, 120), (nI 44, 218), (nI 45, 124), (nI 46, 218), (nI 47, 132), (nI 48, 218), (nI 49, 218), (nI 50, 218), (nI 51, 218), (nI 52, 218), (nI 53, 218), (nI 54, 218), (nI 55, 218), (nI 56, 218), (nI 57, 218), (nI 58, 218), (nI 59, 218), (nI 60, 171), (nI 61, 193), (nI 62, 182)] 218 hX (by decide +kernel) (by decide +kernel) (t := 218) ((if_neg s1_0).trans ((if_neg s1_1).trans ((if_neg s1_2).trans ((if_neg s1_3).trans ((if_neg s1_4).trans ((if_neg s1_5).trans ((if_neg s1_6).trans ((if_neg s1_7).trans ((if_neg s1_8).trans ((if_neg s1_9).trans ((if_neg s1_10).trans ((if_neg s1_11).trans (if_pos s1_12))))))))))))) ?_
    obtain rfl : c_z = 49 := Zeq (by omega) (by decide) s1_12
    exact absurd hsg (by unfold Zsg; omega)
  by_cases s1_13 : nI c_z = nI 50
  · skip
    refine Zs_sw [(nI 37, 154), (nI 38, 204), (nI 39, 218), (nI 40, 218), (nI 41, 218), (nI 42, 128), (nI 43, 120), (nI 44, 218), (nI 45, 124), (nI 46, 218), (nI 47, 132), (nI 48, 218), (nI 49, 218), (nI 50, 218), (nI 51, 218), (nI 52, 218), (nI 53, 218), (nI 54, 218), (nI 55, 218), (nI 56, 218), (nI 57, 218), (nI 58, 218), (nI 59, 218), (nI 60, 171), (nI 61, 193), (nI 62, 182)] 218 hX (by decide +kernel) (by decide +kernel) (t := 218) ((if_neg s1_0).trans ((if_neg s1_1).trans ((if_neg s1_2).trans ((if_neg s1_3).trans ((if_neg s1_4).trans ((if_neg s1_5).trans ((if_neg s1_6).trans ((if_neg s1_7).trans ((if_neg s1_8).trans ((if_neg s1_9).trans ((if_neg s1_10).trans ((if_neg s1_11).trans ((if_neg s1_12).trans (if_pos s1_13)))))))))))))) ?_
    obtain rfl : c_z = 50 := Zeq (by omega) (by decide) s1_13
    exact absurd hsg (by unfold Zsg; omega)
  by_cases s1_14 : nI c_z = nI 51
  · skip
    refine Zs_sw [(nI 37, 154), (nI 38, 204), (nI 39, 218), (nI 40, 218), (nI 41, 218), (nI 42, 128), (nI 43, 120), (nI 44, 218), (nI 45, 124), (nI 46, 218), (nI 47, 132), (nI 48, 218), (nI 49, 218), (nI 50, 218), (nI 51, 218), (nI 52, 218), (nI 53, 218), (nI 54, 218), (nI 55, 218), (nI 56, 218), (nI 57, 218), (nI 58, 218), (nI 59, 218), (nI 60, 171), (nI 61, 193), (nI 62, 182)] 218 hX (by decide +kernel) (by decide +kernel) (t := 218) ((if_neg s1_0).trans ((if_neg s1_1).trans ((if_neg s1_2).trans ((if_neg s1_3).trans ((if_neg s1_4).trans ((if_neg s1_5).trans ((if_neg s1_6).trans ((if_neg s1_7).trans ((if_neg s1_8).trans ((if_neg s1_9).trans ((if_neg s1_10).trans ((if_neg s1_11).trans ((if_neg s1_12).trans ((if_neg s1_13).trans (if_pos s1_14))))))))))))))) ?_
    obtain rfl : c_z = 51 := Zeq (by omega) (by decide) s1_14
    exact absurd hsg (by unfold Zsg; omega)
  by_cases s1_15 : nI c_z = nI 52
  · skip
    refine Zs_sw [(nI 37, 154), (nI 38, 204), (nI 39, 218), (nI 40, 218), (nI 41, 218), (nI 42, 128), (nI 43, 120), (nI 44, 218), (nI 45, 124), (nI 46, 218), (nI 47, 132), (nI 48, 218), (nI 49, 218), (nI 50, 218), (nI 51, 218), (nI 52, 218), (nI 53, 218), (nI 54, 218), (nI 55, 218), (nI 56, 218), (nI 57, 218), (nI 58, 218), (nI 59, 218), (nI 60, 171), (nI 61, 193), (nI 62, 182)] 218 hX (by decide +kernel) (by decide +kernel) (t := 218) ((if_neg s1_0).trans ((if_neg s1_1).trans ((if_neg s1_2).trans ((if_neg s1_3).trans ((if_neg s1_4).trans ((if_neg s1_5).trans ((if_neg s1_6).trans ((if_neg s1_7).trans ((if_neg s1_8).trans ((if_neg s1_9).trans ((if_neg s1_10).trans ((if_neg s1_11).trans ((if_neg s1_12).trans ((if_neg s1_13).trans ((if_neg s1_14).trans (if_pos s1_15)))))))))))))))) ?_
    obtain rfl : c_z = 52 := Zeq (by omega) (by decide) s1_15
    exact absurd hsg (by unfold Zsg; omega)
  by_cases s1_16 : nI c_z = nI 53
  · skip
    refine Zs_sw [(nI 37, 154), (nI 38, 204), (nI 39, 218), (nI 40, 218), (nI 41, 218), (nI 42, 128), (nI 43, 120), (nI 44, 218), (nI 45, 124), (nI 46, 218), (nI 47, 132), (nI 48, 218), (nI 49, 218), (nI 50, 218), (nI 51, 218), (nI 52, 218), (nI 53, 218), (nI 54, 218), (nI 55, 218), (nI 56, 218), (nI 57, 218), (nI 58, 218), (nI 59, 218), (nI 60, 171), (nI 61, 193), (nI 62, 182)] 218 hX (by decide +kernel) (by decide +kernel) (t := 218) ((if_neg s1_0).trans ((if_neg s1_1).trans ((if_neg s1_2).trans ((if_neg s1_3).trans ((if_neg s1_4).trans ((if_neg s1_5).trans ((if_neg s1_6).trans ((if_neg s1_7).trans ((if_neg s1_8).trans ((if_neg s1_9).trans ((if_neg s1_10).trans ((if_neg s1_11).trans ((if_neg s1_12).trans ((if_neg s1_13).trans ((if_neg s1_14).trans ((if_neg s1_15).trans (if_pos s1_16))))))))))))))))) ?_
    obtain rfl : c_z = 53 := Zeq (by omega) (by decide) s1_16
    exact absurd hsg (by unfold Zsg; omega)
  by_cases s1_17 : nI c_z = nI 54
  · skip
    refine Zs_sw [(nI 37, 154), (nI 38, 204), (nI 39, 218), (nI 40, 218), (nI 41, 218), (nI 42, 128), (nI 43, 120), (nI 44, 218), (nI 45, 124), (nI 46, 218), (nI 47, 132), (nI 48, 218), (nI 49, 218), (nI 50, 218), (nI 51, 218), (nI 52, 218), (nI 53, 218), (nI 54, 218), (nI 55, 218), (nI 56, 218), (nI 57, 218), (nI 58, 218), (nI 59, 218), (nI 60, 171), (nI 61, 193), (nI 62, 182)] 218 hX (by decide +kernel) (by decide +kernel) (t := 218) ((if_neg s1_0).trans ((if_neg s1_1).trans ((if_neg s1_2).trans ((if_neg s1_3).trans ((if_neg s1_4).trans ((if_neg s1_5).trans ((if_neg s1_6).trans ((if_neg s1_7).trans ((if_neg s1_8).trans ((if_neg s1_9).trans ((if_neg s1_10).trans ((if_neg s1_11).trans ((if_neg s1_12).trans ((if_neg s1_13).trans ((if_neg s1_14).trans ((if_neg s1_15).trans ((if_neg s1_16).trans (if_pos s1_17)))))))))))))))))) ?_
    obtain rfl : c_z = 54 := Zeq (by omega) (by decide) s1_17
    exact absurd hsg (by unfold Zsg; omega)
  by_cases s1_18 : nI c_z = nI 55
  · skip
    refine Zs_sw [(nI 37, 154), (nI 38, 204), (nI 39, 218), (nI 40, 218), (nI 41, 218), (nI 42, 128), (nI 43, 120), (nI 44, 218), (nI 45, 124), (nI 46, 218), (nI 47, 132), (nI 48, 218), (nI 49, 218), (nI 50, 218), (nI 51, 218), (nI 52, 218), (nI 53, 218), (nI 54, 218), (nI 55, 218), (nI 56, 218), (nI 57, 218), (nI 58, 218), (nI 59, 218), (nI 60, 171), (nI 61, 193), (nI 62, 182)] 218 hX (by decide +kernel) (by decide +kernel) (t := 218) ((if_neg s1_0).trans ((if_neg s1_1).trans ((if_neg s1_2).trans ((if_neg s1_3).trans ((if_neg s1_4).trans ((if_neg s1_5).trans ((if_neg s1_6).trans ((if_neg s1_7).trans ((if_neg s1_8).trans ((if_neg s1_9).trans ((if_neg s1_10).trans ((if_neg s1_11).trans ((if_neg s1_12).trans ((if_neg s1_13).trans ((if_neg s1_14).trans ((if_neg s1_15).trans ((if_neg s1_16).trans ((if_neg s1_17).trans (if_pos s1_18))))))))))))))))))) ?_
    obtain rfl : c_z = 55 := Zeq (by omega) (by decide) s1_18
    exact absurd hsg (by unfold Zsg; omega)
  by_cases s1_19 : nI c_z = nI 56
  · skip
    refine Zs_sw [(nI 37, 154), (nI 38, 204), (nI 39, 218), (nI 40, 218), (nI 41, 218), (nI 42, 128), (nI 43, 120), (nI 44, 218), (nI 45, 124), (nI 46, 218), (nI 47, 132), (nI 48, 218), (nI 49, 218), (nI 50, 218), (nI 51, 218), (nI 52, 218), (nI 53, 218), (nI 54, 218), (nI 55, 218), (nI 56, 218), (nI 57, 218), (nI 58, 218), (nI 59, 218), (nI 60, 171), (nI 61, 193), (nI 62, 182)] 218 hX (by decide +kernel) (by decide +kernel) (t := 218) ((if_neg s1_0).trans ((if_neg s1_1).trans ((if_neg s1_2).trans ((if_neg s1_3).trans ((if_neg s1_4).trans ((if_neg s1_5).trans ((if_neg s1_6).trans ((if_neg s1_7).trans ((if_neg s1_8).trans ((if_neg s1_9).trans ((if_neg s1_10).trans ((if_neg s1_11).trans ((if_neg s1_12).trans ((if_neg s1_13).trans ((if_neg s1_14).trans ((if_neg s1_15).trans ((if_neg s1_16).trans ((if_neg s1_17).trans ((if_neg s1_18).trans (if_pos s1_19)))))))))))))))))))) ?_
    obtain rfl : c_z = 56 := Zeq (by omega) (by decide) s1_19
    exact absurd hsg (by unfold Zsg; omega)
  by_cases s1_20 : nI c_z = nI 57
  · skip
    refine Zs_sw [(nI 37, 154), (nI 38, 204), (nI 39, 218), (nI 40, 218), (nI 41, 218), (nI 42, 128), (nI 43, 120), (nI 44, 218), (nI 45, 124), (nI 46, 218), (nI 47, 132), (nI 48, 218), (nI 49, 218), (nI 50, 218), (nI 51, 218), (nI 52, 218), (nI 53, 218), (nI 54, 218), (nI 55, 218), (nI 56, 218), (nI 57, 218), (nI 58, 218), (nI 59, 218), (nI 60, 171), (nI 61, 193), (nI 62, 182)] 218 hX (by decide +kernel) (by decide +kernel) (t := 218) ((if_neg s1_0).trans ((if_neg s1_1).trans ((if_neg s1_2).trans ((if_neg s1_3).trans ((if_neg s1_4).trans ((if_neg s1_5).trans ((if_neg s1_6).trans ((if_neg s1_7).trans ((if_neg s1_8).trans ((if_neg s1_9).trans ((if_neg s1_10).trans ((if_neg s1_11).trans ((if_neg s1_12).trans ((if_neg s1_13).trans ((if_neg s1_14).trans ((if_neg s1_15).trans ((if_neg s1_16).trans ((if_neg s1_17).trans ((if_neg s1_18).trans ((if_neg s1_19).trans (if_pos s1_20))))))))))))))))))))) ?_
    obtain rfl : c_z = 57 := Zeq (by omega) (by decide) s1_20
    exact absurd hsg (by unfold Zsg; omega)
  by_cases s1_21 : nI c_z = nI 58
  · skip
    refine Zs_sw [(nI 37, 154), (nI 38, 204), (nI 39, 218), (nI 40, 218), (nI 41, 218), (nI 42, 128), (nI 43, 120), (nI 44, 218), (nI 45, 124), (nI 46, 218), (nI 47, 132), (nI 48, 218), (nI 49, 218), (nI 50, 218), (nI 51, 218), (nI 52, 218), (nI 53, 218), (nI 54, 218), (nI 55, 218), (nI 56, 218), (nI 57, 218), (nI 58, 218), (nI 59, 218), (nI 60, 171), (nI 61, 193), (nI 62, 182)] 218 hX (by decide +kernel) (by decide +kernel) (t := 218) ((if_neg s1_0).trans ((if_neg s1_1).trans ((if_neg s1_2).trans ((if_neg s1_3).trans ((if_neg s1_4).trans ((if_neg s1_5).trans ((if_neg s1_6).trans ((if_neg s1_7).trans ((if_neg s1_8).trans ((if_neg s1_9).trans ((if_neg s1_10).trans ((if_neg s1_11).trans ((if_neg s1_12).trans ((if_neg s1_13).trans ((if_neg s1_14).trans ((if_neg s1_15).trans ((if_neg s1_16).trans ((if_neg s1_17).trans ((if_neg s1_18).trans ((if_neg s1_19).trans ((if_neg s1_20).trans (if_pos s1_21)))))))))))))))))))))) ?_
    obtain rfl : c_z = 58 := Zeq (by omega) (by decide) s1_21
    exact absurd hsg (by unfold Zsg; omega)
  by_cases s1_22 : nI c_z = nI 59
  · skip
    refine Zs_sw [(nI 37, 154), (nI 38, 204), (nI 39, 218), (nI 40, 218), (nI 41, 218), (nI 42, 128), (nI 43, 120), (nI 44, 218), (nI 45, 124), (nI 46, 218), (nI 47, 132), (nI 48, 218), (nI 49, 218), (nI 50, 218), (nI 51, 218), (nI 52, 218), (nI 53, 218), (nI 54, 218), (nI 55, 218), (nI 56, 218), (nI 57, 218), (nI 58, 218), (nI 59, 218), (nI 60, 171), (nI 61, 193), (nI 62, 182)] 218 hX (by decide +kernel) (by decide +kernel) (t := 218) ((if_neg s1_0).trans ((if_neg s1_1).trans ((if_neg s1_2).trans ((if_neg s1_3).trans ((if_neg s1_4).trans ((if_neg s1_5).trans ((if_neg s1_6).trans ((if_neg s1_7).trans ((if_neg s1_8).trans ((if_neg s1_9).trans ((if_neg s1_10).trans ((if_neg s1_11).trans ((if_neg s1_12).trans ((if_neg s1_13).trans ((if_neg s1_14).trans ((if_neg s1_15).trans ((if_neg s1_16).trans ((if_neg s1_17).trans ((if_neg s1_18).trans ((if_neg s1_19).trans ((if_neg s1_20).trans ((if_neg s1_21).trans (if_pos s1_22))))))))))))))))))))))) ?_
    obtain rfl : c_z = 59 := Zeq (by omega) (by decide) s1_22
    exact absurd hsg (by unfold Zsg; omega)
  by_cases s1_23 : nI c_z = nI 60
  · skip
    refine Zs_sw [(nI 37, 154), (nI 38, 204), (nI 39, 218), (nI 40, 218), (nI 41, 218), (nI 42, 128), (nI 43, 120), (nI 44, 218), (nI 45, 124), (nI 46, 218), (nI 47, 132), (nI 48, 218), (nI 49, 218), (nI 50, 218), (nI 51, 218), (nI 52, 218), (nI 53, 218), (nI 54, 218), (nI 55, 218), (nI 56, 218), (nI 57, 218), (nI 58, 218), (nI 59, 218), (nI 60, 171), (nI 61, 193), (nI 62, 182)] 218 hX (by decide +kernel) (by decide +kernel) (t := 171) ((if_neg s1_0).trans ((if_neg s1_1).trans ((if_neg s1_2).trans ((if_neg s1_3).trans ((if_neg s1_4).trans ((if_neg s1_5).trans ((if_neg s1_6).trans ((if_neg s1_7).trans ((if_neg s1_8).trans ((if_neg s1_9).trans ((if_neg s1_10).trans ((if_neg s1_11).trans ((if_neg s1_12).trans ((if_neg s1_13).trans ((if_neg s1_14).trans ((if_neg s1_15).trans ((if_neg s1_16).trans ((if_neg s1_17).trans ((if_neg s1_18).trans ((if_neg s1_19).trans ((if_neg s1_20).trans ((if_neg s1_21).trans ((if_neg s1_22).trans (if_pos s1_23)))))))))))))))))))))))) ?_
    obtain rfl : c_z = 60 := Zeq (by omega) (by decide) s1_23
    refine Zgo hX 2 rfl (by first | exact True.intro | (dsimp only [ZallP]; and_intros <;> (first | decide | ((try simp only [pk_mul, nI_add]); exact Zin_n (by omega) (by decide))))) ?_
    refine Zs_ige hX (List.cons_ne_nil _ _) (fun h173_z => ?_) (fun h173_z => ?_)
    · skip
      refine Zgo hX 1 rfl (by first | exact True.intro | (dsimp only [ZallP]; and_intros <;> (first | decide | ((try simp only [pk_mul, nI_add]); exact Zin_n (by omega) (by decide))))) ?_
      refine Zs_ret hX hE rfl ⟨by show some (Value.int _) = some (Value.int (if x_z < y_z then nI 1 else nI 0)); first | (rw [if_pos (Int32.not_le.mp h173_z)]; done) | (rw [if_neg (Int32.not_lt.mpr h173_z)]; done), rfl⟩
    · skip
      refine Zgo hX 2 rfl (by first | exact True.intro | (dsimp only [ZallP]; and_intros <;> (first | decide | ((try simp only [pk_mul, nI_add]); exact Zin_n (by omega) (by decide))))) ?_
      refine Zs_ret hX hE rfl ⟨by show some (Value.int _) = some (Value.int (if x_z < y_z then nI 1 else nI 0)); first | (rw [if_pos (Int32.not_le.mp h173_z)]; done) | (rw [if_neg (Int32.not_lt.mpr h173_z)]; done), rfl⟩
  by_cases s1_24 : nI c_z = nI 61
  · skip
    refine Zs_sw [(nI 37, 154), (nI 38, 204), (nI 39, 218), (nI 40, 218), (nI 41, 218), (nI 42, 128), (nI 43, 120), (nI 44, 218), (nI 45, 124), (nI 46, 218), (nI 47, 132), (nI 48, 218), (nI 49, 218), (nI 50, 218), (nI 51, 218), (nI 52, 218), (nI 53, 218), (nI 54, 218), (nI 55, 218), (nI 56, 218), (nI 57, 218), (nI 58, 218), (nI 59, 218), (nI 60, 171), (nI 61, 193), (nI 62, 182)] 218 hX (by decide +kernel) (by decide +kernel) (t := 193) ((if_neg s1_0).trans ((if_neg s1_1).trans ((if_neg s1_2).trans ((if_neg s1_3).trans ((if_neg s1_4).trans ((if_neg s1_5).trans ((if_neg s1_6).trans ((if_neg s1_7).trans ((if_neg s1_8).trans ((if_neg s1_9).trans ((if_neg s1_10).trans ((if_neg s1_11).trans ((if_neg s1_12).trans ((if_neg s1_13).trans ((if_neg s1_14).trans ((if_neg s1_15).trans ((if_neg s1_16).trans ((if_neg s1_17).trans ((if_neg s1_18).trans ((if_neg s1_19).trans ((if_neg s1_20).trans ((if_neg s1_21).trans ((if_neg s1_22).trans ((if_neg s1_23).trans (if_pos s1_24))))))))))))))))))))))))) ?_
    obtain rfl : c_z = 61 := Zeq (by omega) (by decide) s1_24
    refine Zgo hX 2 rfl (by first | exact True.intro | (dsimp only [ZallP]; and_intros <;> (first | decide | ((try simp only [pk_mul, nI_add]); exact Zin_n (by omega) (by decide))))) ?_
    refine Zs_ine hX (List.cons_ne_nil _ _) (fun h195_z => ?_) (fun h195_z => ?_)
    · skip
      refine Zgo hX 1 rfl (by first | exact True.intro | (dsimp only [ZallP]; and_intros <;> (first | decide | ((try simp only [pk_mul, nI_add]); exact Zin_n (by omega) (by decide))))) ?_
      refine Zs_ret hX hE rfl ⟨by show some (Value.int _) = some (Value.int (if x_z = y_z then nI 1 else nI 0)); first | (rw [if_pos h195_z]; done) | (rw [if_neg h195_z]; done), rfl⟩
    · skip
      refine Zgo hX 2 rfl (by first | exact True.intro | (dsimp only [ZallP]; and_intros <;> (first | decide | ((try simp only [pk_mul, nI_add]); exact Zin_n (by omega) (by decide))))) ?_
      refine Zs_ret hX hE rfl ⟨by show some (Value.int _) = some (Value.int (if x_z = y_z then nI 1 else nI 0)); first | (rw [if_pos h195_z]; done) | (rw [if_neg h195_z]; done), rfl⟩
  by_cases s1_25 : nI c_z = nI 62
  · skip
    refine Zs_sw [(nI 37, 154), (nI 38, 204), (nI 39, 218), (nI 40, 218), (nI 41, 218), (nI 42, 128), (nI 43, 120), (nI 44, 218), (nI 45, 124), (nI 46, 218), (nI 47, 132), (nI 48, 218), (nI 49, 218), (nI 50, 218), (nI 51, 218), (nI 52, 218), (nI 53, 218), (nI 54, 218), (nI 55, 218), (nI 56, 218), (nI 57, 218), (nI 58, 218), (nI 59, 218), (nI 60, 171), (nI 61, 193), (nI 62, 182)] 218 hX (by decide +kernel) (by decide +kernel) (t := 182) ((if_neg s1_0).trans ((if_neg s1_1).trans ((if_neg s1_2).trans ((if_neg s1_3).trans ((if_neg s1_4).trans ((if_neg s1_5).trans ((if_neg s1_6).trans ((if_neg s1_7).trans ((if_neg s1_8).trans ((if_neg s1_9).trans ((if_neg s1_10).trans ((if_neg s1_11).trans ((if_neg s1_12).trans ((if_neg s1_13).trans ((if_neg s1_14).trans ((if_neg s1_15).trans ((if_neg s1_16).trans ((if_neg s1_17).trans ((if_neg s1_18).trans ((if_neg s1_19).trans ((if_neg s1_20).trans ((if_neg s1_21).trans ((if_neg s1_22).trans ((if_neg s1_23).trans ((if_neg s1_24).trans (if_pos s1_25)))))))))))))))))))))))))) ?_
    obtain rfl : c_z = 62 := Zeq (by omega) (by decide) s1_25
    refine Zgo hX 2 rfl (by first | exact True.intro | (dsimp only [ZallP]; and_intros <;> (first | decide | ((try simp only [pk_mul, nI_add]); exact Zin_n (by omega) (by decide))))) ?_
    refine Zs_ile hX (List.cons_ne_nil _ _) (fun h184_z => ?_) (fun h184_z => ?_)
    · skip
      refine Zgo hX 1 rfl (by first | exact True.intro | (dsimp only [ZallP]; and_intros <;> (first | decide | ((try simp only [pk_mul, nI_add]); exact Zin_n (by omega) (by decide))))) ?_
      refine Zs_ret hX hE rfl ⟨by show some (Value.int _) = some (Value.int (if y_z < x_z then nI 1 else nI 0)); first | (rw [if_pos (Int32.not_le.mp h184_z)]; done) | (rw [if_neg (Int32.not_lt.mpr h184_z)]; done), rfl⟩
    · skip
      refine Zgo hX 2 rfl (by first | exact True.intro | (dsimp only [ZallP]; and_intros <;> (first | decide | ((try simp only [pk_mul, nI_add]); exact Zin_n (by omega) (by decide))))) ?_
      refine Zs_ret hX hE rfl ⟨by show some (Value.int _) = some (Value.int (if y_z < x_z then nI 1 else nI 0)); first | (rw [if_pos (Int32.not_le.mp h184_z)]; done) | (rw [if_neg (Int32.not_lt.mpr h184_z)]; done), rfl⟩
  refine Zs_sw [(nI 37, 154), (nI 38, 204), (nI 39, 218), (nI 40, 218), (nI 41, 218), (nI 42, 128), (nI 43, 120), (nI 44, 218), (nI 45, 124), (nI 46, 218), (nI 47, 132), (nI 48, 218), (nI 49, 218), (nI 50, 218), (nI 51, 218), (nI 52, 218), (nI 53, 218), (nI 54, 218), (nI 55, 218), (nI 56, 218), (nI 57, 218), (nI 58, 218), (nI 59, 218), (nI 60, 171), (nI 61, 193), (nI 62, 182)] 218 hX (by decide +kernel) (by decide +kernel) (t := 218) ((if_neg s1_0).trans ((if_neg s1_1).trans ((if_neg s1_2).trans ((if_neg s1_3).trans ((if_neg s1_4).trans ((if_neg s1_5).trans ((if_neg s1_6).trans ((if_neg s1_7).trans ((if_neg s1_8).trans ((if_neg s1_9).trans ((if_neg s1_10).trans ((if_neg s1_11).trans ((if_neg s1_12).trans ((if_neg s1_13).trans ((if_neg s1_14).trans ((if_neg s1_15).trans ((if_neg s1_16).trans ((if_neg s1_17).trans ((if_neg s1_18).trans ((if_neg s1_19).trans ((if_neg s1_20).trans ((if_neg s1_21).trans ((if_neg s1_22).trans ((if_neg s1_23).trans ((if_neg s1_24).trans (if_neg s1_25)))))))))))))))))))))))))) ?_
  have z1_0 : c_z ≠ 37 := Zne (by omega) (by decide) s1_0
  have z1_1 : c_z ≠ 38 := Zne (by omega) (by decide) s1_1
  have z1_2 : c_z ≠ 39 := Zne (by omega) (by decide) s1_2
  have z1_3 : c_z ≠ 40 := Zne (by omega) (by decide) s1_3
  have z1_4 : c_z ≠ 41 := Zne (by omega) (by decide) s1_4
  have z1_5 : c_z ≠ 42 := Zne (by omega) (by decide) s1_5
  have z1_6 : c_z ≠ 43 := Zne (by omega) (by decide) s1_6
  have z1_7 : c_z ≠ 44 := Zne (by omega) (by decide) s1_7
  have z1_8 : c_z ≠ 45 := Zne (by omega) (by decide) s1_8
  have z1_9 : c_z ≠ 46 := Zne (by omega) (by decide) s1_9
  have z1_10 : c_z ≠ 47 := Zne (by omega) (by decide) s1_10
  have z1_11 : c_z ≠ 48 := Zne (by omega) (by decide) s1_11
  have z1_12 : c_z ≠ 49 := Zne (by omega) (by decide) s1_12
  have z1_13 : c_z ≠ 50 := Zne (by omega) (by decide) s1_13
  have z1_14 : c_z ≠ 51 := Zne (by omega) (by decide) s1_14
  have z1_15 : c_z ≠ 52 := Zne (by omega) (by decide) s1_15
  have z1_16 : c_z ≠ 53 := Zne (by omega) (by decide) s1_16
  have z1_17 : c_z ≠ 54 := Zne (by omega) (by decide) s1_17
  have z1_18 : c_z ≠ 55 := Zne (by omega) (by decide) s1_18
  have z1_19 : c_z ≠ 56 := Zne (by omega) (by decide) s1_19
  have z1_20 : c_z ≠ 57 := Zne (by omega) (by decide) s1_20
  have z1_21 : c_z ≠ 58 := Zne (by omega) (by decide) s1_21
  have z1_22 : c_z ≠ 59 := Zne (by omega) (by decide) s1_22
  have z1_23 : c_z ≠ 60 := Zne (by omega) (by decide) s1_23
  have z1_24 : c_z ≠ 61 := Zne (by omega) (by decide) s1_24
  have z1_25 : c_z ≠ 62 := Zne (by omega) (by decide) s1_25
  obtain rfl : c_z = 124 := by unfold Zsg at hsg; omega
  refine Zgo hX 1 rfl (by first | exact True.intro | (dsimp only [ZallP]; and_intros <;> (first | decide | ((try simp only [pk_mul, nI_add]); exact Zin_n (by omega) (by decide))))) ?_
  refine Zs_ne hX (List.cons_ne_nil _ _) (fun h219_z => ?_) (fun h219_z => ?_)
  · skip
    refine Zgo hX 2 rfl (by first | exact True.intro | (dsimp only [ZallP]; and_intros <;> (first | decide | ((try simp only [pk_mul, nI_add]); exact Zin_n (by omega) (by decide))))) ?_
    refine Zs_ret hX hE rfl ⟨by show some (Value.int _) = some (Value.int (if ¬ x_z = 0 ∨ ¬ y_z = 0 then nI 1 else nI 0)); first | (rw [if_pos (Or.inl h219_z)]; done) | (rw [if_pos (Or.inr h223_z)]; done) | (rw [if_neg (fun q_z => q_z.elim (fun z_z => z_z h219_z) (fun z_z => z_z h223_z))]; done), rfl⟩
  · skip
    refine Zgo hX 1 rfl (by first | exact True.intro | (dsimp only [ZallP]; and_intros <;> (first | decide | ((try simp only [pk_mul, nI_add]); exact Zin_n (by omega) (by decide))))) ?_
    refine Zs_eq hX (List.cons_ne_nil _ _) (fun h223_z => ?_) (fun h223_z => ?_)
    · skip
      refine Zgo hX 1 rfl (by first | exact True.intro | (dsimp only [ZallP]; and_intros <;> (first | decide | ((try simp only [pk_mul, nI_add]); exact Zin_n (by omega) (by decide))))) ?_
      refine Zs_ret hX hE rfl ⟨by show some (Value.int _) = some (Value.int (if ¬ x_z = 0 ∨ ¬ y_z = 0 then nI 1 else nI 0)); first | (rw [if_pos (Or.inl h219_z)]; done) | (rw [if_pos (Or.inr h223_z)]; done) | (rw [if_neg (fun q_z => q_z.elim (fun z_z => z_z h219_z) (fun z_z => z_z h223_z))]; done), rfl⟩
    · skip
      refine Zgo hX 2 rfl (by first | exact True.intro | (dsimp only [ZallP]; and_intros <;> (first | decide | ((try simp only [pk_mul, nI_add]); exact Zin_n (by omega) (by decide))))) ?_
      refine Zs_ret hX hE rfl ⟨by show some (Value.int _) = some (Value.int (if ¬ x_z = 0 ∨ ¬ y_z = 0 then nI 1 else nI 0)); first | (rw [if_pos (Or.inl h219_z)]; done) | (rw [if_pos (Or.inr h223_z)]; done) | (rw [if_neg (fun q_z => q_z.elim (fun z_z => z_z h219_z) (fun z_z => z_z h223_z))]; done), rfl⟩

set_option maxRecDepth 20000 in
theorem k_joined (c_z : Nat) (x_z y_z : Int32) (M : Zmem) (hsg : Zsg c_z) : ZC 189 0 [.int (nI c_z), .int x_z, .int y_z] M (fun r_z M' => r_z = some (.int (Zjn c_z x_z y_z)) ∧ M = M') := by
  refine ZC_of Zt189 Zk189 (Nat.le_of_ble_eq_true rfl) (by decide) rfl (fun X hX hE => ?_)
  have hlt := Zsg_lt hsg
  refine Zgo hX 1 rfl (by first | exact True.intro | (dsimp only [ZallP]; and_intros <;> (first | decide | ((try simp only [pk_mul, nI_add]); exact Zin_n (by omega) (by decide))))) ?_
  by_cases s1_0 : nI c_z = nI 37
  · skip
    refine Zs_sw [(nI 37, 177), (nI 38, 106), (nI 42, 161), (nI 43, 153), (nI 45, 157), (nI 47, 165), (nI 60, 120), (nI 61, 131), (nI 62, 142), (nI 124, 92)] 189 hX (by decide +kernel) (by decide +kernel) (t := 177) (if_pos s1_0) ?_
    obtain rfl : c_z = 37 := Zeq (by omega) (by decide) s1_0
    refine Zgo hX 1 rfl (by first | exact True.intro | (dsimp only [ZallP]; and_intros <;> (first | decide | ((try simp only [pk_mul, nI_add]); exact Zin_n (by omega) (by decide))))) ?_
    refine Zs_ne hX (List.cons_ne_nil _ _) (fun h178_z => ?_) (fun h178_z => ?_)
    · skip
      refine Zgo hX 3 rfl h178_z ?_
      refine Zs_ret hX hE rfl ⟨by show some (Value.int _) = some (Value.int (if y_z = 0 then nI 0 else x_z - x_z / y_z * y_z)); first | (rw [if_pos h178_z]; done) | (rw [if_neg h178_z]; done), rfl⟩
    · skip
      refine Zgo hX 2 rfl (by first | exact True.intro | (dsimp only [ZallP]; and_intros <;> (first | decide | ((try simp only [pk_mul, nI_add]); exact Zin_n (by omega) (by decide))))) ?_
      refine Zs_ret hX hE rfl ⟨by show some (Value.int _) = some (Value.int (if y_z = 0 then nI 0 else x_z - x_z / y_z * y_z)); first | (rw [if_pos h178_z]; done) | (rw [if_neg h178_z]; done), rfl⟩
  by_cases s1_1 : nI c_z = nI 38
  · skip
    refine Zs_sw [(nI 37, 177), (nI 38, 106), (nI 42, 161), (nI 43, 153), (nI 45, 157), (nI 47, 165), (nI 60, 120), (nI 61, 131), (nI 62, 142), (nI 124, 92)] 189 hX (by decide +kernel) (by decide +kernel) (t := 106) ((if_neg s1_0).trans (if_pos s1_1)) ?_
    obtain rfl : c_z = 38 := Zeq (by omega) (by decide) s1_1
    refine Zgo hX 1 rfl (by first | exact True.intro | (dsimp only [ZallP]; and_intros <;> (first | decide | ((try simp only [pk_mul, nI_add]); exact Zin_n (by omega) (by decide))))) ?_
    refine Zs_eq hX (List.cons_ne_nil _ _) (fun h107_z => ?_) (fun h107_z => ?_)
    · skip
      refine Zgo hX 1 rfl (by first | exact True.intro | (dsimp only [ZallP]; and_intros <;> (first | decide | ((try simp only [pk_mul, nI_add]); exact Zin_n (by omega) (by decide))))) ?_
      refine Zs_ret hX hE rfl ⟨by show some (Value.int _) = some (Value.int (if ¬ x_z = 0 ∧ ¬ y_z = 0 then nI 1 else nI 0)); first | (rw [if_pos ⟨h107_z, h111_z⟩]; done) | (rw [if_neg (fun q_z => q_z.1 h107_z)]; done) | (rw [if_neg (fun q_z => q_z.2 h111_z)]; done), rfl⟩
    · skip
      refine Zgo hX 1 rfl (by first | exact True.intro | (dsimp only [ZallP]; and_intros <;> (first | decide | ((try simp only [pk_mul, nI_add]); exact Zin_n (by omega) (by decide))))) ?_
      refine Zs_eq hX (List.cons_ne_nil _ _) (fun h111_z => ?_) (fun h111_z => ?_)
      · skip
        refine Zgo hX 1 rfl (by first | exact True.intro | (dsimp only [ZallP]; and_intros <;> (first | decide | ((try simp only [pk_mul, nI_add]); exact Zin_n (by omega) (by decide))))) ?_
        refine Zs_ret hX hE rfl ⟨by show some (Value.int _) = some (Value.int (if ¬ x_z = 0 ∧ ¬ y_z = 0 then nI 1 else nI 0)); first | (rw [if_pos ⟨h107_z, h111_z⟩]; done) | (rw [if_neg (fun q_z => q_z.1 h107_z)]; done) | (rw [if_neg (fun q_z => q_z.2 h111_z)]; done), rfl⟩
      · skip
        refine Zgo hX 2 rfl (by first | exact True.intro | (dsimp only [ZallP]; and_intros <;> (first | decide | ((try simp only [pk_mul, nI_add]); exact Zin_n (by omega) (by decide))))) ?_
        refine Zs_ret hX hE rfl ⟨by show some (Value.int _) = some (Value.int (if ¬ x_z = 0 ∧ ¬ y_z = 0 then nI 1 else nI 0)); first | (rw [if_pos ⟨h107_z, h111_z⟩]; done) | (rw [if_neg (fun q_z => q_z.1 h107_z)]; done) | (rw [if_neg (fun q_z => q_z.2 h111_z)]; done), rfl⟩
  by_cases s1_2 : nI c_z = nI 42
  · skip
    refine Zs_sw [(nI 37, 177), (nI 38, 106), (nI 42, 161), (nI 43, 153), (nI 45, 157), (nI 47, 165), (nI 60, 120), (nI 61, 131), (nI 62, 142), (nI 124, 92)] 189 hX (by decide +kernel) (by decide +kernel) (t := 161) ((if_neg s1_0).trans ((if_neg s1_1).trans (if_pos s1_2))) ?_
    obtain rfl : c_z = 42 := Zeq (by omega) (by decide) s1_2
    refine Zgo hX 3 rfl (by first | exact True.intro | (dsimp only [ZallP]; and_intros <;> (first | decide | ((try simp only [pk_mul, nI_add]); exact Zin_n (by omega) (by decide))))) ?_
    refine Zs_ret hX hE rfl ⟨rfl, rfl⟩
  by_cases s1_3 : nI c_z = nI 43
  · skip
    refine Zs_sw [(nI 37, 177), (nI 38, 106), (nI 42, 161), (nI 43, 153), (nI 45, 157), (nI 47, 165), (nI 60, 120), (nI 61, 131), (nI 62, 142), (nI 124, 92)] 189 hX (by decide +kernel) (by decide +kernel) (t := 153) ((if_neg s1_0).trans ((if_neg s1_1).trans ((if_neg s1_2).trans (if_pos s1_3)))) ?_
    obtain rfl : c_z = 43 := Zeq (by omega) (by decide) s1_3
    refine Zgo hX 3 rfl (by first | exact True.intro | (dsimp only [ZallP]; and_intros <;> (first | decide | ((try simp only [pk_mul, nI_add]); exact Zin_n (by omega) (by decide))))) ?_
    refine Zs_ret hX hE rfl ⟨rfl, rfl⟩
  by_cases s1_4 : nI c_z = nI 45
  · skip
    refine Zs_sw [(nI 37, 177), (nI 38, 106), (nI 42, 161), (nI 43, 153), (nI 45, 157), (nI 47, 165), (nI 60, 120), (nI 61, 131), (nI 62, 142), (nI 124, 92)] 189 hX (by decide +kernel) (by decide +kernel) (t := 157) ((if_neg s1_0).trans ((if_neg s1_1).trans ((if_neg s1_2).trans ((if_neg s1_3).trans (if_pos s1_4))))) ?_
    obtain rfl : c_z = 45 := Zeq (by omega) (by decide) s1_4
    refine Zgo hX 3 rfl (by first | exact True.intro | (dsimp only [ZallP]; and_intros <;> (first | decide | ((try simp only [pk_mul, nI_add]); exact Zin_n (by omega) (by decide))))) ?_
    refine Zs_ret hX hE rfl ⟨rfl, rfl⟩
  by_cases s1_5 : nI c_z = nI 47
  · skip
    refine Zs_sw [(nI 37, 177), (nI 38, 106), (nI 42, 161), (nI 43, 153), (nI 45, 157), (nI 47, 165), (nI 60, 120), (nI 61, 131), (nI 62, 142), (nI 124, 92)] 189 hX (by decide +kernel) (by decide +kernel) (t := 165) ((if_neg s1_0).trans ((if_neg s1_1).trans ((if_neg s1_2).trans ((if_neg s1_3).trans ((if_neg s1_4).trans (if_pos s1_5)))))) ?_
    obtain rfl : c_z = 47 := Zeq (by omega) (by decide) s1_5
    refine Zgo hX 1 rfl (by first | exact True.intro | (dsimp only [ZallP]; and_intros <;> (first | decide | ((try simp only [pk_mul, nI_add]); exact Zin_n (by omega) (by decide))))) ?_
    refine Zs_ne hX (List.cons_ne_nil _ _) (fun h166_z => ?_) (fun h166_z => ?_)
    · skip
      refine Zgo hX 3 rfl h166_z ?_
      refine Zs_ret hX hE rfl ⟨by show some (Value.int _) = some (Value.int (if y_z = 0 then nI 0 else x_z / y_z)); first | (rw [if_pos h166_z]; done) | (rw [if_neg h166_z]; done), rfl⟩
    · skip
      refine Zgo hX 2 rfl (by first | exact True.intro | (dsimp only [ZallP]; and_intros <;> (first | decide | ((try simp only [pk_mul, nI_add]); exact Zin_n (by omega) (by decide))))) ?_
      refine Zs_ret hX hE rfl ⟨by show some (Value.int _) = some (Value.int (if y_z = 0 then nI 0 else x_z / y_z)); first | (rw [if_pos h166_z]; done) | (rw [if_neg h166_z]; done), rfl⟩
  by_cases s1_6 : nI c_z = nI 60
  · skip
    refine Zs_sw [(nI 37, 177), (nI 38, 106), (nI 42, 161), (nI 43, 153), (nI 45, 157), (nI 47, 165), (nI 60, 120), (nI 61, 131), (nI 62, 142), (nI 124, 92)] 189 hX (by decide +kernel) (by decide +kernel) (t := 120) ((if_neg s1_0).trans ((if_neg s1_1).trans ((if_neg s1_2).trans ((if_neg s1_3).trans ((if_neg s1_4).trans ((if_neg s1_5).trans (if_pos s1_6))))))) ?_
    obtain rfl : c_z = 60 := Zeq (by omega) (by decide) s1_6
    refine Zgo hX 2 rfl (by first | exact True.intro | (dsimp only [ZallP]; and_intros <;> (first | decide | ((try simp only [pk_mul, nI_add]); exact Zin_n (by omega) (by decide))))) ?_
    refine Zs_ige hX (List.cons_ne_nil _ _) (fun h122_z => ?_) (fun h122_z => ?_)
    · skip
      refine Zgo hX 1 rfl (by first | exact True.intro | (dsimp only [ZallP]; and_intros <;> (first | decide | ((try simp only [pk_mul, nI_add]); exact Zin_n (by omega) (by decide))))) ?_
      refine Zs_ret hX hE rfl ⟨by show some (Value.int _) = some (Value.int (if x_z < y_z then nI 1 else nI 0)); first | (rw [if_pos (Int32.not_le.mp h122_z)]; done) | (rw [if_neg (Int32.not_lt.mpr h122_z)]; done), rfl⟩
    · skip
      refine Zgo hX 2 rfl (by first | exact True.intro | (dsimp only [ZallP]; and_intros <;> (first | decide | ((try simp only [pk_mul, nI_add]); exact Zin_n (by omega) (by decide))))) ?_
      refine Zs_ret hX hE rfl ⟨by show some (Value.int _) = some (Value.int (if x_z < y_z then nI 1 else nI 0)); first | (rw [if_pos (Int32.not_le.mp h122_z)]; done) | (rw [if_neg (Int32.not_lt.mpr h122_z)]; done), rfl⟩
  by_cases s1_7 : nI c_z = nI 61
  · skip
    refine Zs_sw [(nI 37, 177), (nI 38, 106), (nI 42, 161), (nI 43, 153), (nI 45, 157), (nI 47, 165), (nI 60, 120), (nI 61, 131), (nI 62, 142), (nI 124, 92)] 189 hX (by decide +kernel) (by decide +kernel) (t := 131) ((if_neg s1_0).trans ((if_neg s1_1).trans ((if_neg s1_2).trans ((if_neg s1_3).trans ((if_neg s1_4).trans ((if_neg s1_5).trans ((if_neg s1_6).trans (if_pos s1_7)))))))) ?_
    obtain rfl : c_z = 61 := Zeq (by omega) (by decide) s1_7
    refine Zgo hX 2 rfl (by first | exact True.intro | (dsimp only [ZallP]; and_intros <;> (first | decide | ((try simp only [pk_mul, nI_add]); exact Zin_n (by omega) (by decide))))) ?_
    refine Zs_ine hX (List.cons_ne_nil _ _) (fun h133_z => ?_) (fun h133_z => ?_)
    · skip
      refine Zgo hX 1 rfl (by first | exact True.intro | (dsimp only [ZallP]; and_intros <;> (first | decide | ((try simp only [pk_mul, nI_add]); exact Zin_n (by omega) (by decide))))) ?_
      refine Zs_ret hX hE rfl ⟨by show some (Value.int _) = some (Value.int (if x_z = y_z then nI 1 else nI 0)); first | (rw [if_pos h133_z]; done) | (rw [if_neg h133_z]; done), rfl⟩
    · skip
      refine Zgo hX 2 rfl (by first | exact True.intro | (dsimp only [ZallP]; and_intros <;> (first | decide | ((try simp only [pk_mul, nI_add]); exact Zin_n (by omega) (by decide))))) ?_
      refine Zs_ret hX hE rfl ⟨by show some (Value.int _) = some (Value.int (if x_z = y_z then nI 1 else nI 0)); first | (rw [if_pos h133_z]; done) | (rw [if_neg h133_z]; done), rfl⟩
  by_cases s1_8 : nI c_z = nI 62
  · skip
    refine Zs_sw [(nI 37, 177), (nI 38, 106), (nI 42, 161), (nI 43, 153), (nI 45, 157), (nI 47, 165), (nI 60, 120), (nI 61, 131), (nI 62, 142), (nI 124, 92)] 189 hX (by decide +kernel) (by decide +kernel) (t := 142) ((if_neg s1_0).trans ((if_neg s1_1).trans ((if_neg s1_2).trans ((if_neg s1_3).trans ((if_neg s1_4).trans ((if_neg s1_5).trans ((if_neg s1_6).trans ((if_neg s1_7).trans (if_pos s1_8))))))))) ?_
    obtain rfl : c_z = 62 := Zeq (by omega) (by decide) s1_8
    refine Zgo hX 2 rfl (by first | exact True.intro | (dsimp only [ZallP]; and_intros <;> (first | decide | ((try simp only [pk_mul, nI_add]); exact Zin_n (by omega) (by decide))))) ?_
    refine Zs_ile hX (List.cons_ne_nil _ _) (fun h144_z => ?_) (fun h144_z => ?_)
    · skip
      refine Zgo hX 1 rfl (by first | exact True.intro | (dsimp only [ZallP]; and_intros <;> (first | decide | ((try simp only [pk_mul, nI_add]); exact Zin_n (by omega) (by decide))))) ?_
      refine Zs_ret hX hE rfl ⟨by show some (Value.int _) = some (Value.int (if y_z < x_z then nI 1 else nI 0)); first | (rw [if_pos (Int32.not_le.mp h144_z)]; done) | (rw [if_neg (Int32.not_lt.mpr h144_z)]; done), rfl⟩
    · skip
      refine Zgo hX 2 rfl (by first | exact True.intro | (dsimp only [ZallP]; and_intros <;> (first | decide | ((try simp only [pk_mul, nI_add]); exact Zin_n (by omega) (by decide))))) ?_
      refine Zs_ret hX hE rfl ⟨by show some (Value.int _) = some (Value.int (if y_z < x_z then nI 1 else nI 0)); first | (rw [if_pos (Int32.not_le.mp h144_z)]; done) | (rw [if_neg (Int32.not_lt.mpr h144_z)]; done), rfl⟩
  by_cases s1_9 : nI c_z = nI 124
  · skip
    refine Zs_sw [(nI 37, 177), (nI 38, 106), (nI 42, 161), (nI 43, 153), (nI 45, 157), (nI 47, 165), (nI 60, 120), (nI 61, 131), (nI 62, 142), (nI 124, 92)] 189 hX (by decide +kernel) (by decide +kernel) (t := 92) ((if_neg s1_0).trans ((if_neg s1_1).trans ((if_neg s1_2).trans ((if_neg s1_3).trans ((if_neg s1_4).trans ((if_neg s1_5).trans ((if_neg s1_6).trans ((if_neg s1_7).trans ((if_neg s1_8).trans (if_pos s1_9)))))))))) ?_
    obtain rfl : c_z = 124 := Zeq (by omega) (by decide) s1_9
    refine Zgo hX 1 rfl (by first | exact True.intro | (dsimp only [ZallP]; and_intros <;> (first | decide | ((try simp only [pk_mul, nI_add]); exact Zin_n (by omega) (by decide))))) ?_
    refine Zs_ne hX (List.cons_ne_nil _ _) (fun h93_z => ?_) (fun h93_z => ?_)
    · skip
      refine Zgo hX 2 rfl (by first | exact True.intro | (dsimp only [ZallP]; and_intros <;> (first | decide | ((try simp only [pk_mul, nI_add]); exact Zin_n (by omega) (by decide))))) ?_
      refine Zs_ret hX hE rfl ⟨by show some (Value.int _) = some (Value.int (if ¬ x_z = 0 ∨ ¬ y_z = 0 then nI 1 else nI 0)); first | (rw [if_pos (Or.inl h93_z)]; done) | (rw [if_pos (Or.inr h97_z)]; done) | (rw [if_neg (fun q_z => q_z.elim (fun z_z => z_z h93_z) (fun z_z => z_z h97_z))]; done), rfl⟩
    · skip
      refine Zgo hX 1 rfl (by first | exact True.intro | (dsimp only [ZallP]; and_intros <;> (first | decide | ((try simp only [pk_mul, nI_add]); exact Zin_n (by omega) (by decide))))) ?_
      refine Zs_eq hX (List.cons_ne_nil _ _) (fun h97_z => ?_) (fun h97_z => ?_)
      · skip
        refine Zgo hX 1 rfl (by first | exact True.intro | (dsimp only [ZallP]; and_intros <;> (first | decide | ((try simp only [pk_mul, nI_add]); exact Zin_n (by omega) (by decide))))) ?_
        refine Zs_ret hX hE rfl ⟨by show some (Value.int _) = some (Value.int (if ¬ x_z = 0 ∨ ¬ y_z = 0 then nI 1 else nI 0)); first | (rw [if_pos (Or.inl h93_z)]; done) | (rw [if_pos (Or.inr h97_z)]; done) | (rw [if_neg (fun q_z => q_z.elim (fun z_z => z_z h93_z) (fun z_z => z_z h97_z))]; done), rfl⟩
      · skip
        refine Zgo hX 2 rfl (by first | exact True.intro | (dsimp only [ZallP]; and_intros <;> (first | decide | ((try simp only [pk_mul, nI_add]); exact Zin_n (by omega) (by decide))))) ?_
        refine Zs_ret hX hE rfl ⟨by show some (Value.int _) = some (Value.int (if ¬ x_z = 0 ∨ ¬ y_z = 0 then nI 1 else nI 0)); first | (rw [if_pos (Or.inl h93_z)]; done) | (rw [if_pos (Or.inr h97_z)]; done) | (rw [if_neg (fun q_z => q_z.elim (fun z_z => z_z h93_z) (fun z_z => z_z h97_z))]; done), rfl⟩
  have z1_0 : c_z ≠ 37 := Zne (by omega) (by decide) s1_0
  have z1_1 : c_z ≠ 38 := Zne (by omega) (by decide) s1_1
  have z1_2 : c_z ≠ 42 := Zne (by omega) (by decide) s1_2
  have z1_3 : c_z ≠ 43 := Zne (by omega) (by decide) s1_3
  have z1_4 : c_z ≠ 45 := Zne (by omega) (by decide) s1_4
  have z1_5 : c_z ≠ 47 := Zne (by omega) (by decide) s1_5
  have z1_6 : c_z ≠ 60 := Zne (by omega) (by decide) s1_6
  have z1_7 : c_z ≠ 61 := Zne (by omega) (by decide) s1_7
  have z1_8 : c_z ≠ 62 := Zne (by omega) (by decide) s1_8
  have z1_9 : c_z ≠ 124 := Zne (by omega) (by decide) s1_9
  exfalso
  unfold Zsg at hsg; omega

set_option maxRecDepth 20000 in
theorem k_push11 (v_z : Int32) (d_z : Nat) (M : Zmem) (hd_z : M 11 4 = nI d_z) (hlt : d_z < 60) : ZC 187 0 [.ref 11, .int v_z] M (fun r_z M' => r_z = none ∧ Zu (Zu M 13 d_z v_z) 11 4 (nI (d_z + 1)) = M') := by
  refine ZC_of Zt187 Zk187 (Nat.le_of_ble_eq_true rfl) (by decide) rfl (fun X hX hE => ?_)
  refine Zgo hX 5 rfl (by first | exact True.intro | (dsimp only [ZallP]; and_intros <;> (first | decide | ((try simp only [pk_mul, nI_add]); exact Zin_n (by omega) (by decide))))) ?_
  rw [hd_z]
  refine Zs_ige hX (List.cons_ne_nil _ _) (fun h9_z => (absurd ((Zn_le (by decide) (by omega)).mp h9_z) (by omega))) (fun h9_z => ?_)
  refine Zgo hX 12 rfl (by show vp_in _ _; rw [hd_z]; exact Zin_n hlt (by decide)) ?_
  refine Zs_retv hX hE rfl ⟨rfl, ?_⟩
  rw [show M 11 4 = nI d_z from hd_z, Zcl_n (by omega)]
  rw [show (Zu M 13 d_z v_z) 11 4 = nI d_z from hd_z, nI_add]

set_option maxRecDepth 20000 in
theorem k_pop11 (d_z : Nat) (M : Zmem) (hd_z : M 11 4 = nI (d_z + 1)) (hlt : d_z < 60) : ZC 188 0 [.ref 11] M (fun r_z M' => r_z = some (.int (M 13 d_z)) ∧ Zu M 11 4 (nI d_z) = M') := by
  refine ZC_of Zt188 Zk188 (Nat.le_of_ble_eq_true rfl) (by decide) rfl (fun X hX hE => ?_)
  refine Zgo hX 2 rfl (by first | exact True.intro | (dsimp only [ZallP]; and_intros <;> (first | decide | ((try simp only [pk_mul, nI_add]); exact Zin_n (by omega) (by decide))))) ?_
  rw [hd_z]
  refine Zs_gt hX (List.cons_ne_nil _ _) (fun h4_z => ?_) (fun h4_z => (absurd (show (0 : Int32) < nI (d_z + 1) by rw [← Zn0]; exact (Zn_lt (by decide) (by omega)).mpr (by omega)) h4_z))
  refine Zgo hX 11 rfl ?_ ?_
  · rw [show M 11 4 = nI (d_z + 1) from hd_z, pk_sub (by omega)]
    show vp_in ((Zu M 11 4 (nI (d_z + 1 - 1))) 11 4) 60
    rw [Zu_k, if_pos ⟨rfl, rfl⟩]
    exact Zin_n (by omega) (by decide)
  rw [show M 11 4 = nI (d_z + 1) from hd_z, pk_sub (by omega), show d_z + 1 - 1 = d_z by omega]
  rw [show (Zu M 11 4 (nI d_z)) 11 4 = nI d_z by rw [Zu_k, if_pos ⟨rfl, rfl⟩], Zcl_n (by omega)]
  refine Zs_ret hX hE rfl ⟨rfl, rfl⟩

set_option maxRecDepth 20000 in
theorem k_push14 (v_z : Int32) (d_z : Nat) (M : Zmem) (hd_z : M 14 4 = nI d_z) (hlt : d_z < 60) : ZC 187 0 [.ref 14, .int v_z] M (fun r_z M' => r_z = none ∧ Zu (Zu M 16 d_z v_z) 14 4 (nI (d_z + 1)) = M') := by
  refine ZC_of Zt187 Zk187 (Nat.le_of_ble_eq_true rfl) (by decide) rfl (fun X hX hE => ?_)
  refine Zgo hX 5 rfl (by first | exact True.intro | (dsimp only [ZallP]; and_intros <;> (first | decide | ((try simp only [pk_mul, nI_add]); exact Zin_n (by omega) (by decide))))) ?_
  rw [hd_z]
  refine Zs_ige hX (List.cons_ne_nil _ _) (fun h9_z => (absurd ((Zn_le (by decide) (by omega)).mp h9_z) (by omega))) (fun h9_z => ?_)
  refine Zgo hX 12 rfl (by show vp_in _ _; rw [hd_z]; exact Zin_n hlt (by decide)) ?_
  refine Zs_retv hX hE rfl ⟨rfl, ?_⟩
  rw [show M 14 4 = nI d_z from hd_z, Zcl_n (by omega)]
  rw [show (Zu M 16 d_z v_z) 14 4 = nI d_z from hd_z, nI_add]

set_option maxRecDepth 20000 in
theorem k_pop14 (d_z : Nat) (M : Zmem) (hd_z : M 14 4 = nI (d_z + 1)) (hlt : d_z < 60) : ZC 188 0 [.ref 14] M (fun r_z M' => r_z = some (.int (M 16 d_z)) ∧ Zu M 14 4 (nI d_z) = M') := by
  refine ZC_of Zt188 Zk188 (Nat.le_of_ble_eq_true rfl) (by decide) rfl (fun X hX hE => ?_)
  refine Zgo hX 2 rfl (by first | exact True.intro | (dsimp only [ZallP]; and_intros <;> (first | decide | ((try simp only [pk_mul, nI_add]); exact Zin_n (by omega) (by decide))))) ?_
  rw [hd_z]
  refine Zs_gt hX (List.cons_ne_nil _ _) (fun h4_z => ?_) (fun h4_z => (absurd (show (0 : Int32) < nI (d_z + 1) by rw [← Zn0]; exact (Zn_lt (by decide) (by omega)).mpr (by omega)) h4_z))
  refine Zgo hX 11 rfl ?_ ?_
  · rw [show M 14 4 = nI (d_z + 1) from hd_z, pk_sub (by omega)]
    show vp_in ((Zu M 14 4 (nI (d_z + 1 - 1))) 14 4) 60
    rw [Zu_k, if_pos ⟨rfl, rfl⟩]
    exact Zin_n (by omega) (by decide)
  rw [show M 14 4 = nI (d_z + 1) from hd_z, pk_sub (by omega), show d_z + 1 - 1 = d_z by omega]
  rw [show (Zu M 14 4 (nI d_z)) 14 4 = nI d_z by rw [Zu_k, if_pos ⟨rfl, rfl⟩], Zcl_n (by omega)]
  refine Zs_ret hX hE rfl ⟨rfl, rfl⟩

set_option maxRecDepth 20000 in
set_option maxHeartbeats 1000000 in
theorem k_worked11 (n_z : Nat) (f_z : Nat → Zitm) (nm : Int32 → Int32) (a_z b_z c_z : Int32) (M : Zmem) (hn_z : M 11 2 = nI n_z) (hn2 : n_z ≤ 60) (hw_z : Zwf 0 f_z n_z 1) (hc_z : ∀ i_z, i_z < n_z → Zen 0 (f_z i_z) (M 12 i_z)) (hab : Zab 0 nm a_z b_z c_z) : ZC 186 1 [.ref 11, .int a_z, .int b_z, .int c_z] M (fun r_z M' => r_z = some (.int (Ztop (Zev nm f_z n_z))) ∧ St M M') := by
  refine ZC_of Zt186 Zk186 (Nat.le_of_ble_eq_true rfl) (by decide) rfl (fun X hX hE => ?_)
  have hM2 : ∀ {M1 : Zmem}, St M M1 → M1 11 2 = nI n_z := fun h_z => (h_z 11 2 rfl).trans hn_z
  have hMc : ∀ {M1 : Zmem}, St M M1 → ∀ j_z, M1 12 j_z = M 12 j_z := fun h_z j_z => h_z 12 j_z rfl
  have L : ∀ (q_z i_z d_z : Nat) (M1 : Zmem), n_z - i_z < q_z → i_z ≤ n_z → St M M1 → Zwf 0 f_z i_z d_z → M1 11 4 = nI d_z → Zpl (M1 13) (Zev nm f_z i_z) → ZP X Zt186 (Zsf Zt186 8) [(0, .ref 11), (1, .int a_z), (2, .int b_z), (3, .int c_z), (4, .int (nI i_z))] [] M1 := by
    intro q_z
    induction q_z with
    | zero => intro i_z d_z M1 hq_z; exact absurd hq_z (Nat.not_lt_zero _)
    | succ q_z ih_z =>
      intro i_z d_z M1 hq_z hi_z hsc hwf htop hpl
      have hln : (Zev nm f_z i_z).length = d_z := Zwf_len nm hwf
      have hdi : d_z ≤ i_z := Zwf_le hwf
      refine Zgo hX 3 rfl (by first | exact True.intro | (dsimp only [ZallP]; and_intros <;> (first | decide | ((try simp only [pk_mul, nI_add]); exact Zin_n (by omega) (by decide))))) ?_
      rw [hM2 hsc]
      refine Zs_ige hX (List.cons_ne_nil _ _) (fun h14_z => ?_) (fun h14_z => ?_)
      · skip
        obtain rfl : i_z = n_z := by have := (Zn_le (by omega) (by omega)).mp h14_z; omega
        obtain rfl : d_z = 1 := Zwf_un hwf hw_z
        refine Zgo hX 1 rfl (by first | exact True.intro | (dsimp only [ZallP]; and_intros <;> (first | decide | ((try simp only [pk_mul, nI_add]); exact Zin_n (by omega) (by decide))))) ?_
        obtain ⟨y_z, r_z, hL⟩ : ∃ y_z r_z, Zev nm f_z i_z = y_z :: r_z := by
          cases hq0 : Zev nm f_z i_z with
          | nil => rw [hq0] at hln; simp at hln
          | cons y_z r_z => exact ⟨y_z, r_z, rfl⟩
        rw [hL] at hpl hln
        have hlr : r_z.length = 0 := by simpa using hln
        refine Zs_callv hX (List.cons_ne_nil _ _) (k_pop11 0 _ htop (by decide)) (by decide) (by decide) rfl rfl rfl (by decide) (Nat.le_of_ble_eq_true rfl) (fun r_z M' hc_z => ?_)
        obtain ⟨rfl, rfl⟩ := hc_z
        obtain ⟨ey, hscP, -, -⟩ := Zpop_ok (t := 11) (by decide) hsc hpl hlr
        rw [show M1 13 0 = y_z from ey]
        refine Zs_ret hX hE rfl ⟨by rw [hL]; rfl, hscP⟩
      · skip
        have hlt : i_z < n_z := (Nat.lt_or_ge i_z n_z).elim id (fun h_z => absurd ((Zn_le (by omega) (by omega)).mpr h_z) h14_z)
        refine Zgo hX 6 rfl (Zin_n (by omega) (by decide)) ?_
        rw [Zcl_n (show i_z < 2 ^ 31 by omega), hMc hsc i_z]
        generalize hx_z : M 12 i_z = x_z
        have hen : Zen 0 (f_z i_z) x_z := by rw [← hx_z]; exact hc_z _ hlt
        obtain ⟨dn_z, hwn⟩ := Zwf_pre hw_z (i_z + 1) (by omega)
        have hvi := Zvi_of hwn
        obtain ⟨d9_z, hw9, hor⟩ := hwn
        obtain rfl : d9_z = d_z := Zwf_un hw9 hwf
        refine Zs_lt hX (List.cons_ne_nil _ _) (fun h28_z => ?_) (fun h28_z => ?_)
        · skip
          refine Zgo hX 2 rfl (by first | exact True.intro | (dsimp only [ZallP]; and_intros <;> (first | decide | ((try simp only [pk_mul, nI_add]); exact Zin_n (by omega) (by decide))))) ?_
          refine Zs_ilt hX (List.cons_ne_nil _ _) (fun h44_z => ?_) (fun h44_z => ?_)
          · skip
            refine Zgo hX 2 rfl (by first | exact True.intro | (dsimp only [ZallP]; and_intros <;> (first | decide | ((try simp only [pk_mul, nI_add]); exact Zin_n (by omega) (by decide))))) ?_
            refine Zs_ine hX (List.cons_ne_nil _ _) (fun h80_z => ?_) (fun h80_z => ?_)
            · skip
              obtain ⟨e1_z, c0_z, hc0, e2_z, rfl⟩ := Zen_3 hen hvi h44_z h80_z
              have hc1 := Zsg_lt hc0
              refine Zgo hX 1 rfl (by first | exact True.intro | (dsimp only [ZallP]; and_intros <;> (first | decide | ((try simp only [pk_mul, nI_add]); exact Zin_n (by omega) (by decide))))) ?_
              obtain ⟨y_z, x_z, r_z, hL⟩ : ∃ y_z x_z r_z, Zev nm f_z i_z = y_z :: x_z :: r_z := by
                have h2_z : 2 ≤ d9_z := by
                  rcases hor with ⟨z_z, -⟩ | ⟨z_z, -⟩ | ⟨z_z, -⟩ | ⟨-, -, h2_z, -⟩
                  all_goals first | exact h2_z | (rw [e1_z] at z_z; exact absurd z_z (by decide))
                match hq0 : Zev nm f_z i_z with
                | [] => rw [hq0] at hln; simp at hln; omega
                | [z_z] => rw [hq0] at hln; simp at hln; omega
                | y_z :: x_z :: r_z => exact ⟨y_z, x_z, r_z, rfl⟩
              rw [hL] at hpl hln
              obtain ⟨d8_z, rfl⟩ : ∃ d8_z, d9_z = d8_z + 1 + 1 := ⟨r_z.length, by simp at hln; omega⟩
              have hlr : r_z.length = d8_z := by simp at hln; omega
              refine Zs_callv hX (List.cons_ne_nil _ _) (k_pop11 (d8_z + 1) _ htop (by omega)) (by decide) (by decide) rfl rfl rfl (by decide) (Nat.le_of_ble_eq_true rfl) (fun r_z M' hc_z => ?_)
              obtain ⟨rfl, rfl⟩ := hc_z
              obtain ⟨ey, hscP, htopP, hplP⟩ := Zpop_ok (t := 11) (d_z := d8_z + 1) (by decide) hsc hpl (by simp; omega)
              have ey : M1 13 (d8_z + 1) = y_z := ey
              rw [ey]
              refine Zgo hX 2 rfl (by first | exact True.intro | (dsimp only [ZallP]; and_intros <;> (first | decide | ((try simp only [pk_mul, nI_add]); exact Zin_n (by omega) (by decide))))) ?_
              refine Zs_callv hX (List.cons_ne_nil _ _) (k_pop11 d8_z _ htopP (by omega)) (by decide) (by decide) rfl rfl rfl (by decide) (Nat.le_of_ble_eq_true rfl) (fun r_z M' hc_z => ?_)
              obtain ⟨rfl, rfl⟩ := hc_z
              obtain ⟨ex, hscQ, htopQ, hplQ⟩ := Zpop_ok (t := 11) (by decide) hscP hplP hlr
              rw [show (Zu M1 11 4 (nI (d8_z + 1))) 13 d8_z = x_z from ex]
              refine Zgo hX 6 rfl (by first | exact True.intro | (dsimp only [ZallP]; and_intros <;> (first | decide | ((try simp only [pk_mul, nI_add]); exact Zin_n (by omega) (by decide))))) ?_
              rw [Int32.neg_neg]
              refine Zs_calls hX (List.cons_ne_nil _ _) (by decide) (k_joined c0_z _ _ _ hc0) (by decide) rfl rfl (by decide) (Nat.le_of_ble_eq_true rfl) (fun r_z M' hc_z => ?_)
              obtain ⟨rfl, rfl⟩ := hc_z
              refine Zs_callv hX (List.cons_ne_nil _ _) (k_push11 _ d8_z _ htopQ (by omega)) (by decide) (by decide) rfl rfl rfl (by decide) (Nat.le_of_ble_eq_true rfl) (fun r_z M' hc_z => ?_)
              obtain ⟨rfl, rfl⟩ := hc_z
              obtain ⟨hsc3, htop3, hpl3⟩ := Zpush_ok (Zjn c0_z x_z y_z) (t := 11) (by decide) hscQ hplQ hlr
              have hev : Zev nm f_z (i_z + 1) = Zjn c0_z x_z y_z :: r_z := by simp only [Zev, Zit, e1_z, hL, e2_z, if_neg (show ¬ nI 3 = nI 0 by decide), if_neg (show ¬ nI 3 = nI 1 by decide), if_neg (show ¬ nI 3 = nI 2 by decide), Zcl_n (show c0_z < 2 ^ 31 by omega)]
              rw [← hev] at hpl3
              have hwf3 : Zwf 0 f_z (i_z + 1) (d8_z + 1) := ⟨d8_z + 1 + 1, hwf, Or.inr (Or.inr (Or.inr ⟨e1_z, ⟨c0_z, hc0, e2_z⟩, by omega, rfl⟩))⟩
              refine Zgo hX 2 rfl (by first | exact True.intro | (dsimp only [ZallP]; and_intros <;> (first | decide | ((try simp only [pk_mul, nI_add]); exact Zin_n (by omega) (by decide))))) ?_
              refine Zs_sub (l' := [(0, .ref 11), (1, .int a_z), (2, .int b_z), (3, .int c_z), (4, .int (nI i_z + nI 1))]) rfl ?_
              rw [nI_add]
              exact ih_z (i_z + 1) _ _ (by omega) (by omega) hsc3 hwf3 htop3 hpl3
            · skip
              have e1_z := Zen_2 hen hvi h80_z
              obtain ⟨y_z, r_z, hL⟩ : ∃ y_z r_z, Zev nm f_z i_z = y_z :: r_z := by
                cases hq0 : Zev nm f_z i_z with
                | nil => rw [hq0] at hln; rcases hor with ⟨z_z, -⟩ | ⟨z_z, -⟩ | ⟨-, h1_z, -⟩ | ⟨z_z, -⟩
                         all_goals first | (rw [e1_z] at z_z; exact absurd z_z (by decide)) | (simp at hln; omega)
                | cons y_z r_z => exact ⟨y_z, r_z, rfl⟩
              rw [hL] at hpl hln
              obtain ⟨d8_z, rfl⟩ : ∃ d8_z, d9_z = d8_z + 1 := ⟨r_z.length, by simp at hln; omega⟩
              have hlr : r_z.length = d8_z := by simp at hln; omega
              refine Zgo hX 2 rfl (by first | exact True.intro | (dsimp only [ZallP]; and_intros <;> (first | decide | ((try simp only [pk_mul, nI_add]); exact Zin_n (by omega) (by decide))))) ?_
              refine Zs_callv hX (List.cons_ne_nil _ _) (k_pop11 d8_z _ htop (by omega)) (by decide) (by decide) rfl rfl rfl (by decide) (Nat.le_of_ble_eq_true rfl) (fun r_z M' hc_z => ?_)
              obtain ⟨rfl, rfl⟩ := hc_z
              obtain ⟨ey, hscP, htopP, hplP⟩ := Zpop_ok (t := 11) (by decide) hsc hpl hlr
              have ey : M1 13 d8_z = y_z := ey
              rw [ey]
              refine Zs_ne hX (List.cons_ne_nil _ _) (fun h88_z => ?_) (fun h88_z => ?_)
              · skip
                refine Zgo hX 1 rfl (by first | exact True.intro | (dsimp only [ZallP]; and_intros <;> (first | decide | ((try simp only [pk_mul, nI_add]); exact Zin_n (by omega) (by decide))))) ?_
                have hv_z : (if y_z = 0 then nI 1 else nI 0) = nI 0 := if_neg h88_z
                refine Zs_callv hX (List.cons_ne_nil _ _) (k_push11 _ d8_z _ htopP (by omega)) (by decide) (by decide) rfl rfl rfl (by decide) (Nat.le_of_ble_eq_true rfl) (fun r_z M' hc_z => ?_)
                obtain ⟨rfl, rfl⟩ := hc_z
                obtain ⟨hsc3, htop3, hpl3⟩ := Zpush_ok (if y_z = 0 then nI 1 else nI 0) (t := 11) (by decide) hscP hplP hlr
                rw [hv_z] at hsc3 htop3
                have hev : Zev nm f_z (i_z + 1) = (if y_z = 0 then nI 1 else nI 0) :: r_z := by simp only [Zev, Zit, e1_z, hL, if_neg (show ¬ nI 2 = nI 0 by decide), if_neg (show ¬ nI 2 = nI 1 by decide), if_true]
                rw [← hev, hv_z] at hpl3
                have hwf3 : Zwf 0 f_z (i_z + 1) (d8_z + 1) := ⟨d8_z + 1, hwf, Or.inr (Or.inr (Or.inl ⟨e1_z, by omega, rfl⟩))⟩
                refine Zgo hX 3 rfl (by first | exact True.intro | (dsimp only [ZallP]; and_intros <;> (first | decide | ((try simp only [pk_mul, nI_add]); exact Zin_n (by omega) (by decide))))) ?_
                refine Zs_sub (l' := [(0, .ref 11), (1, .int a_z), (2, .int b_z), (3, .int c_z), (4, .int (nI i_z + nI 1))]) rfl ?_
                rw [nI_add]
                exact ih_z (i_z + 1) _ _ (by omega) (by omega) hsc3 hwf3 htop3 hpl3
              · skip
                refine Zgo hX 2 rfl (by first | exact True.intro | (dsimp only [ZallP]; and_intros <;> (first | decide | ((try simp only [pk_mul, nI_add]); exact Zin_n (by omega) (by decide))))) ?_
                have hv_z : (if y_z = 0 then nI 1 else nI 0) = nI 1 := if_pos h88_z
                refine Zs_callv hX (List.cons_ne_nil _ _) (k_push11 _ d8_z _ htopP (by omega)) (by decide) (by decide) rfl rfl rfl (by decide) (Nat.le_of_ble_eq_true rfl) (fun r_z M' hc_z => ?_)
                obtain ⟨rfl, rfl⟩ := hc_z
                obtain ⟨hsc3, htop3, hpl3⟩ := Zpush_ok (if y_z = 0 then nI 1 else nI 0) (t := 11) (by decide) hscP hplP hlr
                rw [hv_z] at hsc3 htop3
                have hev : Zev nm f_z (i_z + 1) = (if y_z = 0 then nI 1 else nI 0) :: r_z := by simp only [Zev, Zit, e1_z, hL, if_neg (show ¬ nI 2 = nI 0 by decide), if_neg (show ¬ nI 2 = nI 1 by decide), if_true]
                rw [← hev, hv_z] at hpl3
                have hwf3 : Zwf 0 f_z (i_z + 1) (d8_z + 1) := ⟨d8_z + 1, hwf, Or.inr (Or.inr (Or.inl ⟨e1_z, by omega, rfl⟩))⟩
                refine Zgo hX 3 rfl (by first | exact True.intro | (dsimp only [ZallP]; and_intros <;> (first | decide | ((try simp only [pk_mul, nI_add]); exact Zin_n (by omega) (by decide))))) ?_
                refine Zs_sub (l' := [(0, .ref 11), (1, .int a_z), (2, .int b_z), (3, .int c_z), (4, .int (nI i_z + nI 1))]) rfl ?_
                rw [nI_add]
                exact ih_z (i_z + 1) _ _ (by omega) (by omega) hsc3 hwf3 htop3 hpl3
          · skip
            obtain ⟨e1_z, c0_z, hc0, e2_z, rfl⟩ := Zen_1 hen hvi h28_z h44_z
            refine Zgo hX 3 rfl (by first | exact True.intro | (dsimp only [ZallP]; and_intros <;> (first | decide | ((try simp only [pk_mul, nI_add]); exact Zin_n (by omega) (by decide))))) ?_
            refine Zs_ine hX (List.cons_ne_nil _ _) (fun h51_z => ?_) (fun h51_z => ?_)
            · skip
              refine Zgo hX 2 rfl (by first | exact True.intro | (dsimp only [ZallP]; and_intros <;> (first | decide | ((try simp only [pk_mul, nI_add]); exact Zin_n (by omega) (by decide))))) ?_
              refine Zs_ine hX (List.cons_ne_nil _ _) (fun h62_z => ?_) (fun h62_z => ?_)
              · skip
                refine Zgo hX 1 rfl (by first | exact True.intro | (dsimp only [ZallP]; and_intros <;> (first | decide | ((try simp only [pk_mul, nI_add]); exact Zin_n (by omega) (by decide))))) ?_
                have hv_z : nm (nI c0_z) = c_z := by rw [hab c0_z hc0, show Zpn 0 c0_z = 2 by have h1_z := Zpn_lt 0 c0_z; have h2_z : 1 + Zpn 0 c0_z ≠ 1 := fun q_z => h51_z (by rw [q_z]); have h3_z : 1 + Zpn 0 c0_z ≠ 2 := fun q_z => h62_z (by rw [q_z]); omega]; rfl
                refine Zs_callv hX (List.cons_ne_nil _ _) (k_push11 _ d9_z _ htop (by omega)) (by decide) (by decide) rfl rfl rfl (by decide) (Nat.le_of_ble_eq_true rfl) (fun r_z M' hc_z => ?_)
                obtain ⟨rfl, rfl⟩ := hc_z
                obtain ⟨hsc3, htop3, hpl3⟩ := Zpush_ok (nm (nI c0_z)) (t := 11) (by decide) hsc hpl hln
                rw [hv_z] at hsc3 htop3
                have hev : Zev nm f_z (i_z + 1) = nm (nI c0_z) :: Zev nm f_z i_z := by simp only [Zev, Zit, e1_z, if_neg (show ¬ nI 1 = nI 0 by decide), if_true, e2_z]
                rw [← hev, hv_z] at hpl3
                have hwf3 : Zwf 0 f_z (i_z + 1) (d9_z + 1) := ⟨d9_z, hwf, Or.inr (Or.inl ⟨e1_z, ⟨c0_z, hc0, e2_z⟩, rfl⟩)⟩
                refine Zgo hX 3 rfl (by first | exact True.intro | (dsimp only [ZallP]; and_intros <;> (first | decide | ((try simp only [pk_mul, nI_add]); exact Zin_n (by omega) (by decide))))) ?_
                refine Zs_sub (l' := [(0, .ref 11), (1, .int a_z), (2, .int b_z), (3, .int c_z), (4, .int (nI i_z + nI 1))]) rfl ?_
                rw [nI_add]
                exact ih_z (i_z + 1) _ _ (by omega) (by omega) hsc3 hwf3 htop3 hpl3
              · skip
                refine Zgo hX 2 rfl (by first | exact True.intro | (dsimp only [ZallP]; and_intros <;> (first | decide | ((try simp only [pk_mul, nI_add]); exact Zin_n (by omega) (by decide))))) ?_
                have hv_z : nm (nI c0_z) = b_z := by rw [hab c0_z hc0, show Zpn 0 c0_z = 1 by have h1_z := Zpn_lt 0 c0_z; have h2_z := Zneg_eq (by omega) (by decide) h62_z; omega]; rfl
                refine Zs_callv hX (List.cons_ne_nil _ _) (k_push11 _ d9_z _ htop (by omega)) (by decide) (by decide) rfl rfl rfl (by decide) (Nat.le_of_ble_eq_true rfl) (fun r_z M' hc_z => ?_)
                obtain ⟨rfl, rfl⟩ := hc_z
                obtain ⟨hsc3, htop3, hpl3⟩ := Zpush_ok (nm (nI c0_z)) (t := 11) (by decide) hsc hpl hln
                rw [hv_z] at hsc3 htop3
                have hev : Zev nm f_z (i_z + 1) = nm (nI c0_z) :: Zev nm f_z i_z := by simp only [Zev, Zit, e1_z, if_neg (show ¬ nI 1 = nI 0 by decide), if_true, e2_z]
                rw [← hev, hv_z] at hpl3
                have hwf3 : Zwf 0 f_z (i_z + 1) (d9_z + 1) := ⟨d9_z, hwf, Or.inr (Or.inl ⟨e1_z, ⟨c0_z, hc0, e2_z⟩, rfl⟩)⟩
                refine Zgo hX 3 rfl (by first | exact True.intro | (dsimp only [ZallP]; and_intros <;> (first | decide | ((try simp only [pk_mul, nI_add]); exact Zin_n (by omega) (by decide))))) ?_
                refine Zs_sub (l' := [(0, .ref 11), (1, .int a_z), (2, .int b_z), (3, .int c_z), (4, .int (nI i_z + nI 1))]) rfl ?_
                rw [nI_add]
                exact ih_z (i_z + 1) _ _ (by omega) (by omega) hsc3 hwf3 htop3 hpl3
            · skip
              refine Zgo hX 2 rfl (by first | exact True.intro | (dsimp only [ZallP]; and_intros <;> (first | decide | ((try simp only [pk_mul, nI_add]); exact Zin_n (by omega) (by decide))))) ?_
              have hv_z : nm (nI c0_z) = a_z := by rw [hab c0_z hc0, show Zpn 0 c0_z = 0 by have h1_z := Zpn_lt 0 c0_z; have h2_z := Zneg_eq (by omega) (by decide) h51_z; omega]; rfl
              refine Zs_callv hX (List.cons_ne_nil _ _) (k_push11 _ d9_z _ htop (by omega)) (by decide) (by decide) rfl rfl rfl (by decide) (Nat.le_of_ble_eq_true rfl) (fun r_z M' hc_z => ?_)
              obtain ⟨rfl, rfl⟩ := hc_z
              obtain ⟨hsc3, htop3, hpl3⟩ := Zpush_ok (nm (nI c0_z)) (t := 11) (by decide) hsc hpl hln
              rw [hv_z] at hsc3 htop3
              have hev : Zev nm f_z (i_z + 1) = nm (nI c0_z) :: Zev nm f_z i_z := by simp only [Zev, Zit, e1_z, if_neg (show ¬ nI 1 = nI 0 by decide), if_true, e2_z]
              rw [← hev, hv_z] at hpl3
              have hwf3 : Zwf 0 f_z (i_z + 1) (d9_z + 1) := ⟨d9_z, hwf, Or.inr (Or.inl ⟨e1_z, ⟨c0_z, hc0, e2_z⟩, rfl⟩)⟩
              refine Zgo hX 3 rfl (by first | exact True.intro | (dsimp only [ZallP]; and_intros <;> (first | decide | ((try simp only [pk_mul, nI_add]); exact Zin_n (by omega) (by decide))))) ?_
              refine Zs_sub (l' := [(0, .ref 11), (1, .int a_z), (2, .int b_z), (3, .int c_z), (4, .int (nI i_z + nI 1))]) rfl ?_
              rw [nI_add]
              exact ih_z (i_z + 1) _ _ (by omega) (by omega) hsc3 hwf3 htop3 hpl3
        · skip
          obtain ⟨e1_z, e2_z⟩ := Zen_0 hen hvi h28_z
          refine Zgo hX 2 rfl (by first | exact True.intro | (dsimp only [ZallP]; and_intros <;> (first | decide | ((try simp only [pk_mul, nI_add]); exact Zin_n (by omega) (by decide))))) ?_
          refine Zs_callv hX (List.cons_ne_nil _ _) (k_push11 _ d9_z _ htop (by omega)) (by decide) (by decide) rfl rfl rfl (by decide) (Nat.le_of_ble_eq_true rfl) (fun r_z M' hc_z => ?_)
          obtain ⟨rfl, rfl⟩ := hc_z
          obtain ⟨hsc3, htop3, hpl3⟩ := Zpush_ok x_z (t := 11) (by decide) hsc hpl hln
          have hev : Zev nm f_z (i_z + 1) = x_z :: Zev nm f_z i_z := by simp only [Zev, Zit, e1_z, if_true, e2_z]
          rw [← hev] at hpl3
          have hwf3 : Zwf 0 f_z (i_z + 1) (d9_z + 1) := ⟨d9_z, hwf, Or.inl ⟨e1_z, (hvi.resolve_right (fun z_z => by rcases z_z with ⟨z_z, -⟩ | z_z | ⟨z_z, -⟩ <;> rw [e1_z] at z_z <;> exact absurd z_z (by decide))).2, rfl⟩⟩
          refine Zgo hX 3 rfl (by first | exact True.intro | (dsimp only [ZallP]; and_intros <;> (first | decide | ((try simp only [pk_mul, nI_add]); exact Zin_n (by omega) (by decide))))) ?_
          refine Zs_sub (l' := [(0, .ref 11), (1, .int a_z), (2, .int b_z), (3, .int c_z), (4, .int (nI i_z + nI 1))]) rfl ?_
          rw [nI_add]
          exact ih_z (i_z + 1) _ _ (by omega) (by omega) hsc3 hwf3 htop3 hpl3
  refine Zgo hX 5 rfl True.intro ?_
  refine Zs_sub (l' := [(0, .ref 11), (1, .int a_z), (2, .int b_z), (3, .int c_z), (4, .int (nI 0))]) rfl ?_
  exact L (n_z + 1) 0 0 _ (by omega) (by omega) ((St.rf M).u _ rfl) rfl (by rw [Zu_k, if_pos ⟨rfl, rfl⟩]) True.intro

set_option maxRecDepth 20000 in
set_option maxHeartbeats 1000000 in
theorem k_worked14 (n_z : Nat) (f_z : Nat → Zitm) (nm : Int32 → Int32) (a_z b_z c_z : Int32) (M : Zmem) (hn_z : M 14 2 = nI n_z) (hn2 : n_z ≤ 60) (hw_z : Zwf 1 f_z n_z 1) (hc_z : ∀ i_z, i_z < n_z → Zen 1 (f_z i_z) (M 15 i_z)) (hab : Zab 1 nm a_z b_z c_z) : ZC 186 1 [.ref 14, .int a_z, .int b_z, .int c_z] M (fun r_z M' => r_z = some (.int (Ztop (Zev nm f_z n_z))) ∧ St M M') := by
  refine ZC_of Zt186 Zk186 (Nat.le_of_ble_eq_true rfl) (by decide) rfl (fun X hX hE => ?_)
  have hM2 : ∀ {M1 : Zmem}, St M M1 → M1 14 2 = nI n_z := fun h_z => (h_z 14 2 rfl).trans hn_z
  have hMc : ∀ {M1 : Zmem}, St M M1 → ∀ j_z, M1 15 j_z = M 15 j_z := fun h_z j_z => h_z 15 j_z rfl
  have L : ∀ (q_z i_z d_z : Nat) (M1 : Zmem), n_z - i_z < q_z → i_z ≤ n_z → St M M1 → Zwf 1 f_z i_z d_z → M1 14 4 = nI d_z → Zpl (M1 16) (Zev nm f_z i_z) → ZP X Zt186 (Zsf Zt186 8) [(0, .ref 14), (1, .int a_z), (2, .int b_z), (3, .int c_z), (4, .int (nI i_z))] [] M1 := by
    intro q_z
    induction q_z with
    | zero => intro i_z d_z M1 hq_z; exact absurd hq_z (Nat.not_lt_zero _)
    | succ q_z ih_z =>
      intro i_z d_z M1 hq_z hi_z hsc hwf htop hpl
      have hln : (Zev nm f_z i_z).length = d_z := Zwf_len nm hwf
      have hdi : d_z ≤ i_z := Zwf_le hwf
      refine Zgo hX 3 rfl (by first | exact True.intro | (dsimp only [ZallP]; and_intros <;> (first | decide | ((try simp only [pk_mul, nI_add]); exact Zin_n (by omega) (by decide))))) ?_
      rw [hM2 hsc]
      refine Zs_ige hX (List.cons_ne_nil _ _) (fun h14_z => ?_) (fun h14_z => ?_)
      · skip
        obtain rfl : i_z = n_z := by have := (Zn_le (by omega) (by omega)).mp h14_z; omega
        obtain rfl : d_z = 1 := Zwf_un hwf hw_z
        refine Zgo hX 1 rfl (by first | exact True.intro | (dsimp only [ZallP]; and_intros <;> (first | decide | ((try simp only [pk_mul, nI_add]); exact Zin_n (by omega) (by decide))))) ?_
        obtain ⟨y_z, r_z, hL⟩ : ∃ y_z r_z, Zev nm f_z i_z = y_z :: r_z := by
          cases hq0 : Zev nm f_z i_z with
          | nil => rw [hq0] at hln; simp at hln
          | cons y_z r_z => exact ⟨y_z, r_z, rfl⟩
        rw [hL] at hpl hln
        have hlr : r_z.length = 0 := by simpa using hln
        refine Zs_callv hX (List.cons_ne_nil _ _) (k_pop14 0 _ htop (by decide)) (by decide) (by decide) rfl rfl rfl (by decide) (Nat.le_of_ble_eq_true rfl) (fun r_z M' hc_z => ?_)
        obtain ⟨rfl, rfl⟩ := hc_z
        obtain ⟨ey, hscP, -, -⟩ := Zpop_ok (t := 14) (by decide) hsc hpl hlr
        rw [show M1 16 0 = y_z from ey]
        refine Zs_ret hX hE rfl ⟨by rw [hL]; rfl, hscP⟩
      · skip
        have hlt : i_z < n_z := (Nat.lt_or_ge i_z n_z).elim id (fun h_z => absurd ((Zn_le (by omega) (by omega)).mpr h_z) h14_z)
        refine Zgo hX 6 rfl (Zin_n (by omega) (by decide)) ?_
        rw [Zcl_n (show i_z < 2 ^ 31 by omega), hMc hsc i_z]
        generalize hx_z : M 15 i_z = x_z
        have hen : Zen 1 (f_z i_z) x_z := by rw [← hx_z]; exact hc_z _ hlt
        obtain ⟨dn_z, hwn⟩ := Zwf_pre hw_z (i_z + 1) (by omega)
        have hvi := Zvi_of hwn
        obtain ⟨d9_z, hw9, hor⟩ := hwn
        obtain rfl : d9_z = d_z := Zwf_un hw9 hwf
        refine Zs_lt hX (List.cons_ne_nil _ _) (fun h28_z => ?_) (fun h28_z => ?_)
        · skip
          refine Zgo hX 2 rfl (by first | exact True.intro | (dsimp only [ZallP]; and_intros <;> (first | decide | ((try simp only [pk_mul, nI_add]); exact Zin_n (by omega) (by decide))))) ?_
          refine Zs_ilt hX (List.cons_ne_nil _ _) (fun h44_z => ?_) (fun h44_z => ?_)
          · skip
            refine Zgo hX 2 rfl (by first | exact True.intro | (dsimp only [ZallP]; and_intros <;> (first | decide | ((try simp only [pk_mul, nI_add]); exact Zin_n (by omega) (by decide))))) ?_
            refine Zs_ine hX (List.cons_ne_nil _ _) (fun h80_z => ?_) (fun h80_z => ?_)
            · skip
              obtain ⟨e1_z, c0_z, hc0, e2_z, rfl⟩ := Zen_3 hen hvi h44_z h80_z
              have hc1 := Zsg_lt hc0
              refine Zgo hX 1 rfl (by first | exact True.intro | (dsimp only [ZallP]; and_intros <;> (first | decide | ((try simp only [pk_mul, nI_add]); exact Zin_n (by omega) (by decide))))) ?_
              obtain ⟨y_z, x_z, r_z, hL⟩ : ∃ y_z x_z r_z, Zev nm f_z i_z = y_z :: x_z :: r_z := by
                have h2_z : 2 ≤ d9_z := by
                  rcases hor with ⟨z_z, -⟩ | ⟨z_z, -⟩ | ⟨z_z, -⟩ | ⟨-, -, h2_z, -⟩
                  all_goals first | exact h2_z | (rw [e1_z] at z_z; exact absurd z_z (by decide))
                match hq0 : Zev nm f_z i_z with
                | [] => rw [hq0] at hln; simp at hln; omega
                | [z_z] => rw [hq0] at hln; simp at hln; omega
                | y_z :: x_z :: r_z => exact ⟨y_z, x_z, r_z, rfl⟩
              rw [hL] at hpl hln
              obtain ⟨d8_z, rfl⟩ : ∃ d8_z, d9_z = d8_z + 1 + 1 := ⟨r_z.length, by simp at hln; omega⟩
              have hlr : r_z.length = d8_z := by simp at hln; omega
              refine Zs_callv hX (List.cons_ne_nil _ _) (k_pop14 (d8_z + 1) _ htop (by omega)) (by decide) (by decide) rfl rfl rfl (by decide) (Nat.le_of_ble_eq_true rfl) (fun r_z M' hc_z => ?_)
              obtain ⟨rfl, rfl⟩ := hc_z
              obtain ⟨ey, hscP, htopP, hplP⟩ := Zpop_ok (t := 14) (d_z := d8_z + 1) (by decide) hsc hpl (by simp; omega)
              have ey : M1 16 (d8_z + 1) = y_z := ey
              rw [ey]
              refine Zgo hX 2 rfl (by first | exact True.intro | (dsimp only [ZallP]; and_intros <;> (first | decide | ((try simp only [pk_mul, nI_add]); exact Zin_n (by omega) (by decide))))) ?_
              refine Zs_callv hX (List.cons_ne_nil _ _) (k_pop14 d8_z _ htopP (by omega)) (by decide) (by decide) rfl rfl rfl (by decide) (Nat.le_of_ble_eq_true rfl) (fun r_z M' hc_z => ?_)
              obtain ⟨rfl, rfl⟩ := hc_z
              obtain ⟨ex, hscQ, htopQ, hplQ⟩ := Zpop_ok (t := 14) (by decide) hscP hplP hlr
              rw [show (Zu M1 14 4 (nI (d8_z + 1))) 16 d8_z = x_z from ex]
              refine Zgo hX 6 rfl (by first | exact True.intro | (dsimp only [ZallP]; and_intros <;> (first | decide | ((try simp only [pk_mul, nI_add]); exact Zin_n (by omega) (by decide))))) ?_
              rw [Int32.neg_neg]
              refine Zs_calls hX (List.cons_ne_nil _ _) (by decide) (k_joined c0_z _ _ _ hc0) (by decide) rfl rfl (by decide) (Nat.le_of_ble_eq_true rfl) (fun r_z M' hc_z => ?_)
              obtain ⟨rfl, rfl⟩ := hc_z
              refine Zs_callv hX (List.cons_ne_nil _ _) (k_push14 _ d8_z _ htopQ (by omega)) (by decide) (by decide) rfl rfl rfl (by decide) (Nat.le_of_ble_eq_true rfl) (fun r_z M' hc_z => ?_)
              obtain ⟨rfl, rfl⟩ := hc_z
              obtain ⟨hsc3, htop3, hpl3⟩ := Zpush_ok (Zjn c0_z x_z y_z) (t := 14) (by decide) hscQ hplQ hlr
              have hev : Zev nm f_z (i_z + 1) = Zjn c0_z x_z y_z :: r_z := by simp only [Zev, Zit, e1_z, hL, e2_z, if_neg (show ¬ nI 3 = nI 0 by decide), if_neg (show ¬ nI 3 = nI 1 by decide), if_neg (show ¬ nI 3 = nI 2 by decide), Zcl_n (show c0_z < 2 ^ 31 by omega)]
              rw [← hev] at hpl3
              have hwf3 : Zwf 1 f_z (i_z + 1) (d8_z + 1) := ⟨d8_z + 1 + 1, hwf, Or.inr (Or.inr (Or.inr ⟨e1_z, ⟨c0_z, hc0, e2_z⟩, by omega, rfl⟩))⟩
              refine Zgo hX 2 rfl (by first | exact True.intro | (dsimp only [ZallP]; and_intros <;> (first | decide | ((try simp only [pk_mul, nI_add]); exact Zin_n (by omega) (by decide))))) ?_
              refine Zs_sub (l' := [(0, .ref 14), (1, .int a_z), (2, .int b_z), (3, .int c_z), (4, .int (nI i_z + nI 1))]) rfl ?_
              rw [nI_add]
              exact ih_z (i_z + 1) _ _ (by omega) (by omega) hsc3 hwf3 htop3 hpl3
            · skip
              have e1_z := Zen_2 hen hvi h80_z
              obtain ⟨y_z, r_z, hL⟩ : ∃ y_z r_z, Zev nm f_z i_z = y_z :: r_z := by
                cases hq0 : Zev nm f_z i_z with
                | nil => rw [hq0] at hln; rcases hor with ⟨z_z, -⟩ | ⟨z_z, -⟩ | ⟨-, h1_z, -⟩ | ⟨z_z, -⟩
                         all_goals first | (rw [e1_z] at z_z; exact absurd z_z (by decide)) | (simp at hln; omega)
                | cons y_z r_z => exact ⟨y_z, r_z, rfl⟩
              rw [hL] at hpl hln
              obtain ⟨d8_z, rfl⟩ : ∃ d8_z, d9_z = d8_z + 1 := ⟨r_z.length, by simp at hln; omega⟩
              have hlr : r_z.length = d8_z := by simp at hln; omega
              refine Zgo hX 2 rfl (by first | exact True.intro | (dsimp only [ZallP]; and_intros <;> (first | decide | ((try simp only [pk_mul, nI_add]); exact Zin_n (by omega) (by decide))))) ?_
              refine Zs_callv hX (List.cons_ne_nil _ _) (k_pop14 d8_z _ htop (by omega)) (by decide) (by decide) rfl rfl rfl (by decide) (Nat.le_of_ble_eq_true rfl) (fun r_z M' hc_z => ?_)
              obtain ⟨rfl, rfl⟩ := hc_z
              obtain ⟨ey, hscP, htopP, hplP⟩ := Zpop_ok (t := 14) (by decide) hsc hpl hlr
              have ey : M1 16 d8_z = y_z := ey
              rw [ey]
              refine Zs_ne hX (List.cons_ne_nil _ _) (fun h88_z => ?_) (fun h88_z => ?_)
              · skip
                refine Zgo hX 1 rfl (by first | exact True.intro | (dsimp only [ZallP]; and_intros <;> (first | decide | ((try simp only [pk_mul, nI_add]); exact Zin_n (by omega) (by decide))))) ?_
                have hv_z : (if y_z = 0 then nI 1 else nI 0) = nI 0 := if_neg h88_z
                refine Zs_callv hX (List.cons_ne_nil _ _) (k_push14 _ d8_z _ htopP (by omega)) (by decide) (by decide) rfl rfl rfl (by decide) (Nat.le_of_ble_eq_true rfl) (fun r_z M' hc_z => ?_)
                obtain ⟨rfl, rfl⟩ := hc_z
                obtain ⟨hsc3, htop3, hpl3⟩ := Zpush_ok (if y_z = 0 then nI 1 else nI 0) (t := 14) (by decide) hscP hplP hlr
                rw [hv_z] at hsc3 htop3
                have hev : Zev nm f_z (i_z + 1) = (if y_z = 0 then nI 1 else nI 0) :: r_z := by simp only [Zev, Zit, e1_z, hL, if_neg (show ¬ nI 2 = nI 0 by decide), if_neg (show ¬ nI 2 = nI 1 by decide), if_true]
                rw [← hev, hv_z] at hpl3
                have hwf3 : Zwf 1 f_z (i_z + 1) (d8_z + 1) := ⟨d8_z + 1, hwf, Or.inr (Or.inr (Or.inl ⟨e1_z, by omega, rfl⟩))⟩
                refine Zgo hX 3 rfl (by first | exact True.intro | (dsimp only [ZallP]; and_intros <;> (first | decide | ((try simp only [pk_mul, nI_add]); exact Zin_n (by omega) (by decide))))) ?_
                refine Zs_sub (l' := [(0, .ref 14), (1, .int a_z), (2, .int b_z), (3, .int c_z), (4, .int (nI i_z + nI 1))]) rfl ?_
                rw [nI_add]
                exact ih_z (i_z + 1) _ _ (by omega) (by omega) hsc3 hwf3 htop3 hpl3
              · skip
                refine Zgo hX 2 rfl (by first | exact True.intro | (dsimp only [ZallP]; and_intros <;> (first | decide | ((try simp only [pk_mul, nI_add]); exact Zin_n (by omega) (by decide))))) ?_
                have hv_z : (if y_z = 0 then nI 1 else nI 0) = nI 1 := if_pos h88_z
                refine Zs_callv hX (List.cons_ne_nil _ _) (k_push14 _ d8_z _ htopP (by omega)) (by decide) (by decide) rfl rfl rfl (by decide) (Nat.le_of_ble_eq_true rfl) (fun r_z M' hc_z => ?_)
                obtain ⟨rfl, rfl⟩ := hc_z
                obtain ⟨hsc3, htop3, hpl3⟩ := Zpush_ok (if y_z = 0 then nI 1 else nI 0) (t := 14) (by decide) hscP hplP hlr
                rw [hv_z] at hsc3 htop3
                have hev : Zev nm f_z (i_z + 1) = (if y_z = 0 then nI 1 else nI 0) :: r_z := by simp only [Zev, Zit, e1_z, hL, if_neg (show ¬ nI 2 = nI 0 by decide), if_neg (show ¬ nI 2 = nI 1 by decide), if_true]
                rw [← hev, hv_z] at hpl3
                have hwf3 : Zwf 1 f_z (i_z + 1) (d8_z + 1) := ⟨d8_z + 1, hwf, Or.inr (Or.inr (Or.inl ⟨e1_z, by omega, rfl⟩))⟩
                refine Zgo hX 3 rfl (by first | exact True.intro | (dsimp only [ZallP]; and_intros <;> (first | decide | ((try simp only [pk_mul, nI_add]); exact Zin_n (by omega) (by decide))))) ?_
                refine Zs_sub (l' := [(0, .ref 14), (1, .int a_z), (2, .int b_z), (3, .int c_z), (4, .int (nI i_z + nI 1))]) rfl ?_
                rw [nI_add]
                exact ih_z (i_z + 1) _ _ (by omega) (by omega) hsc3 hwf3 htop3 hpl3
          · skip
            obtain ⟨e1_z, c0_z, hc0, e2_z, rfl⟩ := Zen_1 hen hvi h28_z h44_z
            refine Zgo hX 3 rfl (by first | exact True.intro | (dsimp only [ZallP]; and_intros <;> (first | decide | ((try simp only [pk_mul, nI_add]); exact Zin_n (by omega) (by decide))))) ?_
            refine Zs_ine hX (List.cons_ne_nil _ _) (fun h51_z => ?_) (fun h51_z => ?_)
            · skip
              refine Zgo hX 2 rfl (by first | exact True.intro | (dsimp only [ZallP]; and_intros <;> (first | decide | ((try simp only [pk_mul, nI_add]); exact Zin_n (by omega) (by decide))))) ?_
              refine Zs_ine hX (List.cons_ne_nil _ _) (fun h62_z => ?_) (fun h62_z => ?_)
              · skip
                refine Zgo hX 1 rfl (by first | exact True.intro | (dsimp only [ZallP]; and_intros <;> (first | decide | ((try simp only [pk_mul, nI_add]); exact Zin_n (by omega) (by decide))))) ?_
                have hv_z : nm (nI c0_z) = c_z := by rw [hab c0_z hc0, show Zpn 1 c0_z = 2 by have h1_z := Zpn_lt 1 c0_z; have h2_z : 1 + Zpn 1 c0_z ≠ 1 := fun q_z => h51_z (by rw [q_z]); have h3_z : 1 + Zpn 1 c0_z ≠ 2 := fun q_z => h62_z (by rw [q_z]); omega]; rfl
                refine Zs_callv hX (List.cons_ne_nil _ _) (k_push14 _ d9_z _ htop (by omega)) (by decide) (by decide) rfl rfl rfl (by decide) (Nat.le_of_ble_eq_true rfl) (fun r_z M' hc_z => ?_)
                obtain ⟨rfl, rfl⟩ := hc_z
                obtain ⟨hsc3, htop3, hpl3⟩ := Zpush_ok (nm (nI c0_z)) (t := 14) (by decide) hsc hpl hln
                rw [hv_z] at hsc3 htop3
                have hev : Zev nm f_z (i_z + 1) = nm (nI c0_z) :: Zev nm f_z i_z := by simp only [Zev, Zit, e1_z, if_neg (show ¬ nI 1 = nI 0 by decide), if_true, e2_z]
                rw [← hev, hv_z] at hpl3
                have hwf3 : Zwf 1 f_z (i_z + 1) (d9_z + 1) := ⟨d9_z, hwf, Or.inr (Or.inl ⟨e1_z, ⟨c0_z, hc0, e2_z⟩, rfl⟩)⟩
                refine Zgo hX 3 rfl (by first | exact True.intro | (dsimp only [ZallP]; and_intros <;> (first | decide | ((try simp only [pk_mul, nI_add]); exact Zin_n (by omega) (by decide))))) ?_
                refine Zs_sub (l' := [(0, .ref 14), (1, .int a_z), (2, .int b_z), (3, .int c_z), (4, .int (nI i_z + nI 1))]) rfl ?_
                rw [nI_add]
                exact ih_z (i_z + 1) _ _ (by omega) (by omega) hsc3 hwf3 htop3 hpl3
              · skip
                refine Zgo hX 2 rfl (by first | exact True.intro | (dsimp only [ZallP]; and_intros <;> (first | decide | ((try simp only [pk_mul, nI_add]); exact Zin_n (by omega) (by decide))))) ?_
                have hv_z : nm (nI c0_z) = b_z := by rw [hab c0_z hc0, show Zpn 1 c0_z = 1 by have h1_z := Zpn_lt 1 c0_z; have h2_z := Zneg_eq (by omega) (by decide) h62_z; omega]; rfl
                refine Zs_callv hX (List.cons_ne_nil _ _) (k_push14 _ d9_z _ htop (by omega)) (by decide) (by decide) rfl rfl rfl (by decide) (Nat.le_of_ble_eq_true rfl) (fun r_z M' hc_z => ?_)
                obtain ⟨rfl, rfl⟩ := hc_z
                obtain ⟨hsc3, htop3, hpl3⟩ := Zpush_ok (nm (nI c0_z)) (t := 14) (by decide) hsc hpl hln
                rw [hv_z] at hsc3 htop3
                have hev : Zev nm f_z (i_z + 1) = nm (nI c0_z) :: Zev nm f_z i_z := by simp only [Zev, Zit, e1_z, if_neg (show ¬ nI 1 = nI 0 by decide), if_true, e2_z]
                rw [← hev, hv_z] at hpl3
                have hwf3 : Zwf 1 f_z (i_z + 1) (d9_z + 1) := ⟨d9_z, hwf, Or.inr (Or.inl ⟨e1_z, ⟨c0_z, hc0, e2_z⟩, rfl⟩)⟩
                refine Zgo hX 3 rfl (by first | exact True.intro | (dsimp only [ZallP]; and_intros <;> (first | decide | ((try simp only [pk_mul, nI_add]); exact Zin_n (by omega) (by decide))))) ?_
                refine Zs_sub (l' := [(0, .ref 14), (1, .int a_z), (2, .int b_z), (3, .int c_z), (4, .int (nI i_z + nI 1))]) rfl ?_
                rw [nI_add]
                exact ih_z (i_z + 1) _ _ (by omega) (by omega) hsc3 hwf3 htop3 hpl3
            · skip
              refine Zgo hX 2 rfl (by first | exact True.intro | (dsimp only [ZallP]; and_intros <;> (first | decide | ((try simp only [pk_mul, nI_add]); exact Zin_n (by omega) (by decide))))) ?_
              have hv_z : nm (nI c0_z) = a_z := by rw [hab c0_z hc0, show Zpn 1 c0_z = 0 by have h1_z := Zpn_lt 1 c0_z; have h2_z := Zneg_eq (by omega) (by decide) h51_z; omega]; rfl
              refine Zs_callv hX (List.cons_ne_nil _ _) (k_push14 _ d9_z _ htop (by omega)) (by decide) (by decide) rfl rfl rfl (by decide) (Nat.le_of_ble_eq_true rfl) (fun r_z M' hc_z => ?_)
              obtain ⟨rfl, rfl⟩ := hc_z
              obtain ⟨hsc3, htop3, hpl3⟩ := Zpush_ok (nm (nI c0_z)) (t := 14) (by decide) hsc hpl hln
              rw [hv_z] at hsc3 htop3
              have hev : Zev nm f_z (i_z + 1) = nm (nI c0_z) :: Zev nm f_z i_z := by simp only [Zev, Zit, e1_z, if_neg (show ¬ nI 1 = nI 0 by decide), if_true, e2_z]
              rw [← hev, hv_z] at hpl3
              have hwf3 : Zwf 1 f_z (i_z + 1) (d9_z + 1) := ⟨d9_z, hwf, Or.inr (Or.inl ⟨e1_z, ⟨c0_z, hc0, e2_z⟩, rfl⟩)⟩
              refine Zgo hX 3 rfl (by first | exact True.intro | (dsimp only [ZallP]; and_intros <;> (first | decide | ((try simp only [pk_mul, nI_add]); exact Zin_n (by omega) (by decide))))) ?_
              refine Zs_sub (l' := [(0, .ref 14), (1, .int a_z), (2, .int b_z), (3, .int c_z), (4, .int (nI i_z + nI 1))]) rfl ?_
              rw [nI_add]
              exact ih_z (i_z + 1) _ _ (by omega) (by omega) hsc3 hwf3 htop3 hpl3
        · skip
          obtain ⟨e1_z, e2_z⟩ := Zen_0 hen hvi h28_z
          refine Zgo hX 2 rfl (by first | exact True.intro | (dsimp only [ZallP]; and_intros <;> (first | decide | ((try simp only [pk_mul, nI_add]); exact Zin_n (by omega) (by decide))))) ?_
          refine Zs_callv hX (List.cons_ne_nil _ _) (k_push14 _ d9_z _ htop (by omega)) (by decide) (by decide) rfl rfl rfl (by decide) (Nat.le_of_ble_eq_true rfl) (fun r_z M' hc_z => ?_)
          obtain ⟨rfl, rfl⟩ := hc_z
          obtain ⟨hsc3, htop3, hpl3⟩ := Zpush_ok x_z (t := 14) (by decide) hsc hpl hln
          have hev : Zev nm f_z (i_z + 1) = x_z :: Zev nm f_z i_z := by simp only [Zev, Zit, e1_z, if_true, e2_z]
          rw [← hev] at hpl3
          have hwf3 : Zwf 1 f_z (i_z + 1) (d9_z + 1) := ⟨d9_z, hwf, Or.inl ⟨e1_z, (hvi.resolve_right (fun z_z => by rcases z_z with ⟨z_z, -⟩ | z_z | ⟨z_z, -⟩ <;> rw [e1_z] at z_z <;> exact absurd z_z (by decide))).2, rfl⟩⟩
          refine Zgo hX 3 rfl (by first | exact True.intro | (dsimp only [ZallP]; and_intros <;> (first | decide | ((try simp only [pk_mul, nI_add]); exact Zin_n (by omega) (by decide))))) ?_
          refine Zs_sub (l' := [(0, .ref 14), (1, .int a_z), (2, .int b_z), (3, .int c_z), (4, .int (nI i_z + nI 1))]) rfl ?_
          rw [nI_add]
          exact ih_z (i_z + 1) _ _ (by omega) (by omega) hsc3 hwf3 htop3 hpl3
  refine Zgo hX 5 rfl True.intro ?_
  refine Zs_sub (l' := [(0, .ref 14), (1, .int a_z), (2, .int b_z), (3, .int c_z), (4, .int (nI 0))]) rfl ?_
  exact L (n_z + 1) 0 0 _ (by omega) (by omega) ((St.rf M).u _ rfl) rfl (by rw [Zu_k, if_pos ⟨rfl, rfl⟩]) True.intro
end
section
-- texts read, purely: whether it goes on, where it stands then, the items
abbrev Zrs : Type := Bool × Nat × List Zitm
def Zis (k_z c_z : Nat) : Bool := match k_z with
  | 0 => c_z == 124
  | 1 => c_z == 38
  | 2 => c_z == 60 || c_z == 61 || c_z == 62
  | 3 => c_z == 43 || c_z == 45
  | _ => c_z == 42 || c_z == 47 || c_z == 37
def Zlop (nx : Nat → Zrs) (is : Nat → Bool) (c_z : Nat → Nat) : Nat → Nat → List Zitm → Zrs
  | 0, p_z, L => (true, p_z, L)
  | n_z + 1, p_z, L => if is (c_z p_z) = true then (if (nx (p_z + 1)).1 = true then Zlop nx is c_z n_z (nx (p_z + 1)).2.1 (L ++ ((nx (p_z + 1)).2.2 ++ [(nI 3, nI (c_z p_z))])) else (false, (nx (p_z + 1)).2.1, [])) else (true, p_z, L)
def Zlvl (c_z : Nat → Nat) (pc : Nat → Zrs) : Nat → Nat → Zrs
  | 0, p_z => pc p_z
  | j_z + 1, p_z => if (Zlvl c_z pc j_z p_z).1 = true then Zlop (Zlvl c_z pc j_z) (Zis (4 - j_z)) c_z (if j_z = 2 then 1 else 60) (Zlvl c_z pc j_z p_z).2.1 (Zlvl c_z pc j_z p_z).2.2 else (false, (Zlvl c_z pc j_z p_z).2.1, [])
def Zdig (c_z : Nat) : Bool := Nat.ble 48 c_z && Nat.ble c_z 57
def Znum (c_z : Nat → Nat) : Nat → Nat → Nat → Nat × Nat
  | 0, p_z, v_z => (p_z, v_z)
  | n_z + 1, p_z, v_z => if Zdig (c_z p_z) = true then Znum c_z n_z (p_z + 1) (10 * v_z + c_z p_z - 48) else (p_z, v_z)
def Znmb (u_z c_z : Nat) : Bool := (u_z == 0 && (c_z == 98 || c_z == 119 || c_z == 116)) || (u_z == 1 && (c_z == 119 || c_z == 116 || c_z == 107))
theorem Znmb_iff {u_z c_z : Nat} : Znmb u_z c_z = true ↔ Znm u_z c_z := by
  unfold Znmb Znm
  simp only [Bool.or_eq_true, Bool.and_eq_true, beq_iff_eq]
  omega
def Zpie (c_z : Nat → Nat) (u_z : Nat) : Nat → Nat → Zrs
  | 0, p_z => if Zdig (c_z p_z) = true then (true, (Znum c_z 4 p_z 0).1, [(nI 0, nI (Znum c_z 4 p_z 0).2)]) else if Znmb u_z (c_z p_z) = true then (true, p_z + 1, [(nI 1, nI (c_z p_z))]) else (false, p_z, [])
  | o_z + 1, p_z => if Zdig (c_z p_z) = true then (true, (Znum c_z 4 p_z 0).1, [(nI 0, nI (Znum c_z 4 p_z 0).2)]) else if c_z p_z = 33 then (if (Zpie c_z u_z o_z (p_z + 1)).1 = true then (true, (Zpie c_z u_z o_z (p_z + 1)).2.1, (Zpie c_z u_z o_z (p_z + 1)).2.2 ++ [(nI 2, nI 0)]) else (false, (Zpie c_z u_z o_z (p_z + 1)).2.1, []))
      else if c_z p_z = 40 then (if (Zlvl c_z (fun q_z => Zpie c_z u_z o_z q_z) 5 (p_z + 1)).1 = true ∧ c_z (Zlvl c_z (fun q_z => Zpie c_z u_z o_z q_z) 5 (p_z + 1)).2.1 = 41 then (true, (Zlvl c_z (fun q_z => Zpie c_z u_z o_z q_z) 5 (p_z + 1)).2.1 + 1, (Zlvl c_z (fun q_z => Zpie c_z u_z o_z q_z) 5 (p_z + 1)).2.2) else (false, (Zlvl c_z (fun q_z => Zpie c_z u_z o_z q_z) 5 (p_z + 1)).2.1, []))
      else if Znmb u_z (c_z p_z) = true then (true, p_z + 1, [(nI 1, nI (c_z p_z))]) else (false, p_z, [])
/-- items that leave one number more -/
def Zse (u_z : Nat) (L : List Zitm) : Prop := ∀ (g_z : Nat → Zitm) (m_z d_z : Nat), Zwf u_z g_z m_z d_z → (∀ i_z, i_z < L.length → g_z (m_z + i_z) = L.getD i_z (0, 0)) → Zwf u_z g_z (m_z + L.length) (d_z + 1)
theorem Zse_1 {u_z : Nat} {a_z : Zitm} (h_z : (a_z.1 = nI 0 ∧ ∃ j_z, j_z < 10000 ∧ a_z.2 = nI j_z) ∨ (a_z.1 = nI 1 ∧ ∃ c_z, Znm u_z c_z ∧ a_z.2 = nI c_z)) : Zse u_z [a_z] := by
  intro g_z m_z d_z hw_z hg_z
  have h0_z : g_z m_z = a_z := hg_z 0 (by simp)
  refine ⟨d_z, hw_z, ?_⟩
  show ((g_z m_z).1 = nI 0 ∧ _) ∨ _
  rw [h0_z]
  rcases h_z with ⟨e_z, h_z⟩ | ⟨e_z, h_z⟩
  · exact Or.inl ⟨e_z, h_z, rfl⟩
  · exact Or.inr (Or.inl ⟨e_z, h_z, rfl⟩)
theorem Zse_2 {u_z : Nat} {L : List Zitm} (h_z : Zse u_z L) : Zse u_z (L ++ [(nI 2, nI 0)]) := by
  intro g_z m_z d_z hw_z hg_z
  have h1_z := h_z g_z m_z d_z hw_z (fun i_z hi_z => by
    rw [hg_z i_z (by simp; omega)]
    simp [List.getD_eq_getElem?_getD, List.getElem?_append_left hi_z])
  have h2_z : g_z (m_z + L.length) = (nI 2, nI 0) := by
    rw [hg_z L.length (by simp)]
    simp [List.getD_eq_getElem?_getD]
  rw [show m_z + (L ++ [((nI 2, nI 0) : Zitm)]).length = (m_z + L.length) + 1 by simp; omega]
  refine ⟨d_z + 1, h1_z, Or.inr (Or.inr (Or.inl ⟨?_, by omega, rfl⟩))⟩
  rw [h2_z]
theorem Zse_3 {u_z s_z : Nat} {L K : List Zitm} (h_z : Zse u_z L) (h' : Zse u_z K) (hs_z : Zsg s_z) : Zse u_z (L ++ (K ++ [(nI 3, nI s_z)])) := by
  intro g_z m_z d_z hw_z hg_z
  have h1_z := h_z g_z m_z d_z hw_z (fun i_z hi_z => by
    rw [hg_z i_z (by simp; omega)]
    simp [List.getD_eq_getElem?_getD, List.getElem?_append_left hi_z])
  have h2_z := h' g_z (m_z + L.length) (d_z + 1) h1_z (fun i_z hi_z => by
    rw [Nat.add_assoc, hg_z (L.length + i_z) (by simp; omega)]
    rw [List.getD_eq_getElem?_getD, List.getD_eq_getElem?_getD, List.getElem?_append_right (by omega), Nat.add_sub_cancel_left, List.getElem?_append_left hi_z])
  have h3_z : g_z (m_z + L.length + K.length) = (nI 3, nI s_z) := by
    rw [Nat.add_assoc, hg_z (L.length + K.length) (by simp)]
    rw [List.getD_eq_getElem?_getD, List.getElem?_append_right (by omega), Nat.add_sub_cancel_left]
    simp
  rw [show m_z + (L ++ (K ++ [((nI 3, nI s_z) : Zitm)])).length = (m_z + L.length + K.length) + 1 by simp; omega]
  refine ⟨d_z + 1 + 1, h2_z, Or.inr (Or.inr (Or.inr ⟨?_, ⟨s_z, hs_z, ?_⟩, by omega, rfl⟩))⟩
  · rw [h3_z]
  · rw [h3_z]
def Zgd (u_z n_z p_z : Nat) (r_z : Zrs) : Prop := p_z ≤ r_z.2.1 ∧ r_z.2.1 ≤ n_z ∧ (r_z.1 = true → p_z < r_z.2.1 ∧ p_z + r_z.2.2.length ≤ r_z.2.1 ∧ Zse u_z r_z.2.2)
theorem Zis_sg {k_z s_z : Nat} (hk_z : k_z ≤ 4) (h_z : Zis k_z s_z = true) : Zsg s_z := by
  unfold Zsg
  match k_z, hk_z, h_z with
  | 0, _, h_z => simp only [Zis, beq_iff_eq] at h_z; omega
  | 1, _, h_z => simp only [Zis, beq_iff_eq] at h_z; omega
  | 2, _, h_z => simp only [Zis, Bool.or_eq_true, beq_iff_eq] at h_z; omega
  | 3, _, h_z => simp only [Zis, Bool.or_eq_true, beq_iff_eq] at h_z; omega
  | 4, _, h_z => simp only [Zis, Bool.or_eq_true, beq_iff_eq] at h_z; omega
section ZPG
variable {c_z : Nat → Nat} {u_z n_z : Nat}
theorem Zc_lt (hc_z : ∀ i_z, n_z ≤ i_z → c_z i_z = 256) {p_z : Nat} (h_z : c_z p_z < 128) : p_z < n_z := by
  refine (Nat.lt_or_ge p_z n_z).elim id (fun q_z => ?_)
  rw [hc_z p_z q_z] at h_z
  omega
theorem Zlop_gd (hc_z : ∀ i_z, n_z ≤ i_z → c_z i_z = 256) {nx : Nat → Zrs} {is : Nat → Bool} (hnx : ∀ p_z, p_z ≤ n_z → Zgd u_z n_z p_z (nx p_z)) (his : ∀ s_z, is s_z = true → Zsg s_z) : ∀ (k_z p0 p_z : Nat) (L : List Zitm), p0 < p_z → p_z ≤ n_z → p0 + L.length ≤ p_z → Zse u_z L → Zgd u_z n_z p0 (Zlop nx is c_z k_z p_z L) := by
  intro k_z
  induction k_z with
  | zero => intro p0 p_z L h1_z h2_z h3_z h4_z; exact ⟨Nat.le_of_lt h1_z, h2_z, fun _ => ⟨h1_z, h3_z, h4_z⟩⟩
  | succ k_z ih_z =>
    intro p0 p_z L h1_z h2_z h3_z h4_z
    unfold Zlop
    by_cases hi_z : is (c_z p_z) = true
    · rw [if_pos hi_z]
      have hsg := his _ hi_z
      have hp : p_z < n_z := Zc_lt hc_z (by have := Zsg_lt hsg; omega)
      obtain ⟨g1, g2, g3⟩ := hnx (p_z + 1) (by omega)
      by_cases hq_z : (nx (p_z + 1)).1 = true
      · rw [if_pos hq_z]
        obtain ⟨g4, g5, g6⟩ := g3 hq_z
        exact ih_z p0 _ _ (by omega) g2 (by simp; omega) (Zse_3 h4_z g6 hsg)
      · rw [if_neg hq_z]
        exact ⟨by show p0 ≤ (nx (p_z + 1)).2.1; omega, g2, fun q_z => by cases q_z⟩
    · rw [if_neg hi_z]
      exact ⟨Nat.le_of_lt h1_z, h2_z, fun _ => ⟨h1_z, h3_z, h4_z⟩⟩
theorem Zlvl_gd (hc_z : ∀ i_z, n_z ≤ i_z → c_z i_z = 256) {pc : Nat → Zrs} (hpc : ∀ p_z, p_z ≤ n_z → Zgd u_z n_z p_z (pc p_z)) : ∀ (j_z : Nat), j_z ≤ 5 → ∀ p_z, p_z ≤ n_z → Zgd u_z n_z p_z (Zlvl c_z pc j_z p_z) := by
  intro j_z
  induction j_z with
  | zero => intro _ p_z hp; exact hpc p_z hp
  | succ j_z ih_z =>
    intro hj_z p_z hp
    have ih_z := ih_z (by omega)
    obtain ⟨g1, g2, g3⟩ := ih_z p_z hp
    unfold Zlvl
    by_cases hq_z : (Zlvl c_z pc j_z p_z).1 = true
    · rw [if_pos hq_z]
      obtain ⟨g4, g5, g6⟩ := g3 hq_z
      exact Zlop_gd hc_z ih_z (fun s_z hs_z => Zis_sg (by omega) hs_z) _ p_z _ _ g4 g2 g5 g6
    · rw [if_neg hq_z]
      exact ⟨g1, g2, fun q_z => by cases q_z⟩
theorem Zdig_iff {m_z : Nat} : Zdig m_z = true ↔ 48 ≤ m_z ∧ m_z ≤ 57 := by
  unfold Zdig
  simp only [Bool.and_eq_true, Nat.ble_eq]
theorem Znum_gd (hc_z : ∀ i_z, n_z ≤ i_z → c_z i_z = 256) : ∀ (k_z p_z v_z : Nat), p_z ≤ n_z → p_z ≤ (Znum c_z k_z p_z v_z).1 ∧ (Znum c_z k_z p_z v_z).1 ≤ n_z := by
  intro k_z
  induction k_z with
  | zero => intro p_z v_z h_z; exact ⟨Nat.le_refl _, h_z⟩
  | succ k_z ih_z =>
    intro p_z v_z h_z
    unfold Znum
    by_cases hd_z : Zdig (c_z p_z) = true
    · rw [if_pos hd_z]
      have hp : p_z < n_z := Zc_lt hc_z (by have := Zdig_iff.mp hd_z; omega)
      have := ih_z (p_z + 1) (10 * v_z + c_z p_z - 48) (by omega)
      omega
    · rw [if_neg hd_z]
      exact ⟨Nat.le_refl _, h_z⟩
theorem Znum_lt : ∀ (k_z p_z v_z b_z : Nat), v_z < b_z → (Znum c_z k_z p_z v_z).2 < b_z * 10 ^ k_z := by
  intro k_z
  induction k_z with
  | zero => intro p_z v_z b_z h_z; simpa [Znum] using h_z
  | succ k_z ih_z =>
    intro p_z v_z b_z h_z
    unfold Znum
    by_cases hd_z : Zdig (c_z p_z) = true
    · rw [if_pos hd_z]
      have h2_z := Zdig_iff.mp hd_z
      have := ih_z (p_z + 1) (10 * v_z + c_z p_z - 48) (b_z * 10) (by omega)
      rw [Nat.pow_succ, Nat.mul_comm (10 ^ k_z), ← Nat.mul_assoc]
      exact this
    · rw [if_neg hd_z]
      have : 1 ≤ 10 ^ (k_z + 1) := Nat.one_le_pow _ _ (by decide)
      calc v_z < b_z := h_z
        _ = b_z * 1 := (Nat.mul_one b_z).symm
        _ ≤ b_z * 10 ^ (k_z + 1) := Nat.mul_le_mul_left b_z this
theorem Znum_4 (p_z : Nat) : (Znum c_z 4 p_z 0).2 < 10000 := by
  have := Znum_lt (c_z := c_z) 4 p_z 0 1 (by decide)
  omega
theorem Znum_s (hc_z : ∀ i_z, n_z ≤ i_z → c_z i_z = 256) {p_z : Nat} (hp : p_z ≤ n_z) (hd_z : Zdig (c_z p_z) = true) : p_z < (Znum c_z 4 p_z 0).1 ∧ (Znum c_z 4 p_z 0).1 ≤ n_z := by
  have hlt : p_z < n_z := Zc_lt hc_z (by have := Zdig_iff.mp hd_z; omega)
  have e_z : Znum c_z 4 p_z 0 = Znum c_z 3 (p_z + 1) (10 * 0 + c_z p_z - 48) := by
    rw [Znum, if_pos hd_z]
  rw [e_z]
  have := Znum_gd hc_z 3 (p_z + 1) (10 * 0 + c_z p_z - 48) (by omega)
  omega
theorem Zpie_d (hc_z : ∀ i_z, n_z ≤ i_z → c_z i_z = 256) {p_z : Nat} (hp : p_z ≤ n_z) (hd_z : Zdig (c_z p_z) = true) : Zgd u_z n_z p_z (true, (Znum c_z 4 p_z 0).1, [(nI 0, nI (Znum c_z 4 p_z 0).2)]) := by
  obtain ⟨h1_z, h2_z⟩ := Znum_s hc_z hp hd_z
  exact ⟨by show p_z ≤ (Znum c_z 4 p_z 0).1; omega, h2_z, fun _ => ⟨h1_z, by show p_z + 1 ≤ (Znum c_z 4 p_z 0).1; omega, Zse_1 (Or.inl ⟨rfl, _, Znum_4 p_z, rfl⟩)⟩⟩
theorem Zpie_n (hc_z : ∀ i_z, n_z ≤ i_z → c_z i_z = 256) {p_z : Nat} (hn_z : Znmb u_z (c_z p_z) = true) : Zgd u_z n_z p_z (true, p_z + 1, [(nI 1, nI (c_z p_z))]) := by
  have h1_z := Znmb_iff.mp hn_z
  have hp : p_z < n_z := Zc_lt hc_z (Znm_lt h1_z)
  exact ⟨by show p_z ≤ p_z + 1; omega, hp, fun _ => ⟨by show p_z < p_z + 1; omega, Nat.le_refl _, Zse_1 (Or.inr ⟨rfl, _, h1_z, rfl⟩)⟩⟩
theorem Zpie_f {p_z : Nat} (hp : p_z ≤ n_z) : Zgd u_z n_z p_z (false, p_z, []) := ⟨Nat.le_refl _, hp, fun q_z => by cases q_z⟩
theorem Zpie_gd (hc_z : ∀ i_z, n_z ≤ i_z → c_z i_z = 256) : ∀ (o_z p_z : Nat), p_z ≤ n_z → Zgd u_z n_z p_z (Zpie c_z u_z o_z p_z) := by
  intro o_z
  induction o_z with
  | zero =>
    intro p_z hp
    unfold Zpie
    split
    · rename_i hd_z; exact Zpie_d hc_z hp hd_z
    · split
      · rename_i hn_z; exact Zpie_n hc_z hn_z
      · exact Zpie_f hp
  | succ o_z ih_z =>
    intro p_z hp
    unfold Zpie
    split
    · rename_i hd_z; exact Zpie_d hc_z hp hd_z
    · split
      · rename_i h33_z
        have hlt : p_z < n_z := Zc_lt hc_z (by omega)
        obtain ⟨g1, g2, g3⟩ := ih_z (p_z + 1) (by omega)
        split
        · rename_i hq_z
          obtain ⟨g4, g5, g6⟩ := g3 hq_z
          exact ⟨by show p_z ≤ (Zpie c_z u_z o_z (p_z + 1)).2.1; omega, g2, fun _ => ⟨by show p_z < (Zpie c_z u_z o_z (p_z + 1)).2.1; omega, by simp; omega, Zse_2 g6⟩⟩
        · exact ⟨by show p_z ≤ (Zpie c_z u_z o_z (p_z + 1)).2.1; omega, g2, fun q_z => by cases q_z⟩
      · split
        · rename_i h40_z
          have hlt : p_z < n_z := Zc_lt hc_z (by omega)
          obtain ⟨g1, g2, g3⟩ := Zlvl_gd hc_z ih_z 5 (by decide) (p_z + 1) (by omega)
          generalize Zlvl c_z (fun q_z => Zpie c_z u_z o_z q_z) 5 (p_z + 1) = r_z at g1 g2 g3
          split
          · rename_i hq_z
            obtain ⟨g4, g5, g6⟩ := g3 hq_z.1
            have hl2 : r_z.2.1 < n_z := Zc_lt hc_z (by omega)
            exact ⟨by show p_z ≤ r_z.2.1 + 1; omega, hl2, fun _ => ⟨by show p_z < r_z.2.1 + 1; omega, by show p_z + r_z.2.2.length ≤ r_z.2.1 + 1; omega, g6⟩⟩
          · exact ⟨by show p_z ≤ r_z.2.1; omega, g2, fun q_z => by cases q_z⟩
        · split
          · rename_i hn_z; exact Zpie_n hc_z hn_z
          · exact Zpie_f hp
end ZPG
/-- a_z byte as the class has it, as the reference has it; 256: behind the last one -/
def Zsb (m_z : Nat) : Int32 := if m_z < 128 then nI m_z else if m_z < 256 then -(nI (256 - m_z)) else -(nI 1)
def Zlk (m_z : Nat) : Int32 := if m_z < 256 then nI m_z else -(nI 1)
theorem Zsb_eq {m_z k_z : Nat} (hk_z : k_z < 128) : Zsb m_z = nI k_z ↔ m_z = k_z := by
  unfold Zsb
  split
  · rw [Zn_eq (by omega) (by omega)]
  · split
    · rw [Zeq_i, Zneg_i (by omega), Zn_i (by omega)]; omega
    · rw [Zeq_i, Zneg_i (by omega), Zn_i (by omega)]; omega
theorem Zlk_eq {m_z k_z : Nat} (hk_z : k_z < 128) : Zlk m_z = nI k_z ↔ m_z = k_z := by
  unfold Zlk
  split
  · rw [Zn_eq (by omega) (by omega)]
  · rw [Zeq_i, Zneg_i (by omega), Zn_i (by omega)]; omega
theorem Zsb_dig {m_z : Nat} : (nI 48 ≤ Zsb m_z ∧ Zsb m_z ≤ nI 57) ↔ Zdig m_z = true := by
  rw [Zdig_iff, Zle_i, Zle_i, Zn_i (by decide), Zn_i (by decide)]
  unfold Zsb
  split
  · rw [Zn_i (by omega)]; omega
  · split
    · rw [Zneg_i (by omega)]; omega
    · rw [Zneg_i (by omega)]; omega
theorem Zlk_dig {m_z : Nat} : (nI 48 ≤ Zlk m_z ∧ Zlk m_z ≤ nI 57) ↔ Zdig m_z = true := by
  rw [Zdig_iff, Zle_i, Zle_i, Zn_i (by decide), Zn_i (by decide)]
  unfold Zlk
  split
  · rw [Zn_i (by omega)]; omega
  · rw [Zneg_i (by omega)]; omega
theorem Zsb_lt {m_z : Nat} (h_z : m_z < 128) : Zsb m_z = nI m_z := if_pos h_z
theorem Zlk_lt {m_z : Nat} (h_z : m_z < 128) : Zlk m_z = nI m_z := if_pos (by omega)
-- the class reads
theorem Zneg1 (k_z : Nat) : -(nI 1) - nI k_z = -(nI (1 + k_z)) := by
  rw [← nI_add]
  first | (rw [Int32.neg_add]; done) | (rw [Int32.neg_add, Int32.sub_eq_add_neg]; done)
def Zkp (c_z : Nat → Nat) (n_z u_z p_z st : Nat) (M : Zmem) : Prop := ((∀ i_z, n_z ≤ i_z → c_z i_z = 256) ∧ n_z ≤ 60 ∧ u_z < 2 ∧ p_z ≤ n_z) ∧ ¬ M 33 3 = 0 ∧ M 33 4 = nI n_z ∧ M 33 5 = nI u_z ∧ M 33 2 = nI p_z ∧ M 33 1 = nI st ∧ ∀ i_z, i_z < n_z → M 7 i_z = Zsb (c_z i_z)
/-- items as the class tells them, from a_z place on -/
def Zsgm (u_z : Nat) (L : List Zitm) (f_z : Nat → Int32) (st : Nat) : Prop := ∀ i_z, i_z < L.length → Zen u_z (L.getD i_z (0, 0)) (f_z (st + i_z))
def Zkq (c_z : Nat → Nat) (n_z u_z st : Nat) (M M' : Zmem) (r_z : Zrs) : Prop := Sc M M' ∧ ∃ s', s' ≤ 60 ∧ Zkp c_z n_z u_z r_z.2.1 s' M' ∧ (r_z.1 = true → s' = st + r_z.2.2.length ∧ (∀ i_z, i_z < st → M' 34 i_z = M 34 i_z) ∧ Zsgm u_z r_z.2.2 (M' 34) st)
def Zkc (k_z fr : Nat) (as : List Value) (c_z : Nat → Nat) (n_z u_z : Nat) (R : Nat → Zrs) : Prop := ∀ (p_z st : Nat) (M : Zmem), Zkp c_z n_z u_z p_z st M → st ≤ p_z → ZC k_z fr (.ref 33 :: as) M (fun r_z M' => Zb r_z ((R p_z).1 = true) ∧ Zkq c_z n_z u_z st M M' (R p_z))
theorem Ztp (ad : Nat → Nat) {x_z : Int32} (h_z : ¬ x_z = 0) : Zfv ad (3, 7) x_z = Ztr ad (.ref 7) := if_neg h_z
theorem Zap_getD (A B : List Zitm) (i_z : Nat) : (A ++ B).getD i_z (0, 0) = if i_z < A.length then A.getD i_z (0, 0) else B.getD (i_z - A.length) (0, 0) := by
  split
  · rename_i h_z
    simp [List.getD_eq_getElem?_getD, List.getElem?_append_left h_z]
  · rename_i h_z
    simp [List.getD_eq_getElem?_getD, List.getElem?_append_right (Nat.not_lt.mp h_z)]
theorem Zsgm_app {u_z st : Nat} {A B : List Zitm} {f_z : Nat → Int32} (h1_z : Zsgm u_z A f_z st) (h2_z : Zsgm u_z B f_z (st + A.length)) : Zsgm u_z (A ++ B) f_z st := by
  intro i_z hi_z
  rw [Zap_getD]
  split
  · rename_i h_z; exact h1_z i_z h_z
  · rename_i h_z
    rw [List.length_append] at hi_z
    have := h2_z (i_z - A.length) (by omega)
    rw [show st + A.length + (i_z - A.length) = st + i_z by omega] at this
    exact this
theorem Zsgm_kp {u_z st : Nat} {A : List Zitm} {f_z f' : Nat → Int32} (h1_z : Zsgm u_z A f_z st) (h_z : ∀ i_z, i_z < st + A.length → f' i_z = f_z i_z) : Zsgm u_z A f' st := by
  intro i_z hi_z
  rw [h_z _ (by omega)]
  exact h1_z i_z hi_z
theorem Zsgm_1 {u_z st : Nat} {a_z : Zitm} {f_z : Nat → Int32} (h_z : Zen u_z a_z (f_z st)) : Zsgm u_z [a_z] f_z st := by
  intro i_z hi_z
  obtain rfl : i_z = 0 := by simpa using hi_z
  exact h_z
section ZKP
variable {c_z : Nat → Nat} {n_z u_z p_z st : Nat} {M M1 M2 M3 : Zmem}
theorem Zkp.nx (h_z : Zkp c_z n_z u_z p_z st M) (q_z : Nat) : q_z < n_z → (M 7 (nI q_z).toNatClampNeg) = Zsb (c_z q_z) := by
  intro hq_z
  obtain ⟨⟨-, hn_z, -, -⟩, -, -, -, -, -, ht_z⟩ := h_z
  rw [Zcl_n (by omega)]
  exact ht_z q_z hq_z
theorem Zkp.at (h_z : Zkp c_z n_z u_z p_z st M) (hp : p_z < n_z) : Zkp c_z n_z u_z (p_z + 1) st (Zu M 33 2 (nI (p_z + 1))) := by
  obtain ⟨⟨h1_z, h2_z, h3_z, h4_z⟩, h5_z, h6_z, h7_z, h8_z, h9_z, h10_z⟩ := h_z
  exact ⟨⟨h1_z, h2_z, h3_z, hp⟩, h5_z, h6_z, h7_z, rfl, h9_z, h10_z⟩
theorem Zkp.keep (h_z : Zkp c_z n_z u_z p_z st M) (x_z : Int32) : Zkp c_z n_z u_z p_z (st + 1) (Zu (Zu M 34 st x_z) 33 1 (nI (st + 1))) := by
  obtain ⟨⟨h1_z, h2_z, h3_z, h4_z⟩, h5_z, h6_z, h7_z, h8_z, h9_z, h10_z⟩ := h_z
  exact ⟨⟨h1_z, h2_z, h3_z, h4_z⟩, h5_z, h6_z, h7_z, h8_z, rfl, h10_z⟩
theorem Zku (M : Zmem) (st : Nat) (x_z : Int32) (i_z : Nat) : (Zu (Zu M 34 st x_z) 33 1 (nI (st + 1))) 34 i_z = if i_z = st then x_z else M 34 i_z := by
  show (Zu M 34 st x_z) 34 i_z = _
  rw [Zu_k]
  by_cases h_z : i_z = st
  · rw [if_pos ⟨rfl, h_z⟩, if_pos h_z]
  · rw [if_neg (fun q_z => h_z q_z.2), if_neg h_z]
theorem Zsc_keep (M : Zmem) (st : Nat) (x_z : Int32) : Sc M (Zu (Zu M 34 st x_z) 33 1 (nI (st + 1))) := ((Sc.rf M).u _ rfl).u _ rfl
theorem Zsc_at (M : Zmem) (v_z : Int32) : Sc M (Zu M 33 2 v_z) := (Sc.rf M).u _ rfl
/-- one item -/
theorem Zkq_1 {q_z : Nat} {a_z : Zitm} {x_z : Int32} (hs_z : Sc M M1) (hc_z : ∀ i_z, M1 34 i_z = M 34 i_z) (h_z : Zkp c_z n_z u_z q_z st M1) (hlt : st < 60) (ha_z : Zen u_z a_z x_z) : Zkq c_z n_z u_z st M (Zu (Zu M1 34 st x_z) 33 1 (nI (st + 1))) (true, q_z, [a_z]) := by
  refine ⟨hs_z.tr (Zsc_keep _ _ _), st + 1, hlt, h_z.keep x_z, fun _ => ⟨rfl, fun i_z hi_z => ?_, ?_⟩⟩
  · rw [Zku, if_neg (by omega), hc_z]
  · exact Zsgm_1 (by rw [Zku, if_pos rfl]; exact ha_z)
theorem Zkq_f {q_z s' : Nat} {L : List Zitm} (hs_z : Sc M M1) (h_z : Zkp c_z n_z u_z q_z s' M1) (hlt : s' ≤ 60) : Zkq c_z n_z u_z st M M1 (false, q_z, L) := ⟨hs_z, s', hlt, h_z, fun q_z => by cases q_z⟩
/-- where it fell within, it falls -/
theorem Zkq_f2 {s2_z : Nat} {r_z : Zrs} (hs_z : Sc M M1) (h_z : Zkq c_z n_z u_z s2_z M1 M2 r_z) : Zkq c_z n_z u_z st M M2 (false, r_z.2.1, []) := by
  obtain ⟨h1_z, s', h2_z, h3_z, -⟩ := h_z
  exact ⟨hs_z.tr h1_z, s', h2_z, h3_z, fun q_z => by cases q_z⟩
theorem Zkq_pre {r_z : Zrs} (hs_z : Sc M M1) (hc_z : ∀ i_z, M1 34 i_z = M 34 i_z) (h_z : Zkq c_z n_z u_z st M1 M2 r_z) : Zkq c_z n_z u_z st M M2 r_z := by
  obtain ⟨h1_z, s', h2_z, h3_z, h4_z⟩ := h_z
  refine ⟨hs_z.tr h1_z, s', h2_z, h3_z, fun q_z => ?_⟩
  obtain ⟨g1, g2, g3⟩ := h4_z q_z
  exact ⟨g1, fun i_z hi_z => by rw [g2 i_z hi_z, hc_z], g3⟩
theorem Zkq.p {r_z : Zrs} (h_z : Zkq c_z n_z u_z st M M1 r_z) (hr_z : r_z.1 = true) : Zkp c_z n_z u_z r_z.2.1 (st + r_z.2.2.length) M1 := by
  obtain ⟨h1_z, s', h2_z, h3_z, h4_z⟩ := h_z
  obtain ⟨rfl, -, -⟩ := h4_z hr_z
  exact h3_z
/-- not -/
theorem Zkq_2 {r_z : Zrs} {x_z : Int32} (h_z : Zkq c_z n_z u_z st M M1 r_z) (hr_z : r_z.1 = true) (hlt : st + r_z.2.2.length < 60) (hx_z : x_z = -(nI 33)) : Zkq c_z n_z u_z st M (Zu (Zu M1 34 (st + r_z.2.2.length) x_z) 33 1 (nI (st + r_z.2.2.length + 1))) (true, r_z.2.1, r_z.2.2 ++ [(nI 2, nI 0)]) := by
  have hp := h_z.p hr_z
  obtain ⟨h1_z, s', h2_z, h3_z, h4_z⟩ := h_z
  obtain ⟨rfl, g2, g3⟩ := h4_z hr_z
  refine ⟨h1_z.tr (Zsc_keep _ _ _), st + r_z.2.2.length + 1, hlt, hp.keep x_z, fun _ => ⟨by simp; omega, fun i_z hi_z => ?_, ?_⟩⟩
  · rw [Zku, if_neg (by omega), g2 i_z hi_z]
  · refine Zsgm_app (Zsgm_kp g3 (fun i_z hi_z => by rw [Zku, if_neg (by omega)])) (Zsgm_1 ?_)
    rw [Zku, if_pos rfl]
    exact Or.inr (Or.inr (Or.inl ⟨rfl, hx_z⟩))
/-- two, and a_z sign -/
theorem Zkq_3 {r_z : Zrs} {s_z q1_z : Nat} {L : List Zitm} {x_z : Int32} (h_z : Zkq c_z n_z u_z st M M1 (true, q1_z, L)) (hs_z : Sc M1 M2) (hc_z : ∀ i_z, M2 34 i_z = M1 34 i_z) (h' : Zkq c_z n_z u_z (st + L.length) M2 M3 r_z) (hr_z : r_z.1 = true) (hlt : st + L.length + r_z.2.2.length < 60) (hx_z : x_z = -(nI s_z)) :
    Zkq c_z n_z u_z st M (Zu (Zu M3 34 (st + L.length + r_z.2.2.length) x_z) 33 1 (nI (st + L.length + r_z.2.2.length + 1))) (true, r_z.2.1, L ++ (r_z.2.2 ++ [(nI 3, nI s_z)])) := by
  have hp := h'.p hr_z
  obtain ⟨h1_z, s', h2_z, h3_z, h4_z⟩ := h_z
  obtain ⟨-, g2, g3⟩ := h4_z rfl
  obtain ⟨f1_z, s2_z, f2_z, f3, f4⟩ := h'
  obtain ⟨rfl, e2_z, e3_z⟩ := f4 hr_z
  refine ⟨((h1_z.tr hs_z).tr f1_z).tr (Zsc_keep _ _ _), _, hlt, hp.keep x_z, fun _ => ⟨by simp; omega, fun i_z hi_z => ?_, ?_⟩⟩
  · rw [Zku, if_neg (by omega), e2_z i_z (by omega), hc_z, g2 i_z hi_z]
  · refine Zsgm_app (Zsgm_kp g3 (fun i_z hi_z => ?_)) (Zsgm_app (Zsgm_kp e3_z (fun i_z hi_z => ?_)) (Zsgm_1 ?_))
    · show _ = M1 34 i_z
      rw [Zku, if_neg (by have : i_z < st + L.length := hi_z; omega), e2_z i_z (by exact hi_z), hc_z]
    · rw [Zku, if_neg (by omega)]
    · rw [Zku, if_pos rfl]
      exact Or.inr (Or.inr (Or.inr ⟨rfl, hx_z⟩))
end ZKP
theorem Zlv_no {m_z : Nat} (h_z : ¬ Zsg m_z) : ∀ k_z, k_z < 5 → (-(nI 1) = nI k_z ↔ Zis k_z m_z = true) := by
  intro k_z hk_z
  constructor
  · intro e_z
    rw [Zeq_i, Zneg_i (by decide), Zn_i (by omega)] at e_z
    omega
  · intro e_z
    exact absurd (Zis_sg (by omega) e_z) h_z
def Znc (u_z j_z : Nat) : Int32 := ([98, 119, 116, 119, 116, 107] : List Int32).getD (3 * u_z + j_z) 0
theorem Znc_y {u_z j_z m_z : Nat} (hu_z : u_z < 2) (hj_z : j_z < 3) (h_z : Zsb m_z = Znc u_z j_z) : Znmb u_z m_z = true ∧ nI j_z = nI (Zpn u_z m_z) := by
  have key : ∀ u_z, u_z < 2 → ∀ j_z, j_z < 3 → ∃ k_z, k_z < 128 ∧ Znc u_z j_z = nI k_z ∧ Znmb u_z k_z = true ∧ j_z = Zpn u_z k_z := by decide +kernel
  obtain ⟨k_z, h1_z, h2_z, h3_z, h4_z⟩ := key u_z hu_z j_z hj_z
  rw [h2_z, Zsb_eq h1_z] at h_z
  subst h_z
  exact ⟨h3_z, by rw [← h4_z]⟩
theorem Znc_n {u_z m_z : Nat} (hu_z : u_z < 2) (h_z : ∀ j_z, j_z < 3 → ¬ Zsb m_z = Znc u_z j_z) : ¬ Znmb u_z m_z = true := by
  intro q_z
  have q2_z := Znmb_iff.mp q_z
  have hlt := Znm_lt q2_z
  rcases q2_z with ⟨rfl, e_z | e_z | e_z⟩ | ⟨rfl, e_z | e_z | e_z⟩ <;> subst e_z
  · exact h_z 0 (by decide) (by decide)
  · exact h_z 1 (by decide) (by decide)
  · exact h_z 2 (by decide) (by decide)
  · exact h_z 0 (by decide) (by decide)
  · exact h_z 1 (by decide) (by decide)
  · exact h_z 2 (by decide) (by decide)
section ZPE
variable {c_z : Nat → Nat} {u_z o_z p_z : Nat}
theorem Zpie_dig (h_z : Zdig (c_z p_z) = true) : Zpie c_z u_z o_z p_z = (true, (Znum c_z 4 p_z 0).1, [(nI 0, nI (Znum c_z 4 p_z 0).2)]) := by
  cases o_z <;> (unfold Zpie; rw [if_pos h_z])
theorem Zpie_nam (h_z : ¬ Zdig (c_z p_z) = true) (h1_z : ¬ c_z p_z = 33) (h2_z : ¬ c_z p_z = 40) (h3_z : Znmb u_z (c_z p_z) = true) : Zpie c_z u_z o_z p_z = (true, p_z + 1, [(nI 1, nI (c_z p_z))]) := by
  cases o_z
  · unfold Zpie; rw [if_neg h_z, if_pos h3_z]
  · unfold Zpie; rw [if_neg h_z, if_neg h1_z, if_neg h2_z, if_pos h3_z]
theorem Zpie_non (h_z : ¬ Zdig (c_z p_z) = true) (h1_z : ¬ c_z p_z = 33) (h2_z : ¬ c_z p_z = 40) (h3_z : ¬ Znmb u_z (c_z p_z) = true) : Zpie c_z u_z o_z p_z = (false, p_z, []) := by
  cases o_z
  · unfold Zpie; rw [if_neg h_z, if_neg h3_z]
  · unfold Zpie; rw [if_neg h_z, if_neg h1_z, if_neg h2_z, if_neg h3_z]
theorem Zpie_0 (h_z : c_z p_z = 33 ∨ c_z p_z = 40) : Zpie c_z u_z 0 p_z = (false, p_z, []) := by
  have h3_z : ¬ Znmb u_z (c_z p_z) = true := fun q_z => by
    have := Znmb_iff.mp q_z
    unfold Znm at this
    omega
  unfold Zpie
  rw [if_neg (fun q_z => by have := Zdig_iff.mp q_z; omega), if_neg h3_z]
theorem Zpie_33t (h_z : c_z p_z = 33) (h1_z : (Zpie c_z u_z o_z (p_z + 1)).1 = true) : Zpie c_z u_z (o_z + 1) p_z = (true, (Zpie c_z u_z o_z (p_z + 1)).2.1, (Zpie c_z u_z o_z (p_z + 1)).2.2 ++ [(nI 2, nI 0)]) := by
  rw [Zpie, if_neg (fun q_z => by have := Zdig_iff.mp q_z; omega), if_pos h_z, if_pos h1_z]
theorem Zpie_33f (h_z : c_z p_z = 33) (h1_z : ¬ (Zpie c_z u_z o_z (p_z + 1)).1 = true) : Zpie c_z u_z (o_z + 1) p_z = (false, (Zpie c_z u_z o_z (p_z + 1)).2.1, []) := by
  rw [Zpie, if_neg (fun q_z => by have := Zdig_iff.mp q_z; omega), if_pos h_z, if_neg h1_z]
theorem Zpie_40t (h_z : c_z p_z = 40) (h1_z : (Zlvl c_z (Zpie c_z u_z o_z) 5 (p_z + 1)).1 = true) (h2_z : c_z (Zlvl c_z (Zpie c_z u_z o_z) 5 (p_z + 1)).2.1 = 41) : Zpie c_z u_z (o_z + 1) p_z = (true, (Zlvl c_z (Zpie c_z u_z o_z) 5 (p_z + 1)).2.1 + 1, (Zlvl c_z (Zpie c_z u_z o_z) 5 (p_z + 1)).2.2) := by
  rw [Zpie, if_neg (fun q_z => by have := Zdig_iff.mp q_z; omega), if_neg (by omega), if_pos h_z, if_pos ⟨h1_z, h2_z⟩]
theorem Zpie_40f (h_z : c_z p_z = 40) (h1_z : ¬ ((Zlvl c_z (Zpie c_z u_z o_z) 5 (p_z + 1)).1 = true ∧ c_z (Zlvl c_z (Zpie c_z u_z o_z) 5 (p_z + 1)).2.1 = 41)) : Zpie c_z u_z (o_z + 1) p_z = (false, (Zlvl c_z (Zpie c_z u_z o_z) 5 (p_z + 1)).2.1, []) := by
  rw [Zpie, if_neg (fun q_z => by have := Zdig_iff.mp q_z; omega), if_neg (by omega), if_pos h_z, if_neg h1_z]
end ZPE
end
section
set_option maxRecDepth 20000 in
theorem k_next (c_z : Nat → Nat) (n_z u_z p_z st : Nat) (M : Zmem) (hz_z : Zkp c_z n_z u_z p_z st M) : ZC 156 0 [.ref 33] M (fun r_z M' => r_z = some (.int (Zsb (c_z p_z))) ∧ M = M') := by
  refine ZC_of Zt156 Zk156 (Nat.le_of_ble_eq_true rfl) (by decide) rfl (fun X hX hE => ?_)
  obtain ⟨⟨hcn, hn60, hu2, hpn⟩, hta, hby, hus, hat, hsz, htp⟩ := id hz_z
  refine Zgo hX 1 rfl (by first | exact True.intro | (dsimp only [ZallP]; and_intros <;> (first | decide | ((try simp only [pk_mul, nI_add]); exact Zin_n (by omega) (by decide))))) ?_
  refine Zs_getf hX (List.cons_ne_nil _ _) (by decide) rfl rfl (v := .ref 7) (Ztp _ hta) ?_
  refine Zgo hX 5 rfl (by first | exact True.intro | (dsimp only [ZallP]; and_intros <;> (first | decide | ((try simp only [pk_mul, nI_add]); exact Zin_n (by omega) (by decide))))) ?_
  rw [hat, hby]
  refine Zs_ige hX (List.cons_ne_nil _ _) (fun h15_z => ?_) (fun h15_z => ?_)
  · skip
    have hge := (Zn_le (by omega) (by omega)).mp h15_z
    refine Zgo hX 1 rfl (by first | exact True.intro | (dsimp only [ZallP]; and_intros <;> (first | decide | ((try simp only [pk_mul, nI_add]); exact Zin_n (by omega) (by decide))))) ?_
    refine Zs_ret hX hE rfl ⟨by first | rfl | (rw [hcn p_z hge]; rfl), rfl⟩
  · skip
    have hlt : p_z < n_z := (Nat.lt_or_ge p_z n_z).elim id (fun q_z => absurd ((Zn_le (by omega) (by omega)).mpr q_z) h15_z)
    refine Zgo hX 3 rfl (by first | exact True.intro | (dsimp only [ZallP]; and_intros <;> (first | decide | ((try simp only [pk_mul, nI_add]); exact Zin_n (by omega) (by decide))))) ?_
    refine Zs_getf hX (List.cons_ne_nil _ _) (by decide) rfl rfl (v := .ref 7) (Ztp _ hta) ?_
    refine Zgo hX 1 rfl (by first | exact True.intro | (dsimp only [ZallP]; and_intros <;> (first | decide | ((try simp only [pk_mul, nI_add]); exact Zin_n (by omega) (by decide))))) ?_
    rw [hat]
    refine Zs_ige hX (List.cons_ne_nil _ _) (fun h27_z => (absurd ((Zn_le (by decide) (by omega)).mp h27_z) (by omega))) (fun h27_z => ?_)
    refine Zgo hX 1 rfl (by first | exact True.intro | (dsimp only [ZallP]; and_intros <;> (first | decide | ((try simp only [pk_mul, nI_add]); exact Zin_n (by omega) (by decide))))) ?_
    refine Zs_getf hX (List.cons_ne_nil _ _) (by decide) rfl rfl (v := .ref 7) (Ztp _ hta) ?_
    refine Zgo hX 4 rfl (by show vp_in _ _; rw [hat]; exact Zin_n (by omega) (by decide)) ?_
    rw [hat, hz_z.nx p_z hlt]
    refine Zs_ret hX hE rfl ⟨by first | rfl | (rw [hcn p_z hge]; rfl), rfl⟩

set_option maxRecDepth 20000 in
theorem k_isDigit (m_z : Nat) (M : Zmem) : ZC 164 0 [.int (Zsb m_z)] M (fun r_z M' => Zb r_z (Zdig m_z = true) ∧ M = M') := by
  refine ZC_of Zt164 Zk164 (Nat.le_of_ble_eq_true rfl) (by decide) rfl (fun X hX hE => ?_)
  refine Zgo hX 2 rfl (by first | exact True.intro | (dsimp only [ZallP]; and_intros <;> (first | decide | ((try simp only [pk_mul, nI_add]); exact Zin_n (by omega) (by decide))))) ?_
  refine Zs_ilt hX (List.cons_ne_nil _ _) (fun h1_z => ?_) (fun h1_z => ?_)
  · skip
    refine Zgo hX 1 rfl (by first | exact True.intro | (dsimp only [ZallP]; and_intros <;> (first | decide | ((try simp only [pk_mul, nI_add]); exact Zin_n (by omega) (by decide))))) ?_
    refine Zs_retz hX hE rfl (by first | exact Or.inl rfl | exact Or.inr rfl | assumption) ⟨by first | exact Or.inr ⟨rfl, fun q_z => Int32.not_le.mpr h1_z (Zsb_dig.mpr q_z).1⟩ | exact Or.inr ⟨rfl, fun q_z => Int32.not_le.mpr h2_z (Zsb_dig.mpr q_z).2⟩ | exact Or.inl ⟨rfl, Zsb_dig.mp ⟨Int32.not_lt.mp h1_z, Int32.not_lt.mp h2_z⟩⟩, rfl⟩
  · skip
    refine Zgo hX 2 rfl (by first | exact True.intro | (dsimp only [ZallP]; and_intros <;> (first | decide | ((try simp only [pk_mul, nI_add]); exact Zin_n (by omega) (by decide))))) ?_
    refine Zs_igt hX (List.cons_ne_nil _ _) (fun h2_z => ?_) (fun h2_z => ?_)
    · skip
      refine Zgo hX 1 rfl (by first | exact True.intro | (dsimp only [ZallP]; and_intros <;> (first | decide | ((try simp only [pk_mul, nI_add]); exact Zin_n (by omega) (by decide))))) ?_
      refine Zs_retz hX hE rfl (by first | exact Or.inl rfl | exact Or.inr rfl | assumption) ⟨by first | exact Or.inr ⟨rfl, fun q_z => Int32.not_le.mpr h1_z (Zsb_dig.mpr q_z).1⟩ | exact Or.inr ⟨rfl, fun q_z => Int32.not_le.mpr h2_z (Zsb_dig.mpr q_z).2⟩ | exact Or.inl ⟨rfl, Zsb_dig.mp ⟨Int32.not_lt.mp h1_z, Int32.not_lt.mp h2_z⟩⟩, rfl⟩
    · skip
      refine Zgo hX 2 rfl (by first | exact True.intro | (dsimp only [ZallP]; and_intros <;> (first | decide | ((try simp only [pk_mul, nI_add]); exact Zin_n (by omega) (by decide))))) ?_
      refine Zs_retz hX hE rfl (by first | exact Or.inl rfl | exact Or.inr rfl | assumption) ⟨by first | exact Or.inr ⟨rfl, fun q_z => Int32.not_le.mpr h1_z (Zsb_dig.mpr q_z).1⟩ | exact Or.inr ⟨rfl, fun q_z => Int32.not_le.mpr h2_z (Zsb_dig.mpr q_z).2⟩ | exact Or.inl ⟨rfl, Zsb_dig.mp ⟨Int32.not_lt.mp h1_z, Int32.not_lt.mp h2_z⟩⟩, rfl⟩

set_option maxRecDepth 20000 in
theorem k_levelOf (m_z : Nat) (M : Zmem) : ZC 160 0 [.int (Zsb m_z)] M (fun r_z M' => (∃ x_z : Int32, r_z = some (.int x_z) ∧ ∀ k_z, k_z < 5 → (x_z = nI k_z ↔ Zis k_z m_z = true)) ∧ M = M') := by
  refine ZC_of Zt160 Zk160 (Nat.le_of_ble_eq_true rfl) (by decide) rfl (fun X hX hE => ?_)
  refine Zgo hX 1 rfl (by first | exact True.intro | (dsimp only [ZallP]; and_intros <;> (first | decide | ((try simp only [pk_mul, nI_add]); exact Zin_n (by omega) (by decide))))) ?_
  by_cases s1_0 : Zsb m_z = nI 37
  · skip
    refine Zs_sw [(nI 37, 100), (nI 38, 94), (nI 42, 100), (nI 43, 98), (nI 45, 98), (nI 47, 100), (nI 60, 96), (nI 61, 96), (nI 62, 96), (nI 124, 92)] 102 hX (by decide +kernel) (by decide +kernel) (t := 100) (if_pos s1_0) ?_
    obtain rfl : m_z = 37 := (Zsb_eq (by decide)).mp s1_0
    refine Zgo hX 1 rfl (by first | exact True.intro | (dsimp only [ZallP]; and_intros <;> (first | decide | ((try simp only [pk_mul, nI_add]); exact Zin_n (by omega) (by decide))))) ?_
    refine Zs_ret hX hE rfl ⟨⟨_, rfl, by decide +kernel⟩, rfl⟩
  by_cases s1_1 : Zsb m_z = nI 38
  · skip
    refine Zs_sw [(nI 37, 100), (nI 38, 94), (nI 42, 100), (nI 43, 98), (nI 45, 98), (nI 47, 100), (nI 60, 96), (nI 61, 96), (nI 62, 96), (nI 124, 92)] 102 hX (by decide +kernel) (by decide +kernel) (t := 94) ((if_neg s1_0).trans (if_pos s1_1)) ?_
    obtain rfl : m_z = 38 := (Zsb_eq (by decide)).mp s1_1
    refine Zgo hX 1 rfl (by first | exact True.intro | (dsimp only [ZallP]; and_intros <;> (first | decide | ((try simp only [pk_mul, nI_add]); exact Zin_n (by omega) (by decide))))) ?_
    refine Zs_ret hX hE rfl ⟨⟨_, rfl, by decide +kernel⟩, rfl⟩
  by_cases s1_2 : Zsb m_z = nI 42
  · skip
    refine Zs_sw [(nI 37, 100), (nI 38, 94), (nI 42, 100), (nI 43, 98), (nI 45, 98), (nI 47, 100), (nI 60, 96), (nI 61, 96), (nI 62, 96), (nI 124, 92)] 102 hX (by decide +kernel) (by decide +kernel) (t := 100) ((if_neg s1_0).trans ((if_neg s1_1).trans (if_pos s1_2))) ?_
    obtain rfl : m_z = 42 := (Zsb_eq (by decide)).mp s1_2
    refine Zgo hX 1 rfl (by first | exact True.intro | (dsimp only [ZallP]; and_intros <;> (first | decide | ((try simp only [pk_mul, nI_add]); exact Zin_n (by omega) (by decide))))) ?_
    refine Zs_ret hX hE rfl ⟨⟨_, rfl, by decide +kernel⟩, rfl⟩
  by_cases s1_3 : Zsb m_z = nI 43
  · skip
    refine Zs_sw [(nI 37, 100), (nI 38, 94), (nI 42, 100), (nI 43, 98), (nI 45, 98), (nI 47, 100), (nI 60, 96), (nI 61, 96), (nI 62, 96), (nI 124, 92)] 102 hX (by decide +kernel) (by decide +kernel) (t := 98) ((if_neg s1_0).trans ((if_neg s1_1).trans ((if_neg s1_2).trans (if_pos s1_3)))) ?_
    obtain rfl : m_z = 43 := (Zsb_eq (by decide)).mp s1_3
    refine Zgo hX 1 rfl (by first | exact True.intro | (dsimp only [ZallP]; and_intros <;> (first | decide | ((try simp only [pk_mul, nI_add]); exact Zin_n (by omega) (by decide))))) ?_
    refine Zs_ret hX hE rfl ⟨⟨_, rfl, by decide +kernel⟩, rfl⟩
  by_cases s1_4 : Zsb m_z = nI 45
  · skip
    refine Zs_sw [(nI 37, 100), (nI 38, 94), (nI 42, 100), (nI 43, 98), (nI 45, 98), (nI 47, 100), (nI 60, 96), (nI 61, 96), (nI 62, 96), (nI 124, 92)] 102 hX (by decide +kernel) (by decide +kernel) (t := 98) ((if_neg s1_0).trans ((if_neg s1_1).trans ((if_neg s1_2).trans ((if_neg s1_3).trans (if_pos s1_4))))) ?_
    obtain rfl : m_z = 45 := (Zsb_eq (by decide)).mp s1_4
    refine Zgo hX 1 rfl (by first | exact True.intro | (dsimp only [ZallP]; and_intros <;> (first | decide | ((try simp only [pk_mul, nI_add]); exact Zin_n (by omega) (by decide))))) ?_
    refine Zs_ret hX hE rfl ⟨⟨_, rfl, by decide +kernel⟩, rfl⟩
  by_cases s1_5 : Zsb m_z = nI 47
  · skip
    refine Zs_sw [(nI 37, 100), (nI 38, 94), (nI 42, 100), (nI 43, 98), (nI 45, 98), (nI 47, 100), (nI 60, 96), (nI 61, 96), (nI 62, 96), (nI 124, 92)] 102 hX (by decide +kernel) (by decide +kernel) (t := 100) ((if_neg s1_0).trans ((if_neg s1_1).trans ((if_neg s1_2).trans ((if_neg s1_3).trans ((if_neg s1_4).trans (if_pos s1_5)))))) ?_
    obtain rfl : m_z = 47 := (Zsb_eq (by decide)).mp s1_5
    refine Zgo hX 1 rfl (by first | exact True.intro | (dsimp only [ZallP]; and_intros <;> (first | decide | ((try simp only [pk_mul, nI_add]); exact Zin_n (by omega) (by decide))))) ?_
    refine Zs_ret hX hE rfl ⟨⟨_, rfl, by decide +kernel⟩, rfl⟩
  by_cases s1_6 : Zsb m_z = nI 60
  · skip
    refine Zs_sw [(nI 37, 100), (nI 38, 94), (nI 42, 100), (nI 43, 98), (nI 45, 98), (nI 47, 100), (nI 60, 96), (nI 61, 96), (nI 62, 96), (nI 124, 92)] 102 hX (by decide +kernel) (by decide +kernel) (t := 96) ((if_neg s1_0).trans ((if_neg s1_1).trans ((if_neg s1_2).trans ((if_neg s1_3).trans ((if_neg s1_4).trans ((if_neg s1_5).trans (if_pos s1_6))))))) ?_
    obtain rfl : m_z = 60 := (Zsb_eq (by decide)).mp s1_6
    refine Zgo hX 1 rfl (by first | exact True.intro | (dsimp only [ZallP]; and_intros <;> (first | decide | ((try simp only [pk_mul, nI_add]); exact Zin_n (by omega) (by decide))))) ?_
    refine Zs_ret hX hE rfl ⟨⟨_, rfl, by decide +kernel⟩, rfl⟩
  by_cases s1_7 : Zsb m_z = nI 61
  · skip
    refine Zs_sw [(nI 37, 100), (nI 38, 94), (nI 42, 100), (nI 43, 98), (nI 45, 98), (nI 47, 100), (nI 60, 96), (nI 61, 96), (nI 62, 96), (nI 124, 92)] 102 hX (by decide +kernel) (by decide +kernel) (t := 96) ((if_neg s1_0).trans ((if_neg s1_1).trans ((if_neg s1_2).trans ((if_neg s1_3).trans ((if_neg s1_4).trans ((if_neg s1_5).trans ((if_neg s1_6).trans (if_pos s1_7)))))))) ?_
    obtain rfl : m_z = 61 := (Zsb_eq (by decide)).mp s1_7
    refine Zgo hX 1 rfl (by first | exact True.intro | (dsimp only [ZallP]; and_intros <;> (first | decide | ((try simp only [pk_mul, nI_add]); exact Zin_n (by omega) (by decide))))) ?_
    refine Zs_ret hX hE rfl ⟨⟨_, rfl, by decide +kernel⟩, rfl⟩
  by_cases s1_8 : Zsb m_z = nI 62
  · skip
    refine Zs_sw [(nI 37, 100), (nI 38, 94), (nI 42, 100), (nI 43, 98), (nI 45, 98), (nI 47, 100), (nI 60, 96), (nI 61, 96), (nI 62, 96), (nI 124, 92)] 102 hX (by decide +kernel) (by decide +kernel) (t := 96) ((if_neg s1_0).trans ((if_neg s1_1).trans ((if_neg s1_2).trans ((if_neg s1_3).trans ((if_neg s1_4).trans ((if_neg s1_5).trans ((if_neg s1_6).trans ((if_neg s1_7).trans (if_pos s1_8))))))))) ?_
    obtain rfl : m_z = 62 := (Zsb_eq (by decide)).mp s1_8
    refine Zgo hX 1 rfl (by first | exact True.intro | (dsimp only [ZallP]; and_intros <;> (first | decide | ((try simp only [pk_mul, nI_add]); exact Zin_n (by omega) (by decide))))) ?_
    refine Zs_ret hX hE rfl ⟨⟨_, rfl, by decide +kernel⟩, rfl⟩
  by_cases s1_9 : Zsb m_z = nI 124
  · skip
    refine Zs_sw [(nI 37, 100), (nI 38, 94), (nI 42, 100), (nI 43, 98), (nI 45, 98), (nI 47, 100), (nI 60, 96), (nI 61, 96), (nI 62, 96), (nI 124, 92)] 102 hX (by decide +kernel) (by decide +kernel) (t := 92) ((if_neg s1_0).trans ((if_neg s1_1).trans ((if_neg s1_2).trans ((if_neg s1_3).trans ((if_neg s1_4).trans ((if_neg s1_5).trans ((if_neg s1_6).trans ((if_neg s1_7).trans ((if_neg s1_8).trans (if_pos s1_9)))))))))) ?_
    obtain rfl : m_z = 124 := (Zsb_eq (by decide)).mp s1_9
    refine Zgo hX 1 rfl (by first | exact True.intro | (dsimp only [ZallP]; and_intros <;> (first | decide | ((try simp only [pk_mul, nI_add]); exact Zin_n (by omega) (by decide))))) ?_
    refine Zs_ret hX hE rfl ⟨⟨_, rfl, by decide +kernel⟩, rfl⟩
  refine Zs_sw [(nI 37, 100), (nI 38, 94), (nI 42, 100), (nI 43, 98), (nI 45, 98), (nI 47, 100), (nI 60, 96), (nI 61, 96), (nI 62, 96), (nI 124, 92)] 102 hX (by decide +kernel) (by decide +kernel) (t := 102) ((if_neg s1_0).trans ((if_neg s1_1).trans ((if_neg s1_2).trans ((if_neg s1_3).trans ((if_neg s1_4).trans ((if_neg s1_5).trans ((if_neg s1_6).trans ((if_neg s1_7).trans ((if_neg s1_8).trans (if_neg s1_9)))))))))) ?_
  have hns : ¬ Zsg m_z := by
    unfold Zsg
    rintro (e_z | e_z | e_z | e_z | e_z | e_z | e_z | e_z | e_z | e_z) <;> subst e_z
    · exact s1_9 rfl
    · exact s1_1 rfl
    · exact s1_6 rfl
    · exact s1_7 rfl
    · exact s1_8 rfl
    · exact s1_3 rfl
    · exact s1_4 rfl
    · exact s1_2 rfl
    · exact s1_5 rfl
    · exact s1_0 rfl
  refine Zgo hX 1 rfl (by first | exact True.intro | (dsimp only [ZallP]; and_intros <;> (first | decide | ((try simp only [pk_mul, nI_add]); exact Zin_n (by omega) (by decide))))) ?_
  refine Zs_ret hX hE rfl ⟨⟨_, rfl, Zlv_no hns⟩, rfl⟩

set_option maxRecDepth 20000 in
theorem k_keep (x_z : Int32) (st : Nat) (M : Zmem) (hs_z : M 33 1 = nI st) (h60_z : st ≤ 60) : ZC 157 0 [.ref 33, .int x_z] M (fun r_z M' => r_z = none ∧ ((st < 60 ∧ Zu (Zu M 34 st x_z) 33 1 (nI (st + 1)) = M') ∨ (st = 60 ∧ M = M'))) := by
  refine ZC_of Zt157 Zk157 (Nat.le_of_ble_eq_true rfl) (by decide) rfl (fun X hX hE => ?_)
  refine Zgo hX 5 rfl (by first | exact True.intro | (dsimp only [ZallP]; and_intros <;> (first | decide | ((try simp only [pk_mul, nI_add]); exact Zin_n (by omega) (by decide))))) ?_
  rw [hs_z]
  refine Zs_ige hX (List.cons_ne_nil _ _) (fun h9_z => ?_) (fun h9_z => ?_)
  · skip
    refine Zs_retv hX hE rfl ⟨rfl, Or.inr ⟨?_, rfl⟩⟩
    have := (Zn_le (by decide) (by omega)).mp h9_z; omega
  · skip
    have hlt : st < 60 := (Nat.lt_or_ge st 60).elim id (fun q_z => absurd ((Zn_le (by decide) (by omega)).mpr q_z) h9_z)
    refine Zgo hX 12 rfl (by show vp_in _ _; rw [hs_z]; exact Zin_n hlt (by decide)) ?_
    refine Zs_retv hX hE rfl ⟨rfl, Or.inl ⟨hlt, ?_⟩⟩
    rw [show M 33 1 = nI st from hs_z, Zcl_n (by omega)]
    rw [show (Zu M 34 st x_z) 33 1 = nI st from hs_z, nI_add]

set_option maxRecDepth 20000 in
set_option maxHeartbeats 1000000 in
theorem k_nameOf (m_z u_z : Nat) (M : Zmem) (hus : M 33 5 = nI u_z) (hu2 : u_z < 2) : ZC 165 0 [.ref 33, .int (Zsb m_z)] M (fun r_z M' => (∃ x_z : Int32, r_z = some (.int x_z) ∧ ((Znmb u_z m_z = true ∧ x_z = nI (Zpn u_z m_z)) ∨ (¬ Znmb u_z m_z = true ∧ x_z = -(nI 1)))) ∧ M = M') := by
  refine ZC_of Zt165 Zk165 (Nat.le_of_ble_eq_true rfl) (by decide) rfl (fun X hX hE => ?_)
  have L2 : ∀ (q_z : Nat) (i_z : Nat), 3 - i_z < q_z → i_z ≤ 3 → (∀ j_z, j_z < i_z → ¬ Zsb m_z = Znc u_z j_z) → ZP X Zt165 (Zsf Zt165 2) [(0, .ref 33), (1, .int (Zsb m_z)), (2, .int (nI i_z))] [] M := by
    intro q_z
    induction q_z with
    | zero => intro i_z hq_z; exact absurd hq_z (Nat.not_lt_zero _)
    | succ q_z ih_z =>
      intro i_z hq_z hi_z hno
      refine Zgo hX 2 rfl (by first | exact True.intro | (dsimp only [ZallP]; and_intros <;> (first | decide | ((try simp only [pk_mul, nI_add]); exact Zin_n (by omega) (by decide))))) ?_
      refine Zs_ige hX (List.cons_ne_nil _ _) (fun h4_z => ?_) (fun h4_z => ?_)
      · skip
        obtain rfl : i_z = 3 := by have := (Zn_le (by decide) (by omega)).mp h4_z; omega
        refine Zgo hX 1 rfl (by first | exact True.intro | (dsimp only [ZallP]; and_intros <;> (first | decide | ((try simp only [pk_mul, nI_add]); exact Zin_n (by omega) (by decide))))) ?_
        refine Zs_ret hX hE rfl ⟨⟨_, rfl, Or.inr ⟨Znc_n hu2 hno, rfl⟩⟩, rfl⟩
      · skip
        have hlt : i_z < 3 := (Nat.lt_or_ge i_z 3).elim id (fun q_z => absurd ((Zn_le (by decide) (by omega)).mpr q_z) h4_z)
        refine Zgo hX 8 rfl (by first | exact True.intro | (dsimp only [ZallP]; and_intros <;> (first | decide | ((try simp only [pk_mul, nI_add]); exact Zin_n (by omega) (by decide))))) ?_
        rw [hus, pk_mul, nI_add]
        refine Zs_lt hX (List.cons_ne_nil _ _) (fun h17_z => (absurd h17_z (Zn_nlt0 (by omega)))) (fun h17_z => ?_)
        refine Zgo hX 3 rfl (by first | exact True.intro | (dsimp only [ZallP]; and_intros <;> (first | decide | ((try simp only [pk_mul, nI_add]); exact Zin_n (by omega) (by decide))))) ?_
        refine Zs_ige hX (List.cons_ne_nil _ _) (fun h25_z => (absurd ((Zn_le (by decide) (by omega)).mp h25_z) (by omega))) (fun h25_z => ?_)
        refine Zgo hX 4 rfl (Zin_n (by omega) (by decide)) ?_
        rw [Zcl_n (show 3 * u_z + i_z < 2 ^ 31 by omega)]
        refine Zs_ine hX (List.cons_ne_nil _ _) (fun h34_z => ?_) (fun h34_z => ?_)
        · skip
          refine Zgo hX 2 rfl (by first | exact True.intro | (dsimp only [ZallP]; and_intros <;> (first | decide | ((try simp only [pk_mul, nI_add]); exact Zin_n (by omega) (by decide))))) ?_
          refine Zs_sub (l' := [(0, .ref 33), (1, .int (Zsb m_z)), (2, .int (nI i_z + nI 1))]) rfl ?_
          rw [nI_add]
          refine ih_z (i_z + 1) (by omega) (by omega) (fun j_z hj_z => ?_)
          by_cases e_z : j_z = i_z
          · subst e_z; exact fun q_z => h34_z q_z.symm
          · exact hno j_z (by omega)
        · skip
          refine Zgo hX 1 rfl (by first | exact True.intro | (dsimp only [ZallP]; and_intros <;> (first | decide | ((try simp only [pk_mul, nI_add]); exact Zin_n (by omega) (by decide))))) ?_
          refine Zs_ret hX hE rfl ⟨⟨_, rfl, Or.inl (Znc_y hu2 hlt (Eq.symm h34_z))⟩, rfl⟩
  refine Zgo hX 2 rfl (by first | exact True.intro | (dsimp only [ZallP]; and_intros <;> (first | decide | ((try simp only [pk_mul, nI_add]); exact Zin_n (by omega) (by decide))))) ?_
  refine Zs_sub (l' := [(0, .ref 33), (1, .int (Zsb m_z)), (2, .int (nI 0))]) rfl ?_
  exact L2 4 0 (by decide) (by decide) (fun j_z hj_z => absurd hj_z (Nat.not_lt_zero _))

set_option maxRecDepth 20000 in
set_option maxHeartbeats 1000000 in
theorem k_number (c_z : Nat → Nat) (n_z u_z p_z st : Nat) (M : Zmem) (hz_z : Zkp c_z n_z u_z p_z st M) (hd_z : Zdig (c_z p_z) = true) (hsp : st ≤ p_z) : ZC 163 1 [.ref 33] M (fun r_z M' => r_z = none ∧ Zkq c_z n_z u_z st M M' (true, (Znum c_z 4 p_z 0).1, [(nI 0, nI (Znum c_z 4 p_z 0).2)])) := by
  refine ZC_of Zt163 Zk163 (Nat.le_of_ble_eq_true rfl) (by decide) rfl (fun X hX hE => ?_)
  obtain ⟨⟨hcn, hn60, hu2, hpn⟩, hta, hby, hus, hat, hsz, htp⟩ := id hz_z
  have hplt : p_z < n_z := Zc_lt hcn (by have := Zdig_iff.mp hd_z; omega)
  have L48 : ∀ (q_z : Nat) (q1_z v_z : Nat) (M1 : Zmem), 0 < q_z → Znum c_z 4 p_z 0 = (q1_z, v_z) → Sc M M1 → Zkp c_z n_z u_z q1_z st M1 → (∀ i_z, M1 34 i_z = M 34 i_z) → ZP X Zt163 (Zsf Zt163 48) [(0, .ref 33), (1, .int (nI v_z))] [] M1 := by
    intro q_z
    induction q_z with
    | zero => intro q1_z v_z M1 hq_z; exact absurd hq_z (Nat.not_lt_zero _)
    | succ q_z ih_z =>
      intro q1_z v_z M1 hq_z hnum hsc hz1 hco
      refine Zgo hX 2 rfl (by first | exact True.intro | (dsimp only [ZallP]; and_intros <;> (first | decide | ((try simp only [pk_mul, nI_add]); exact Zin_n (by omega) (by decide))))) ?_
      refine Zs_callv hX (List.cons_ne_nil _ _) (k_keep _ st _ hz1.2.2.2.2.2.1 (by omega)) (by decide) (by decide) rfl rfl rfl (by decide) (Nat.le_of_ble_eq_true rfl) (fun r_z M' hc_z => ?_)
      rcases hc_z with ⟨rfl, ⟨-, rfl⟩ | ⟨hk_z, -⟩⟩
      · skip
        refine Zs_retv hX hE rfl ⟨rfl, ?_⟩
        rw [hnum]
        exact Zkq_1 hsc hco hz1 (by omega) (Or.inl ⟨rfl, rfl⟩)
      · skip
        exact absurd hk_z (by omega)
  have L4 : ∀ (q_z : Nat) (i_z q1_z v_z : Nat) (M1 : Zmem), 4 - i_z < q_z → i_z ≤ 4 → Znum c_z (4 - i_z) q1_z v_z = Znum c_z 4 p_z 0 → Sc M M1 → Zkp c_z n_z u_z q1_z st M1 → (∀ i_z, M1 34 i_z = M 34 i_z) → ZP X Zt163 (Zsf Zt163 4) [(0, .ref 33), (1, .int (nI v_z)), (2, .int (nI i_z))] [] M1 := by
    intro q_z
    induction q_z with
    | zero => intro i_z q1_z v_z M1 hq_z; exact absurd hq_z (Nat.not_lt_zero _)
    | succ q_z ih_z =>
      intro i_z q1_z v_z M1 hq_z hi_z hnum hsc hz1 hco
      refine Zgo hX 2 rfl (by first | exact True.intro | (dsimp only [ZallP]; and_intros <;> (first | decide | ((try simp only [pk_mul, nI_add]); exact Zin_n (by omega) (by decide))))) ?_
      refine Zs_ige hX (List.cons_ne_nil _ _) (fun h6_z => ?_) (fun h6_z => ?_)
      · skip
        refine Zs_sub (l' := [(0, .ref 33), (1, .int (nI v_z))]) rfl ?_
        obtain rfl : i_z = 4 := by have := (Zn_le (by decide) (by omega)).mp h6_z; omega
        exact L48 1 q1_z v_z M1 (by decide) hnum.symm hsc hz1 hco
      · skip
        have hlt : i_z < 4 := (Nat.lt_or_ge i_z 4).elim id (fun q_z => absurd ((Zn_le (by decide) (by omega)).mpr q_z) h6_z)
        have e4 : 4 - i_z = (4 - (i_z + 1)) + 1 := by omega
        have hlq := hz1.1.2.2.2
        have hn6 := hz1.1.2.1
        refine Zgo hX 1 rfl (by first | exact True.intro | (dsimp only [ZallP]; and_intros <;> (first | decide | ((try simp only [pk_mul, nI_add]); exact Zin_n (by omega) (by decide))))) ?_
        refine Zs_callv hX (List.cons_ne_nil _ _) (k_next c_z n_z u_z q1_z st _ hz1) (by decide) (by decide) rfl rfl rfl (by decide) (Nat.le_of_ble_eq_true rfl) (fun r_z M' hc_z => ?_)
        obtain ⟨rfl, rfl⟩ := hc_z
        refine Zs_calls hX (List.cons_ne_nil _ _) (by decide) (k_isDigit _ _) (by decide) rfl rfl (by decide) (Nat.le_of_ble_eq_true rfl) (fun r_z M' hc_z => ?_)
        rcases hc_z with ⟨⟨rfl, hb_z⟩ | ⟨rfl, hb_z⟩, rfl⟩
        · skip
          refine Zs_eq hX (List.cons_ne_nil _ _) (fun q_z => absurd q_z (by decide)) (fun _ => ?_)
          refine Zgo hX 4 rfl (by first | exact True.intro | (dsimp only [ZallP]; and_intros <;> (first | decide | ((try simp only [pk_mul, nI_add]); exact Zin_n (by omega) (by decide))))) ?_
          refine Zs_callv hX (List.cons_ne_nil _ _) (k_next c_z n_z u_z q1_z st _ hz1) (by decide) (by decide) rfl rfl rfl (by decide) (Nat.le_of_ble_eq_true rfl) (fun r_z M' hc_z => ?_)
          obtain ⟨rfl, rfl⟩ := hc_z
          have hdg := Zdig_iff.mp hb_z
          have hql : q1_z < n_z := Zc_lt hz1.1.1 (by omega)
          rw [Zsb_lt (show c_z q1_z < 128 by omega)]
          refine Zgo hX 12 rfl (by first | exact True.intro | (dsimp only [ZallP]; and_intros <;> (first | decide | ((try simp only [pk_mul, nI_add]); exact Zin_n (by omega) (by decide))))) ?_
          rw [hz1.2.2.2.2.1]
          simp only [pk_mul, nI_add]
          rw [pk_sub (show 48 ≤ 10 * v_z + c_z q1_z by omega)]
          refine Zs_sub (l' := [(0, .ref 33), (1, .int (nI (10 * v_z + c_z q1_z - 48))), (2, .int (nI (i_z + 1)))]) rfl ?_
          exact ih_z (i_z + 1) (q1_z + 1) (10 * v_z + c_z q1_z - 48) _ (by omega) (by omega) (by rw [← hnum, e4, Znum, if_pos hb_z]) (hsc.tr (Zsc_at _ _)) (hz1.at hql) hco
        · skip
          refine Zs_eq hX (List.cons_ne_nil _ _) (fun _ => ?_) (fun q_z => absurd rfl q_z)
          refine Zs_sub (l' := [(0, .ref 33), (1, .int (nI v_z))]) rfl ?_
          refine L48 1 q1_z v_z M1 (by decide) ?_ hsc hz1 hco
          rw [← hnum, e4, Znum, if_neg hb_z]
  refine Zgo hX 4 rfl (by first | exact True.intro | (dsimp only [ZallP]; and_intros <;> (first | decide | ((try simp only [pk_mul, nI_add]); exact Zin_n (by omega) (by decide))))) ?_
  refine Zs_sub (l' := [(0, .ref 33), (1, .int (nI 0)), (2, .int (nI 0))]) rfl ?_
  exact L4 5 0 p_z 0 M (by decide) (by decide) rfl (Sc.rf M) hz_z (fun _ => rfl)
end
section
set_option maxRecDepth 20000 in
set_option maxHeartbeats 1000000 in
theorem k_opened (c_z : Nat → Nat) (n_z u_z o_z p_z st : Nat) (M : Zmem) (hz_z : Zkp c_z n_z u_z p_z st M) (hsp : st ≤ p_z) (s_z F : Nat) (ho : o_z < 5) (hs_z : s_z = 33 ∨ s_z = 40) (hcs : c_z p_z = s_z) (hpie : Zkc 161 F [.int (nI (5 - o_z))] c_z n_z u_z (Zpie c_z u_z o_z)) (hwho : Zkc 158 (F + 10) [.int (nI 0), .int (nI (5 - o_z))] c_z n_z u_z (Zlvl c_z (Zpie c_z u_z o_z) 5)) : ZC 162 (F + 11) [.ref 33, .int (nI s_z), .int (nI (5 - o_z))] M (fun r_z M' => Zb r_z ((Zpie c_z u_z (o_z + 1) p_z).1 = true) ∧ Zkq c_z n_z u_z st M M' (Zpie c_z u_z (o_z + 1) p_z)) := by
  refine ZC_of Zt162 Zk162 (Nat.le_of_ble_eq_true rfl) (by decide) rfl (fun X hX hE => ?_)
  obtain ⟨⟨hcn, hn60, hu2, hpn⟩, hta, hby, hus, hat, hsz, htp⟩ := id hz_z
  have hlt : p_z < n_z := Zc_lt hcn (by omega)
  have hz1 := hz_z.at hlt
  have hg_z := Zpie_gd (u_z := u_z) hcn o_z (p_z + 1) hlt
  have hgw := Zlvl_gd (u_z := u_z) hcn (Zpie_gd hcn o_z) 5 (by decide) (p_z + 1) hlt
  refine Zgo hX 8 rfl True.intro ?_
  rw [hat, nI_add]
  refine Zs_ine hX (List.cons_ne_nil _ _) (fun h13_z => ?_) (fun h13_z => ?_)
  · obtain rfl : s_z = 40 := by rcases hs_z with rfl | rfl; exact absurd rfl h13_z; rfl
    refine Zgo hX 3 rfl True.intro ?_
    refine Zs_callv hX (List.cons_ne_nil _ _) (hwho (p_z + 1) st _ hz1 (by omega)) (by first | decide | omega) (by decide) rfl rfl rfl (by decide) (Nat.le_of_ble_eq_true rfl) (fun r_z M' hc_z => ?_)
    rcases hc_z with ⟨⟨rfl, hb_z⟩ | ⟨rfl, hb_z⟩, hq_z⟩
    · refine Zs_eq hX (List.cons_ne_nil _ _) (fun q_z => False.elim (by revert q_z; decide)) (fun _ => ?_)
      refine Zgo hX 1 rfl True.intro ?_
      refine Zs_callv hX (List.cons_ne_nil _ _) (k_next c_z n_z u_z _ _ _ (hq_z.p hb_z)) (by first | decide | omega) (by decide) rfl rfl rfl (by decide) (Nat.le_of_ble_eq_true rfl) (fun r_z M' hc_z => ?_)
      obtain ⟨rfl, rfl⟩ := hc_z
      refine Zgo hX 1 rfl True.intro ?_
      refine Zs_ieq hX (List.cons_ne_nil _ _) (fun h45_z => ?_) (fun h45_z => ?_)
      · have h41_z := (Zsb_eq (by decide)).mp h45_z
        have hzq := hq_z.p hb_z
        have hlt2 : (Zlvl c_z (Zpie c_z u_z o_z) 5 (p_z + 1)).2.1 < n_z := Zc_lt hcn (by omega)
        refine Zgo hX 7 rfl True.intro ?_
        rw [hzq.2.2.2.2.1, nI_add]
        refine Zs_retz hX hE rfl (by first | exact Or.inl rfl | exact Or.inr rfl) ⟨Or.inl ⟨rfl, by rw [Zpie_40t hcs hb_z h41_z]⟩, ?_⟩
        rw [Zpie_40t hcs hb_z h41_z]
        obtain ⟨q1_z, s', q2_z, q3, q4⟩ := Zkq_pre (Zsc_at M _) (fun _ => rfl) hq_z
        obtain ⟨rfl, q5, q6⟩ := q4 hb_z
        exact ⟨q1_z.tr (Zsc_at _ _), _, q2_z, q3.at hlt2, fun _ => ⟨rfl, q5, q6⟩⟩
      · have hne : ¬ ((Zlvl c_z (Zpie c_z u_z o_z) 5 (p_z + 1)).1 = true ∧ c_z (Zlvl c_z (Zpie c_z u_z o_z) 5 (p_z + 1)).2.1 = 41) := fun q_z => h45_z ((Zsb_eq (by decide)).mpr q_z.2)
        refine Zgo hX 1 rfl True.intro ?_
        refine Zs_retz hX hE rfl (by first | exact Or.inl rfl | exact Or.inr rfl) ⟨Or.inr ⟨rfl, by rw [Zpie_40f hcs hne]; exact Bool.false_ne_true⟩, ?_⟩
        rw [Zpie_40f hcs hne]
        exact Zkq_f2 (Zsc_at M _) hq_z
    · refine Zs_eq hX (List.cons_ne_nil _ _) (fun _ => ?_) (fun q_z => False.elim (by revert q_z; decide))
      have hne : ¬ ((Zlvl c_z (Zpie c_z u_z o_z) 5 (p_z + 1)).1 = true ∧ c_z (Zlvl c_z (Zpie c_z u_z o_z) 5 (p_z + 1)).2.1 = 41) := fun q_z => hb_z q_z.1
      refine Zgo hX 1 rfl True.intro ?_
      refine Zs_retz hX hE rfl (by first | exact Or.inl rfl | exact Or.inr rfl) ⟨Or.inr ⟨rfl, by rw [Zpie_40f hcs hne]; exact Bool.false_ne_true⟩, ?_⟩
      rw [Zpie_40f hcs hne]
      exact Zkq_f2 (Zsc_at M _) hq_z
  · obtain rfl : s_z = 33 := by rcases hs_z with rfl | rfl; rfl; exact absurd h13_z (by decide)
    refine Zgo hX 2 rfl True.intro ?_
    refine Zs_callv hX (List.cons_ne_nil _ _) (hpie (p_z + 1) st _ hz1 (by omega)) (by first | decide | omega) (by decide) rfl rfl rfl (by decide) (Nat.le_of_ble_eq_true rfl) (fun r_z M' hc_z => ?_)
    rcases hc_z with ⟨⟨rfl, hb_z⟩ | ⟨rfl, hb_z⟩, hq_z⟩
    · obtain ⟨hg1, hg2, hg3⟩ := hg_z
      obtain ⟨hg4, hg5, -⟩ := hg3 hb_z
      refine Zgo hX 3 rfl True.intro ?_
      refine Zs_callv hX (List.cons_ne_nil _ _) (k_keep _ _ _ (hq_z.p hb_z).2.2.2.2.2.1 (by omega)) (by first | decide | omega) (by decide) rfl rfl rfl (by decide) (Nat.le_of_ble_eq_true rfl) (fun r_z M' hc_z => ?_)
      obtain ⟨rfl, hk_z⟩ := hc_z
      rcases hk_z with ⟨-, rfl⟩ | ⟨hk_z, -⟩
      · refine Zgo hX 1 rfl True.intro ?_
        refine Zs_retz hX hE rfl (by first | exact Or.inl rfl | exact Or.inr rfl) ⟨Or.inl ⟨rfl, by rw [Zpie_33t hcs hb_z]⟩, ?_⟩
        rw [Zpie_33t hcs hb_z]
        exact Zkq_2 (Zkq_pre (Zsc_at M _) (fun _ => rfl) hq_z) hb_z (by omega) rfl
      · exact absurd hk_z (by omega)
    · obtain ⟨q1_z, s', q2_z, q3, -⟩ := id hq_z
      refine Zgo hX 3 rfl True.intro ?_
      refine Zs_callv hX (List.cons_ne_nil _ _) (k_keep _ _ _ q3.2.2.2.2.2.1 q2_z) (by first | decide | omega) (by decide) rfl rfl rfl (by decide) (Nat.le_of_ble_eq_true rfl) (fun r_z M' hc_z => ?_)
      obtain ⟨rfl, hk_z⟩ := hc_z
      rcases hk_z with ⟨hk_z, rfl⟩ | ⟨hk_z, rfl⟩
      · refine Zgo hX 1 rfl True.intro ?_
        refine Zs_retz hX hE rfl (by first | exact Or.inl rfl | exact Or.inr rfl) ⟨Or.inr ⟨rfl, by rw [Zpie_33f hcs hb_z]; exact Bool.false_ne_true⟩, ?_⟩
        rw [Zpie_33f hcs hb_z]
        exact Zkq_f (((Zsc_at M _).tr q1_z).tr (Zsc_keep _ _ _)) (q3.keep _) hk_z
      · refine Zgo hX 1 rfl True.intro ?_
        refine Zs_retz hX hE rfl (by first | exact Or.inl rfl | exact Or.inr rfl) ⟨Or.inr ⟨rfl, by rw [Zpie_33f hcs hb_z]; exact Bool.false_ne_true⟩, ?_⟩
        rw [Zpie_33f hcs hb_z]
        exact Zkq_f ((Zsc_at M _).tr q1_z) q3 q2_z
end
section
set_option maxRecDepth 20000 in
set_option maxHeartbeats 1000000 in
theorem k_piece (c_z : Nat → Nat) (n_z u_z o_z p_z st : Nat) (M : Zmem) (hz_z : Zkp c_z n_z u_z p_z st M) (hsp : st ≤ p_z) (F : Nat) (hF : 1 ≤ F) (ho : o_z ≤ 5) (hop : ∀ o1, o_z = o1 + 1 → ∀ s_z, s_z = 33 ∨ s_z = 40 → c_z p_z = s_z → ZC 162 F [.ref 33, .int (nI s_z), .int (nI (5 - o1))] M (fun r_z M' => Zb r_z ((Zpie c_z u_z (o1 + 1) p_z).1 = true) ∧ Zkq c_z n_z u_z st M M' (Zpie c_z u_z (o1 + 1) p_z))) : ZC 161 (F + 1) [.ref 33, .int (nI (5 - o_z))] M (fun r_z M' => Zb r_z ((Zpie c_z u_z o_z p_z).1 = true) ∧ Zkq c_z n_z u_z st M M' (Zpie c_z u_z o_z p_z)) := by
  refine ZC_of Zt161 Zk161 (Nat.le_of_ble_eq_true rfl) (by decide) rfl (fun X hX hE => ?_)
  obtain ⟨⟨hcn, hn60, hu2, hpn⟩, hta, hby, hus, hat, hsz, htp⟩ := id hz_z
  have hop2 : ∀ s_z, s_z = 33 ∨ s_z = 40 → c_z p_z = s_z → ZP X Zt161 (Zsf Zt161 30) [(2, .int (nI s_z)), (0, .ref 33), (1, .int (nI (5 - o_z)))] [] M := by
    intro s_z hs_z hcs
    refine Zgo hX 2 rfl True.intro ?_
    refine Zs_ige hX (List.cons_ne_nil _ _) (fun h32_z => ?_) (fun h32_z => ?_)
    · have e_z := (Zn_le (by decide) (by omega)).mp h32_z
      obtain rfl : o_z = 0 := by omega
      have hr_z := Zpie_0 (u_z := u_z) (show c_z p_z = 33 ∨ c_z p_z = 40 by omega)
      refine Zgo hX 1 rfl True.intro ?_
      refine Zs_retz hX hE rfl (by first | exact Or.inl rfl | exact Or.inr rfl) ⟨Or.inr ⟨rfl, by rw [hr_z]; exact Bool.false_ne_true⟩, ?_⟩
      rw [hr_z]
      exact Zkq_f (Sc.rf M) hz_z (by omega)
    · obtain ⟨o1, rfl⟩ : ∃ o1, o_z = o1 + 1 := ⟨o_z - 1, by
        rcases Nat.eq_zero_or_pos o_z with h_z | h_z
        · subst h_z; exact absurd (Int32.le_refl _) h32_z
        · omega⟩
      refine Zgo hX 5 rfl True.intro ?_
      rw [nI_add, show 5 - (o1 + 1) + 1 = 5 - o1 by omega]
      refine Zs_callv hX (List.cons_ne_nil _ _) (hop o1 rfl s_z hs_z hcs) (by first | decide | omega) (by decide) rfl rfl rfl (by decide) (Nat.le_of_ble_eq_true rfl) (fun r_z M' hc_z => ?_)
      rcases hc_z with ⟨⟨rfl, hb_z⟩ | ⟨rfl, hb_z⟩, hq_z⟩
      · refine Zs_eq hX (List.cons_ne_nil _ _) (fun q_z => False.elim (by revert q_z; decide)) (fun _ => ?_)
        refine Zgo hX 2 rfl True.intro ?_
        refine Zs_retz hX hE rfl (by first | exact Or.inl rfl | exact Or.inr rfl) ⟨Or.inl ⟨rfl, hb_z⟩, hq_z⟩
      · refine Zs_eq hX (List.cons_ne_nil _ _) (fun _ => ?_) (fun q_z => False.elim (by revert q_z; decide))
        refine Zgo hX 1 rfl True.intro ?_
        refine Zs_retz hX hE rfl (by first | exact Or.inl rfl | exact Or.inr rfl) ⟨Or.inr ⟨rfl, hb_z⟩, hq_z⟩
  refine Zgo hX 1 rfl True.intro ?_
  refine Zs_callv hX (List.cons_ne_nil _ _) (k_next c_z n_z u_z p_z st _ hz_z) (by first | decide | omega) (by decide) rfl rfl rfl (by decide) (Nat.le_of_ble_eq_true rfl) (fun r_z M' hc_z => ?_)
  obtain ⟨rfl, rfl⟩ := hc_z
  refine Zgo hX 2 rfl True.intro ?_
  refine Zs_calls hX (List.cons_ne_nil _ _) (by decide) (k_isDigit _ _) (by first | decide | omega) rfl rfl (by decide) (Nat.le_of_ble_eq_true rfl) (fun r_z M' hc_z => ?_)
  rcases hc_z with ⟨⟨rfl, hb_z⟩ | ⟨rfl, hb_z⟩, rfl⟩
  · refine Zs_eq hX (List.cons_ne_nil _ _) (fun q_z => False.elim (by revert q_z; decide)) (fun _ => ?_)
    refine Zgo hX 1 rfl True.intro ?_
    refine Zs_callv hX (List.cons_ne_nil _ _) (k_number c_z n_z u_z p_z st _ hz_z hb_z hsp) (by first | decide | omega) (by decide) rfl rfl rfl (by decide) (Nat.le_of_ble_eq_true rfl) (fun r_z M' hc_z => ?_)
    obtain ⟨rfl, hq_z⟩ := hc_z
    refine Zgo hX 1 rfl True.intro ?_
    refine Zs_retz hX hE rfl (by first | exact Or.inl rfl | exact Or.inr rfl) ⟨Or.inl ⟨rfl, by rw [Zpie_dig hb_z]⟩, by rw [Zpie_dig hb_z]; exact hq_z⟩
  · refine Zs_eq hX (List.cons_ne_nil _ _) (fun _ => ?_) (fun q_z => False.elim (by revert q_z; decide))
    refine Zgo hX 2 rfl True.intro ?_
    refine Zs_ieq hX (List.cons_ne_nil _ _) (fun h21_z => ?_) (fun h21_z => ?_)
    · rw [h21_z]
      exact hop2 33 (Or.inl rfl) ((Zsb_eq (by decide)).mp h21_z)
    · refine Zgo hX 2 rfl True.intro ?_
      refine Zs_ine hX (List.cons_ne_nil _ _) (fun h27_z => ?_) (fun h27_z => ?_)
      · have n33 : ¬ c_z p_z = 33 := fun q_z => h21_z ((Zsb_eq (by decide)).mpr q_z)
        have n40 : ¬ c_z p_z = 40 := fun q_z => h27_z ((Zsb_eq (by decide)).mpr q_z)
        refine Zgo hX 2 rfl True.intro ?_
        refine Zs_callv hX (List.cons_ne_nil _ _) (k_nameOf _ u_z _ hus hu2) (by first | decide | omega) (by decide) rfl rfl rfl (by decide) (Nat.le_of_ble_eq_true rfl) (fun r_z M' hc_z => ?_)
        obtain ⟨⟨x_z, rfl, hx_z⟩, rfl⟩ := hc_z
        refine Zgo hX 2 rfl True.intro ?_
        refine Zs_ge hX (List.cons_ne_nil _ _) (fun h59_z => ?_) (fun h59_z => ?_)
        · have hx2 : Znmb u_z (c_z p_z) = true ∧ x_z = nI (Zpn u_z (c_z p_z)) := by
            rcases hx_z with hx_z | ⟨-, rfl⟩
            · exact hx_z
            · exact absurd h59_z (by decide)
          obtain ⟨hx2, rfl⟩ := hx2
          have hnm := Znmb_iff.mp hx2
          have hlt : p_z < n_z := Zc_lt hcn (Znm_lt hnm)
          refine Zgo hX 10 rfl True.intro ?_
          rw [hat, nI_add]
          refine Zs_callv hX (List.cons_ne_nil _ _) (k_keep _ st _ hsz (by omega)) (by first | decide | omega) (by decide) rfl rfl rfl (by decide) (Nat.le_of_ble_eq_true rfl) (fun r_z M' hc_z => ?_)
          obtain ⟨rfl, hk_z⟩ := hc_z
          rcases hk_z with ⟨hk_z, rfl⟩ | ⟨hk_z, -⟩
          · refine Zgo hX 1 rfl True.intro ?_
            have hr_z := Zpie_nam (o_z := o_z) hb_z n33 n40 hx2
            refine Zs_retz hX hE rfl (by first | exact Or.inl rfl | exact Or.inr rfl) ⟨Or.inl ⟨rfl, by rw [hr_z]⟩, ?_⟩
            rw [hr_z]
            exact Zkq_1 (Zsc_at M _) (fun _ => rfl) (hz_z.at hlt) hk_z (Or.inr (Or.inl ⟨rfl, _, hnm, rfl, Zneg1 _⟩))
          · exact absurd hk_z (by omega)
        · have hx2 : ¬ Znmb u_z (c_z p_z) = true := by
            rcases hx_z with ⟨-, rfl⟩ | ⟨h_z, -⟩
            · exact absurd (by rw [← Zn0]; exact (Zn_le (by decide) (by have := Zpn_lt u_z (c_z p_z); omega)).mpr (Nat.zero_le _)) h59_z
            · exact h_z
          have hr_z := Zpie_non (o_z := o_z) hb_z n33 n40 hx2
          refine Zgo hX 1 rfl True.intro ?_
          refine Zs_retz hX hE rfl (by first | exact Or.inl rfl | exact Or.inr rfl) ⟨Or.inr ⟨rfl, by rw [hr_z]; exact Bool.false_ne_true⟩, ?_⟩
          rw [hr_z]
          exact Zkq_f (Sc.rf M) hz_z (by omega)
      · rw [h27_z]
        exact hop2 40 (Or.inr rfl) ((Zsb_eq (by decide)).mp h27_z)
end
section
set_option maxRecDepth 20000 in
set_option maxHeartbeats 1000000 in
theorem k_between (c_z : Nat → Nat) (n_z u_z o_z j_z p_z st : Nat) (M : Zmem) (hz_z : Zkp c_z n_z u_z p_z st M) (hsp : st ≤ p_z) (F : Nat) (hj_z : j_z ≤ 4) (hpie : j_z = 0 → Zkc 161 F [.int (nI (5 - o_z))] c_z n_z u_z (Zpie c_z u_z o_z)) (hpar : ∀ j1_z, j_z = j1_z + 1 → Zkc 158 F [.int (nI (4 - j1_z)), .int (nI (5 - o_z))] c_z n_z u_z (Zlvl c_z (Zpie c_z u_z o_z) (j1_z + 1))) : ZC 159 (F + 1) [.ref 33, .int (nI (4 - j_z)), .int (nI (5 - o_z))] M (fun r_z M' => Zb r_z ((Zlvl c_z (Zpie c_z u_z o_z) j_z p_z).1 = true) ∧ Zkq c_z n_z u_z st M M' (Zlvl c_z (Zpie c_z u_z o_z) j_z p_z)) := by
  refine ZC_of Zt159 Zk159 (Nat.le_of_ble_eq_true rfl) (by decide) rfl (fun X hX hE => ?_)
  obtain ⟨⟨hcn, hn60, hu2, hpn⟩, hta, hby, hus, hat, hsz, htp⟩ := id hz_z
  refine Zgo hX 2 rfl True.intro ?_
  refine Zs_ige hX (List.cons_ne_nil _ _) (fun h2_z => ?_) (fun h2_z => ?_)
  · obtain rfl : j_z = 0 := by have := (Zn_le (by decide) (by omega)).mp h2_z; omega
    refine Zgo hX 2 rfl True.intro ?_
    refine Zs_callv hX (List.cons_ne_nil _ _) (hpie rfl p_z st _ hz_z hsp) (by first | decide | omega) (by decide) rfl rfl rfl (by decide) (Nat.le_of_ble_eq_true rfl) (fun r_z M' hc_z => ?_)
    rcases hc_z with ⟨⟨rfl, hb_z⟩ | ⟨rfl, hb_z⟩, hq_z⟩
    · refine Zs_retz hX hE rfl (by first | exact Or.inl rfl | exact Or.inr rfl) ⟨Or.inl ⟨rfl, hb_z⟩, hq_z⟩
    · refine Zs_retz hX hE rfl (by first | exact Or.inl rfl | exact Or.inr rfl) ⟨Or.inr ⟨rfl, hb_z⟩, hq_z⟩
  · obtain ⟨j1_z, rfl⟩ : ∃ j1_z, j_z = j1_z + 1 := ⟨j_z - 1, by
      rcases Nat.eq_zero_or_pos j_z with h_z | h_z
      · subst h_z; exact absurd (Int32.le_refl _) h2_z
      · omega⟩
    refine Zgo hX 5 rfl True.intro ?_
    rw [nI_add, show 4 - (j1_z + 1) + 1 = 4 - j1_z by omega]
    refine Zs_callv hX (List.cons_ne_nil _ _) (hpar j1_z rfl p_z st _ hz_z hsp) (by first | decide | omega) (by decide) rfl rfl rfl (by decide) (Nat.le_of_ble_eq_true rfl) (fun r_z M' hc_z => ?_)
    rcases hc_z with ⟨⟨rfl, hb_z⟩ | ⟨rfl, hb_z⟩, hq_z⟩
    · refine Zgo hX 1 rfl True.intro ?_
      refine Zs_retz hX hE rfl (by first | exact Or.inl rfl | exact Or.inr rfl) ⟨Or.inl ⟨rfl, hb_z⟩, hq_z⟩
    · refine Zgo hX 1 rfl True.intro ?_
      refine Zs_retz hX hE rfl (by first | exact Or.inl rfl | exact Or.inr rfl) ⟨Or.inr ⟨rfl, hb_z⟩, hq_z⟩
end
section
set_option maxRecDepth 20000 in
set_option maxHeartbeats 1000000 in
theorem k_part (c_z : Nat → Nat) (n_z u_z o_z j_z p_z st : Nat) (M : Zmem) (hz_z : Zkp c_z n_z u_z p_z st M) (hsp : st ≤ p_z) (F : Nat) (hj_z : j_z ≤ 4) (hbt : Zkc 159 F [.int (nI (4 - j_z)), .int (nI (5 - o_z))] c_z n_z u_z (Zlvl c_z (Zpie c_z u_z o_z) j_z)) : ZC 158 (F + 1) [.ref 33, .int (nI (4 - j_z)), .int (nI (5 - o_z))] M (fun r_z M' => Zb r_z ((Zlvl c_z (Zpie c_z u_z o_z) (j_z + 1) p_z).1 = true) ∧ Zkq c_z n_z u_z st M M' (Zlvl c_z (Zpie c_z u_z o_z) (j_z + 1) p_z)) := by
  refine ZC_of Zt158 Zk158 (Nat.le_of_ble_eq_true rfl) (by decide) rfl (fun X hX hE => ?_)
  obtain ⟨⟨hcn, hn60, hu2, hpn⟩, hta, hby, hus, hat, hsz, htp⟩ := id hz_z
  have hgw := Zlvl_gd (u_z := u_z) hcn (Zpie_gd hcn o_z) j_z (by omega)
  obtain ⟨K, hK, hK60⟩ : ∃ K, K = (if j_z = 2 then 1 else 60) ∧ K ≤ 60 := ⟨_, rfl, by split <;> omega⟩
  have L83 : ∀ (i_z p1 : Nat) (L : List Zitm) (M1 : Zmem), Zkq c_z n_z u_z st M M1 (true, p1, L) → Zlvl c_z (Zpie c_z u_z o_z) (j_z + 1) p_z = (true, p1, L) → ZP X Zt158 (Zsf Zt158 83) [(4, .int (nI i_z)), (3, .int (nI K)), (0, .ref 33), (1, .int (nI (4 - j_z))), (2, .int (nI (5 - o_z)))] [] M1 := by
    intro i_z p1 L M1 hq_z hr_z
    refine Zgo hX 1 rfl True.intro ?_
    refine Zs_retz hX hE rfl (by first | exact Or.inl rfl | exact Or.inr rfl) ⟨Or.inl ⟨rfl, by rw [hr_z]⟩, by rw [hr_z]; exact hq_z⟩
  have L : ∀ (q_z i_z p1 : Nat) (L : List Zitm) (M1 : Zmem), K - i_z < q_z → i_z ≤ K → Zkq c_z n_z u_z st M M1 (true, p1, L) → st + L.length ≤ p1 → p1 ≤ n_z → Zlvl c_z (Zpie c_z u_z o_z) (j_z + 1) p_z = Zlop (Zlvl c_z (Zpie c_z u_z o_z) j_z) (Zis (4 - j_z)) c_z (K - i_z) p1 L → ZP X Zt158 (Zsf Zt158 26) [(4, .int (nI i_z)), (3, .int (nI K)), (0, .ref 33), (1, .int (nI (4 - j_z))), (2, .int (nI (5 - o_z)))] [] M1 := by
    intro q_z
    induction q_z with
    | zero => intro i_z p1 L M1 hq_z; exact absurd hq_z (Nat.not_lt_zero _)
    | succ q_z ih_z =>
      intro i_z p1 L M1 hlq hi_z hq_z hst hp1 hr_z
      have hz1 : Zkp c_z n_z u_z p1 (st + L.length) M1 := hq_z.p rfl
      refine Zgo hX 2 rfl True.intro ?_
      refine Zs_ige hX (List.cons_ne_nil _ _) (fun h29_z => ?_) (fun h29_z => ?_)
      · obtain rfl : i_z = K := by have := (Zn_le (by omega) (by omega)).mp h29_z; omega
        rw [Nat.sub_self] at hr_z
        exact L83 _ p1 L M1 hq_z hr_z
      · have hiK : i_z < K := (Nat.lt_or_ge i_z K).elim id (fun q_z => absurd ((Zn_le (by omega) (by omega)).mpr q_z) h29_z)
        have eK : K - i_z = (K - (i_z + 1)) + 1 := by omega
        rw [eK, Zlop] at hr_z
        refine Zgo hX 1 rfl True.intro ?_
        refine Zs_callv hX (List.cons_ne_nil _ _) (k_next c_z n_z u_z _ _ _ hz1) (by first | decide | omega) (by decide) rfl rfl rfl (by decide) (Nat.le_of_ble_eq_true rfl) (fun r_z M' hc_z => ?_)
        obtain ⟨rfl, rfl⟩ := hc_z
        refine Zs_calls hX (List.cons_ne_nil _ _) (by decide) (k_levelOf _ _) (by first | decide | omega) rfl rfl (by decide) (Nat.le_of_ble_eq_true rfl) (fun r_z M' hc_z => ?_)
        obtain ⟨⟨x_z, rfl, hx_z⟩, rfl⟩ := hc_z
        refine Zgo hX 1 rfl True.intro ?_
        refine Zs_ine hX (List.cons_ne_nil _ _) (fun h40_z => ?_) (fun h40_z => ?_)
        · rw [if_neg (fun q_z => h40_z ((hx_z (4 - j_z) (by omega)).mpr q_z))] at hr_z
          exact L83 i_z p1 L _ hq_z hr_z
        · have his := (hx_z (4 - j_z) (by omega)).mp h40_z
          rw [if_pos his] at hr_z
          have hsg := Zis_sg (by omega) his
          have hsl := Zsg_lt hsg
          have hlt : p1 < n_z := Zc_lt hcn (by omega)
          refine Zgo hX 1 rfl True.intro ?_
          refine Zs_callv hX (List.cons_ne_nil _ _) (k_next c_z n_z u_z _ _ _ hz1) (by first | decide | omega) (by decide) rfl rfl rfl (by decide) (Nat.le_of_ble_eq_true rfl) (fun r_z M' hc_z => ?_)
          obtain ⟨rfl, rfl⟩ := hc_z
          refine Zgo hX 10 rfl True.intro ?_
          rw [hz1.2.2.2.2.1, nI_add]
          obtain ⟨g1, g2, g3⟩ := hgw (p1 + 1) hlt
          refine Zs_callv hX (List.cons_ne_nil _ _) (hbt (p1 + 1) (st + L.length) _ (hz1.at hlt) (by omega)) (by first | decide | omega) (by decide) rfl rfl rfl (by decide) (Nat.le_of_ble_eq_true rfl) (fun r_z M' hc_z => ?_)
          rcases hc_z with ⟨⟨rfl, hb_z⟩ | ⟨rfl, hb_z⟩, hq2⟩
          · refine Zs_ne hX (List.cons_ne_nil _ _) (fun _ => ?_) (fun q_z => False.elim (by revert q_z; decide))
            rw [if_pos hb_z] at hr_z
            obtain ⟨g4, g5, -⟩ := g3 hb_z
            refine Zgo hX 3 rfl True.intro ?_
            rw [Zsb_lt (show c_z p1 < 128 by omega)]
            refine Zs_callv hX (List.cons_ne_nil _ _) (k_keep _ _ _ (hq2.p hb_z).2.2.2.2.2.1 (by omega)) (by first | decide | omega) (by decide) rfl rfl rfl (by decide) (Nat.le_of_ble_eq_true rfl) (fun r_z M' hc_z => ?_)
            obtain ⟨rfl, hk_z⟩ := hc_z
            rcases hk_z with ⟨hk_z, rfl⟩ | ⟨hk_z, -⟩
            · refine Zgo hX 2 rfl True.intro ?_
              rw [nI_add]
              refine Zs_sub (l' := [(4, .int (nI (i_z + 1))), (3, .int (nI K)), (0, .ref 33), (1, .int (nI (4 - j_z))), (2, .int (nI (5 - o_z)))]) rfl ?_
              exact ih_z (i_z + 1) _ _ _ (by omega) hiK (Zkq_3 hq_z (Zsc_at _ _) (fun _ => rfl) hq2 hb_z hk_z rfl) (by simp; omega) g2 hr_z
            · exact absurd hk_z (by omega)
          · refine Zs_ne hX (List.cons_ne_nil _ _) (fun q_z => False.elim (by revert q_z; decide)) (fun _ => ?_)
            rw [if_neg hb_z] at hr_z
            refine Zgo hX 1 rfl True.intro ?_
            refine Zs_retz hX hE rfl (by first | exact Or.inl rfl | exact Or.inr rfl) ⟨Or.inr ⟨rfl, by rw [hr_z]; exact Bool.false_ne_true⟩, ?_⟩
            rw [hr_z]
            exact Zkq_f2 (hq_z.1.tr (Zsc_at _ _)) hq2
  refine Zgo hX 3 rfl True.intro ?_
  refine Zs_callv hX (List.cons_ne_nil _ _) (hbt p_z st _ hz_z hsp) (by first | decide | omega) (by decide) rfl rfl rfl (by decide) (Nat.le_of_ble_eq_true rfl) (fun r_z M' hc_z => ?_)
  rcases hc_z with ⟨⟨rfl, hb_z⟩ | ⟨rfl, hb_z⟩, hq_z⟩
  · refine Zs_ne hX (List.cons_ne_nil _ _) (fun _ => ?_) (fun q_z => False.elim (by revert q_z; decide))
    have hr_z : Zlvl c_z (Zpie c_z u_z o_z) (j_z + 1) p_z = Zlop (Zlvl c_z (Zpie c_z u_z o_z) j_z) (Zis (4 - j_z)) c_z K (Zlvl c_z (Zpie c_z u_z o_z) j_z p_z).2.1 (Zlvl c_z (Zpie c_z u_z o_z) j_z p_z).2.2 := by rw [Zlvl, if_pos hb_z, ← hK]
    obtain ⟨g1, g2, g3⟩ := hgw p_z hpn
    obtain ⟨g4, g5, -⟩ := g3 hb_z
    have hqq : Zkq c_z n_z u_z st M M' (true, (Zlvl c_z (Zpie c_z u_z o_z) j_z p_z).2.1, (Zlvl c_z (Zpie c_z u_z o_z) j_z p_z).2.2) := by
      obtain ⟨q1_z, s', q2_z, q3, q4⟩ := hq_z
      exact ⟨q1_z, s', q2_z, q3, fun _ => q4 hb_z⟩
    refine Zgo hX 2 rfl True.intro ?_
    refine Zs_ine hX (List.cons_ne_nil _ _) (fun h13_z => ?_) (fun h13_z => ?_)
    · have e60 : K = 60 := by rw [hK, if_neg (fun q_z => h13_z (by rw [q_z]))]
      subst e60
      refine Zgo hX 4 rfl True.intro ?_
      refine Zs_sub (l' := [(4, .int (nI 0)), (3, .int (nI 60)), (0, .ref 33), (1, .int (nI (4 - j_z))), (2, .int (nI (5 - o_z)))]) rfl ?_
      exact L (60 + 1) 0 _ _ _ (by omega) (by omega) hqq (by omega) g2 hr_z
    · have e1_z : K = 1 := by rw [hK, if_pos (by have := Zeq (by omega) (by decide) h13_z; omega)]
      subst e1_z
      refine Zgo hX 5 rfl True.intro ?_
      refine Zs_sub (l' := [(4, .int (nI 0)), (3, .int (nI 1)), (0, .ref 33), (1, .int (nI (4 - j_z))), (2, .int (nI (5 - o_z)))]) rfl ?_
      exact L (1 + 1) 0 _ _ _ (by omega) (by omega) hqq (by omega) g2 hr_z
  · refine Zs_ne hX (List.cons_ne_nil _ _) (fun q_z => False.elim (by revert q_z; decide)) (fun _ => ?_)
    have hr_z : Zlvl c_z (Zpie c_z u_z o_z) (j_z + 1) p_z = (false, (Zlvl c_z (Zpie c_z u_z o_z) j_z p_z).2.1, []) := by rw [Zlvl, if_neg hb_z]
    refine Zgo hX 1 rfl True.intro ?_
    refine Zs_retz hX hE rfl (by first | exact Or.inl rfl | exact Or.inr rfl) ⟨Or.inr ⟨rfl, by rw [hr_z]; exact Bool.false_ne_true⟩, ?_⟩
    rw [hr_z]
    exact Zkq_f2 (Sc.rf M) hq_z


theorem k_levels (c_z : Nat → Nat) (n_z u_z o_z F : Nat) (hpie : Zkc 161 F [.int (nI (5 - o_z))] c_z n_z u_z (Zpie c_z u_z o_z)) : ∀ j_z, j_z ≤ 4 → Zkc 158 (F + 2 + 2 * j_z) [.int (nI (4 - j_z)), .int (nI (5 - o_z))] c_z n_z u_z (Zlvl c_z (Zpie c_z u_z o_z) (j_z + 1)) := by
  intro j_z
  induction j_z with
  | zero =>
    intro _ p_z st M hz_z hsp
    exact k_part c_z n_z u_z o_z 0 p_z st M hz_z hsp (F + 1) (by decide) (fun p_z st M hz_z hsp => k_between c_z n_z u_z o_z 0 p_z st M hz_z hsp F (by decide) (fun _ => hpie) (fun j1_z h_z => absurd h_z (by omega)))
  | succ j_z ih_z =>
    intro hj_z p_z st M hz_z hsp
    have ih_z := ih_z (by omega)
    refine k_part c_z n_z u_z o_z (j_z + 1) p_z st M hz_z hsp (F + 2 + 2 * j_z + 1) hj_z (fun p_z st M hz_z hsp => k_between c_z n_z u_z o_z (j_z + 1) p_z st M hz_z hsp (F + 2 + 2 * j_z) hj_z (fun h_z => absurd h_z (by omega)) (fun j1_z h_z => ?_))
    obtain rfl : j1_z = j_z := by omega
    exact ih_z
theorem k_pieces (c_z : Nat → Nat) (n_z u_z : Nat) : ∀ o_z, o_z ≤ 5 → Zkc 161 (2 + 12 * o_z) [.int (nI (5 - o_z))] c_z n_z u_z (Zpie c_z u_z o_z) := by
  intro o_z
  induction o_z with
  | zero =>
    intro _ p_z st M hz_z hsp
    exact k_piece c_z n_z u_z 0 p_z st M hz_z hsp 1 (by decide) (by decide) (fun o1 h_z => absurd h_z (by omega))
  | succ o_z ih_z =>
    intro ho p_z st M hz_z hsp
    have ih_z := ih_z (by omega)
    refine k_piece c_z n_z u_z (o_z + 1) p_z st M hz_z hsp (2 + 12 * o_z + 11) (by omega) ho (fun o1 h_z s_z hs_z hcs => ?_)
    obtain rfl : o1 = o_z := by omega
    exact k_opened c_z n_z u_z o1 p_z st M hz_z hsp s_z (2 + 12 * o1) (by omega) hs_z hcs ih_z (k_levels c_z n_z u_z o1 (2 + 12 * o1) ih_z 4 (by decide))
end
section
-- the reference reads
def Zst (c_z : Nat → Nat) (n_z u_z : Nat) : Prop := (∀ i_z, n_z ≤ i_z → c_z i_z = 256) ∧ (∀ i_z, i_z < n_z → c_z i_z < 256) ∧ n_z ≤ 60 ∧ u_z < 2
def Zspf (c_z : Nat → Nat) (n_z u_z p_z : Nat) (M : Zmem) : Prop := (Zst c_z n_z u_z ∧ p_z ≤ n_z) ∧ M 54 5 = nI n_z ∧ M 53 7 = nI u_z ∧ M 53 4 = nI p_z ∧ ∀ i_z, i_z < n_z → M 54 (334 + i_z) = nI (c_z i_z)
def Zsp (c_z : Nat → Nat) (n_z u_z o_z p_z st : Nat) (M : Zmem) : Prop := Zspf c_z n_z u_z p_z M ∧ M 53 5 = nI (5 - o_z) ∧ M 53 6 = nI st
def Zssg (L : List Zitm) (f_z : Nat → Int32) (st : Nat) : Prop := ∀ i_z, i_z < L.length → f_z (2 * (st + i_z)) = (L.getD i_z (0, 0)).1 ∧ f_z (2 * (st + i_z) + 1) = (L.getD i_z (0, 0)).2
def Zsq (c_z : Nat → Nat) (n_z u_z o_z st : Nat) (M M' : Zmem) (r_z : Zrs) : Prop := Sc M M' ∧ Zspf c_z n_z u_z r_z.2.1 M' ∧ (r_z.1 = true → Zsp c_z n_z u_z o_z r_z.2.1 (st + r_z.2.2.length) M' ∧ (∀ i_z, i_z < 2 * st → M' 57 i_z = M 57 i_z) ∧ Zssg r_z.2.2 (M' 57) st)
def Zsc (k_z fr : Nat) (c_z : Nat → Nat) (n_z u_z o_z : Nat) (R : Nat → Zrs) : Prop := ∀ (p_z st : Nat) (M : Zmem), Zsp c_z n_z u_z o_z p_z st M → st ≤ p_z → ZC k_z fr [.ref 53] M (fun r_z M' => Zb r_z ((R p_z).1 = true) ∧ Zsq c_z n_z u_z o_z st M M' (R p_z))
theorem Zssg_app {st : Nat} {A B : List Zitm} {f_z : Nat → Int32} (h1_z : Zssg A f_z st) (h2_z : Zssg B f_z (st + A.length)) : Zssg (A ++ B) f_z st := by
  intro i_z hi_z
  rw [Zap_getD]
  split
  · rename_i h_z; exact h1_z i_z h_z
  · rename_i h_z
    rw [List.length_append] at hi_z
    have := h2_z (i_z - A.length) (by omega)
    rw [show st + A.length + (i_z - A.length) = st + i_z by omega] at this
    exact this
theorem Zssg_kp {st : Nat} {A : List Zitm} {f_z f' : Nat → Int32} (h1_z : Zssg A f_z st) (h_z : ∀ i_z, i_z < 2 * (st + A.length) → f' i_z = f_z i_z) : Zssg A f' st := by
  intro i_z hi_z
  rw [h_z _ (by omega), h_z _ (by omega)]
  exact h1_z i_z hi_z
theorem Zssg_1 {st : Nat} {a_z : Zitm} {f_z : Nat → Int32} (h_z : f_z (2 * st) = a_z.1 ∧ f_z (2 * st + 1) = a_z.2) : Zssg [a_z] f_z st := by
  intro i_z hi_z
  obtain rfl : i_z = 0 := by simpa using hi_z
  exact h_z
/-- one step laid -/
def Zs1m (M : Zmem) (st : Nat) (w_z v_z : Int32) : Zmem := Zu (Zu (Zu M 57 (2 * st) w_z) 57 (2 * st + 1) v_z) 53 6 (nI (st + 1))
theorem Zs1m_k (M : Zmem) (st : Nat) (w_z v_z : Int32) (i_z : Nat) : Zs1m M st w_z v_z 57 i_z = if i_z = 2 * st + 1 then v_z else if i_z = 2 * st then w_z else M 57 i_z := by
  show (Zu (Zu M 57 (2 * st) w_z) 57 (2 * st + 1) v_z) 57 i_z = _
  rw [Zu_k, Zu_k]
  by_cases h_z : i_z = 2 * st + 1
  · rw [if_pos ⟨rfl, h_z⟩, if_pos h_z]
  · rw [if_neg (fun q_z => h_z q_z.2), if_neg h_z]
    by_cases h2_z : i_z = 2 * st
    · rw [if_pos ⟨rfl, h2_z⟩, if_pos h2_z]
    · rw [if_neg (fun q_z => h2_z q_z.2), if_neg h2_z]
theorem Zs1m_sc (M : Zmem) (st : Nat) (w_z v_z : Int32) : Sc M (Zs1m M st w_z v_z) := (((Sc.rf M).u _ rfl).u _ rfl).u _ rfl
section ZSP
variable {c_z : Nat → Nat} {n_z u_z o_z p_z st : Nat} {M M1 M2 M3 : Zmem}
theorem Zspf.at (h_z : Zspf c_z n_z u_z p_z M) (hp : p_z < n_z) : Zspf c_z n_z u_z (p_z + 1) (Zu M 53 4 (nI (p_z + 1))) := by
  obtain ⟨⟨h1_z, -⟩, h3_z, h4_z, -, h6_z⟩ := h_z
  exact ⟨⟨h1_z, hp⟩, h3_z, h4_z, rfl, h6_z⟩
theorem Zsp.at (h_z : Zsp c_z n_z u_z o_z p_z st M) (hp : p_z < n_z) : Zsp c_z n_z u_z o_z (p_z + 1) st (Zu M 53 4 (nI (p_z + 1))) := ⟨h_z.1.at hp, h_z.2.1, h_z.2.2⟩
theorem Zspf.s1 (h_z : Zspf c_z n_z u_z p_z M) (w_z v_z : Int32) : Zspf c_z n_z u_z p_z (Zs1m M st w_z v_z) := by
  obtain ⟨h1_z, h3_z, h4_z, h5_z, h6_z⟩ := h_z
  exact ⟨h1_z, h3_z, h4_z, h5_z, h6_z⟩
theorem Zsp.s1 (h_z : Zsp c_z n_z u_z o_z p_z st M) (w_z v_z : Int32) : Zsp c_z n_z u_z o_z p_z (st + 1) (Zs1m M st w_z v_z) := ⟨h_z.1.s1 w_z v_z, h_z.2.1, rfl⟩
theorem Zssg_s1 (M : Zmem) (st : Nat) (a_z : Zitm) : Zssg [a_z] (Zs1m M st a_z.1 a_z.2 57) st := Zssg_1 ⟨by rw [Zs1m_k, if_neg (by omega), if_pos rfl], by rw [Zs1m_k, if_pos rfl]⟩
theorem Zsq_1 {q_z : Nat} (a_z : Zitm) (hs_z : Sc M M1) (hc_z : ∀ i_z, M1 57 i_z = M 57 i_z) (h_z : Zsp c_z n_z u_z o_z q_z st M1) : Zsq c_z n_z u_z o_z st M (Zs1m M1 st a_z.1 a_z.2) (true, q_z, [a_z]) := by
  refine ⟨hs_z.tr (Zs1m_sc _ _ _ _), h_z.1.s1 _ _, fun _ => ⟨h_z.s1 _ _, fun i_z hi_z => ?_, Zssg_s1 _ _ _⟩⟩
  rw [Zs1m_k, if_neg (by omega), if_neg (by omega), hc_z]
theorem Zsq_f {q_z : Nat} {L : List Zitm} (hs_z : Sc M M1) (h_z : Zspf c_z n_z u_z q_z M1) : Zsq c_z n_z u_z o_z st M M1 (false, q_z, L) := ⟨hs_z, h_z, fun q_z => by cases q_z⟩
theorem Zsq_f2 {s2_z o2 : Nat} {r_z : Zrs} (hs_z : Sc M M1) (h_z : Zsq c_z n_z u_z o2 s2_z M1 M2 r_z) : Zsq c_z n_z u_z o_z st M M2 (false, r_z.2.1, []) := ⟨hs_z.tr h_z.1, h_z.2.1, fun q_z => by cases q_z⟩
theorem Zsq_pre {r_z : Zrs} (hs_z : Sc M M1) (hc_z : ∀ i_z, M1 57 i_z = M 57 i_z) (h_z : Zsq c_z n_z u_z o_z st M1 M2 r_z) : Zsq c_z n_z u_z o_z st M M2 r_z := by
  obtain ⟨h1_z, h3_z, h4_z⟩ := h_z
  refine ⟨hs_z.tr h1_z, h3_z, fun q_z => ?_⟩
  obtain ⟨g1, g2, g3⟩ := h4_z q_z
  exact ⟨g1, fun i_z hi_z => by rw [g2 i_z hi_z, hc_z], g3⟩
theorem Zsq_2 {r_z : Zrs} (h_z : Zsq c_z n_z u_z o_z st M M1 r_z) (hr_z : r_z.1 = true) : Zsq c_z n_z u_z o_z st M (Zs1m M1 (st + r_z.2.2.length) (nI 2) (nI 0)) (true, r_z.2.1, r_z.2.2 ++ [(nI 2, nI 0)]) := by
  obtain ⟨h1_z, h3_z, h4_z⟩ := h_z
  obtain ⟨g1, g2, g3⟩ := h4_z hr_z
  refine ⟨h1_z.tr (Zs1m_sc _ _ _ _), h3_z.s1 _ _, fun _ => ⟨?_, fun i_z hi_z => ?_, ?_⟩⟩
  · rw [List.length_append, ← Nat.add_assoc]
    exact g1.s1 _ _
  · rw [Zs1m_k, if_neg (by omega), if_neg (by omega), g2 i_z hi_z]
  · exact Zssg_app (Zssg_kp g3 (fun i_z hi_z => by rw [Zs1m_k, if_neg (by omega), if_neg (by omega)])) (Zssg_s1 M1 (st + r_z.2.2.length) (nI 2, nI 0))
theorem Zsq_3 {r_z : Zrs} {s_z q1_z : Nat} {L : List Zitm} (h_z : Zsq c_z n_z u_z o_z st M M1 (true, q1_z, L)) (hs_z : Sc M1 M2) (hc_z : ∀ i_z, M2 57 i_z = M1 57 i_z) (h' : Zsq c_z n_z u_z o_z (st + L.length) M2 M3 r_z) (hr_z : r_z.1 = true) :
    Zsq c_z n_z u_z o_z st M (Zs1m M3 (st + L.length + r_z.2.2.length) (nI 3) (nI s_z)) (true, r_z.2.1, L ++ (r_z.2.2 ++ [(nI 3, nI s_z)])) := by
  obtain ⟨h1_z, h3_z, h4_z⟩ := h_z
  obtain ⟨-, g2, g3⟩ := h4_z rfl
  obtain ⟨f1_z, f2_z, f3⟩ := h'
  obtain ⟨e1_z, e2_z, e3_z⟩ := f3 hr_z
  refine ⟨((h1_z.tr hs_z).tr f1_z).tr (Zs1m_sc _ _ _ _), f2_z.s1 _ _, fun _ => ⟨?_, fun i_z hi_z => ?_, ?_⟩⟩
  · rw [List.length_append, List.length_append, ← Nat.add_assoc, ← Nat.add_assoc]
    exact e1_z.s1 _ _
  · rw [Zs1m_k, if_neg (by omega), if_neg (by omega), e2_z i_z (by omega), hc_z, g2 i_z hi_z]
  · refine Zssg_app (Zssg_kp g3 (fun i_z hi_z => ?_)) (Zssg_app (Zssg_kp e3_z (fun i_z hi_z => ?_)) (Zssg_s1 M3 (st + L.length + r_z.2.2.length) (nI 3, nI s_z)))
    · show _ = M1 57 i_z
      have hi2 : i_z < 2 * (st + L.length) := hi_z
      rw [Zs1m_k, if_neg (by omega), if_neg (by omega), e2_z i_z hi2, hc_z]
    · rw [Zs1m_k, if_neg (by omega), if_neg (by omega)]
end ZSP
theorem Zlop_0 {nx : Nat → Zrs} {is : Nat → Bool} {c_z : Nat → Nat} (k_z p_z : Nat) (L : List Zitm) (h_z : ¬ is (c_z p_z) = true) : Zlop nx is c_z k_z p_z L = (true, p_z, L) := by
  cases k_z with
  | zero => rfl
  | succ k_z => rw [Zlop, if_neg h_z]
theorem Zsc_a53 (M : Zmem) (v_z : Int32) : Sc M (Zu M 53 4 v_z) := (Sc.rf M).u _ rfl
theorem Zspf.op {c_z : Nat → Nat} {n_z u_z p_z : Nat} {M : Zmem} (h_z : Zspf c_z n_z u_z p_z M) (hp : p_z < n_z) (v_z : Int32) : Zspf c_z n_z u_z (p_z + 1) (Zu (Zu M 53 5 v_z) 53 4 (nI (p_z + 1))) := by
  obtain ⟨⟨h1_z, -⟩, h3_z, h4_z, -, h6_z⟩ := h_z
  exact ⟨⟨h1_z, hp⟩, h3_z, h4_z, rfl, h6_z⟩
theorem Zspf.op2 {c_z : Nat → Nat} {n_z u_z p_z : Nat} {M : Zmem} (h_z : Zspf c_z n_z u_z p_z M) (v_z : Int32) : Zspf c_z n_z u_z p_z (Zu M 53 5 v_z) := by
  obtain ⟨h1_z, h3_z, h4_z, h5_z, h6_z⟩ := h_z
  exact ⟨h1_z, h3_z, h4_z, h5_z, h6_z⟩
theorem Zlvl_s {c_z : Nat → Nat} {pc : Nat → Zrs} (j_z p_z : Nat) : Zlvl c_z pc (j_z + 1) p_z = if (Zlvl c_z pc j_z p_z).1 = true then Zlop (Zlvl c_z pc j_z) (Zis (4 - j_z)) c_z (if j_z = 2 then 1 else 60) (Zlvl c_z pc j_z p_z).2.1 (Zlvl c_z pc j_z p_z).2.2 else (false, (Zlvl c_z pc j_z p_z).2.1, []) := rfl

set_option maxRecDepth 20000 in
set_option maxHeartbeats 1000000 in
theorem s_look (c_z : Nat → Nat) (n_z u_z p_z : Nat) (M : Zmem) (hz_z : Zspf c_z n_z u_z p_z M) : ZC 60 0 [.ref 53] M (fun r_z M' => r_z = some (.int (Zlk (c_z p_z))) ∧ M = M') := by
  refine ZC_of Zt60 Zk60 (Nat.le_of_ble_eq_true rfl) (by decide) rfl (fun X hX hE => ?_)
  obtain ⟨⟨hst0, hpn⟩, h5_z, hus, hat, htp⟩ := id hz_z
  obtain ⟨hcn, hcb, hn60, hu2⟩ := id hst0
  refine Zgo hX 6 rfl (Zin_n (by decide) (by decide)) ?_
  simp only [Zcl_n, Nat.reducePow, Nat.reduceLT]
  rw [hat, h5_z]
  refine Zs_ige hX (List.cons_ne_nil _ _) (fun h10_z => ?_) (fun h10_z => ?_)
  · have hge := (Zn_le (by omega) (by omega)).mp h10_z
    refine Zgo hX 1 rfl True.intro ?_
    refine Zs_ret hX hE rfl ⟨by rw [hcn p_z hge]; rfl, rfl⟩
  · have hlt : p_z < n_z := (Nat.lt_or_ge p_z n_z).elim id (fun q_z => absurd ((Zn_le (by omega) (by omega)).mpr q_z) h10_z)
    refine Zgo hX 8 rfl (by show vp_in _ _; rw [hat, nI_add]; exact Zin_n (by omega) (by decide)) ?_
    rw [hat, nI_add, Zcl_n (show 334 + p_z < 2 ^ 31 by omega), htp p_z hlt]
    refine Zs_ret hX hE rfl ⟨by rw [Zlk, if_pos (hcb p_z hlt)], rfl⟩

set_option maxRecDepth 20000 in
set_option maxHeartbeats 1000000 in
theorem s_isName (m_z u_z : Nat) (M : Zmem) (hus : M 53 7 = nI u_z) (hu2 : u_z < 2) : ZC 61 0 [.ref 53, .int (Zlk m_z)] M (fun r_z M' => Zb r_z (Znmb u_z m_z = true) ∧ M = M') := by
  refine ZC_of Zt61 Zk61 (Nat.le_of_ble_eq_true rfl) (by decide) rfl (fun X hX hE => ?_)
  refine Zgo hX 2 rfl True.intro ?_
  refine Zs_ieq hX (List.cons_ne_nil _ _) (fun h3_z => ?_) (fun h3_z => ?_)
  · have e_z := (Zlk_eq (by decide)).mp h3_z
    refine Zgo hX 1 rfl True.intro ?_
    refine Zs_retz hX hE rfl (by first | exact Or.inl rfl | exact Or.inr rfl) ⟨Or.inl ⟨rfl, Znmb_iff.mpr (by unfold Znm; omega)⟩, rfl⟩
  · have n1_z : m_z ≠ 119 := fun q_z => h3_z ((Zlk_eq (by decide)).mpr q_z)
    refine Zgo hX 2 rfl True.intro ?_
    refine Zs_ine hX (List.cons_ne_nil _ _) (fun h9_z => ?_) (fun h9_z => ?_)
    · have n2_z : m_z ≠ 116 := fun q_z => h9_z ((Zlk_eq (by decide)).mpr q_z)
      refine Zgo hX 3 rfl True.intro ?_
      rw [hus]
      refine Zs_ne hX (List.cons_ne_nil _ _) (fun h19_z => ?_) (fun h19_z => ?_)
      · have e0_z : u_z ≠ 0 := fun q_z => h19_z (by rw [q_z]; rfl)
        obtain rfl : u_z = 1 := by omega
        refine Zgo hX 1 rfl True.intro ?_
        refine Zs_ine hX (List.cons_ne_nil _ _) (fun h29_z => ?_) (fun h29_z => ?_)
        · have n3 : m_z ≠ 107 := fun q_z => h29_z ((Zlk_eq (by decide)).mpr q_z)
          refine Zgo hX 1 rfl True.intro ?_
          refine Zs_retz hX hE rfl (by first | exact Or.inl rfl | exact Or.inr rfl) ⟨Or.inr ⟨rfl, fun q_z => by have := Znmb_iff.mp q_z; unfold Znm at this; omega⟩, rfl⟩
        · have e_z := (Zlk_eq (by decide)).mp h29_z
          refine Zgo hX 2 rfl True.intro ?_
          refine Zs_retz hX hE rfl (by first | exact Or.inl rfl | exact Or.inr rfl) ⟨Or.inl ⟨rfl, Znmb_iff.mpr (by unfold Znm; omega)⟩, rfl⟩
      · obtain rfl : u_z = 0 := by have := (Zn_eq (a_z := u_z) (b_z := 0) (by omega) (by decide)).mp h19_z; exact this
        refine Zgo hX 2 rfl True.intro ?_
        refine Zs_ine hX (List.cons_ne_nil _ _) (fun h29_z => ?_) (fun h29_z => ?_)
        · have n3 : m_z ≠ 98 := fun q_z => h29_z ((Zlk_eq (by decide)).mpr q_z)
          refine Zgo hX 1 rfl True.intro ?_
          refine Zs_retz hX hE rfl (by first | exact Or.inl rfl | exact Or.inr rfl) ⟨Or.inr ⟨rfl, fun q_z => by have := Znmb_iff.mp q_z; unfold Znm at this; omega⟩, rfl⟩
        · have e_z := (Zlk_eq (by decide)).mp h29_z
          refine Zgo hX 2 rfl True.intro ?_
          refine Zs_retz hX hE rfl (by first | exact Or.inl rfl | exact Or.inr rfl) ⟨Or.inl ⟨rfl, Znmb_iff.mpr (by unfold Znm; omega)⟩, rfl⟩
    · have e_z := (Zlk_eq (by decide)).mp h9_z
      refine Zgo hX 1 rfl True.intro ?_
      refine Zs_retz hX hE rfl (by first | exact Or.inl rfl | exact Or.inr rfl) ⟨Or.inl ⟨rfl, Znmb_iff.mpr (by unfold Znm; omega)⟩, rfl⟩

set_option maxRecDepth 20000 in
set_option maxHeartbeats 1000000 in
theorem s_step1 (st : Nat) (w_z v_z : Int32) (M : Zmem) (hs_z : M 53 6 = nI st) (h61_z : st ≤ 61) : ZC 62 0 [.ref 53, .int w_z, .int v_z] M (fun r_z M' => r_z = none ∧ Zs1m M st w_z v_z = M') := by
  refine ZC_of Zt62 Zk62 (Nat.le_of_ble_eq_true rfl) (by decide) rfl (fun X hX hE => ?_)
  refine Zgo hX 7 rfl True.intro ?_
  rw [hs_z, pk_mul]
  refine Zgo hX 1 rfl (Zin_n (by omega) (by decide)) ?_
  rw [Zcl_n (show 2 * st < 2 ^ 31 by omega)]
  refine Zgo hX 9 rfl True.intro ?_
  rw [show (Zu M 57 (2 * st) w_z) 53 6 = nI st from hs_z, pk_mul, nI_add]
  refine Zgo hX 1 rfl (Zin_n (by omega) (by decide)) ?_
  rw [Zcl_n (show 2 * st + 1 < 2 ^ 31 by omega)]
  refine Zgo hX 6 rfl True.intro ?_
  rw [show (Zu (Zu M 57 (2 * st) w_z) 57 (2 * st + 1) v_z) 53 6 = nI st from hs_z, nI_add]
  refine Zs_retv hX hE rfl ⟨rfl, rfl⟩

set_option maxRecDepth 20000 in
set_option maxHeartbeats 1000000 in
theorem s_opens (o_z p_z : Nat) (M : Zmem) (ho : o_z ≤ 5) (hop : M 53 5 = nI (5 - o_z)) (hat : M 53 4 = nI p_z) : ZC 68 0 [.ref 53] M (fun r_z M' => (∃ o1, o_z = o1 + 1 ∧ r_z = some (.int (nI 1)) ∧ Zu (Zu M 53 5 (nI (5 - o1))) 53 4 (nI (p_z + 1)) = M') ∨ (o_z = 0 ∧ r_z = some (.int (nI 0)) ∧ M = M')) := by
  refine ZC_of Zt68 Zk68 (Nat.le_of_ble_eq_true rfl) (by decide) rfl (fun X hX hE => ?_)
  refine Zgo hX 3 rfl True.intro ?_
  rw [hop]
  refine Zs_ine hX (List.cons_ne_nil _ _) (fun h5_z => ?_) (fun h5_z => ?_)
  · obtain ⟨o1, rfl⟩ : ∃ o1, o_z = o1 + 1 := ⟨o_z - 1, by
      rcases Nat.eq_zero_or_pos o_z with h_z | h_z
      · subst h_z; exact absurd rfl h5_z
      · omega⟩
    refine Zgo hX 6 rfl True.intro ?_
    rw [hop, nI_add, show 5 - (o1 + 1) + 1 = 5 - o1 by omega]
    refine Zgo hX 6 rfl True.intro ?_
    rw [show (Zu M 53 5 (nI (5 - o1))) 53 4 = nI p_z from hat, nI_add]
    refine Zgo hX 1 rfl True.intro ?_
    refine Zs_retz hX hE rfl (by first | exact Or.inl rfl | exact Or.inr rfl) (Or.inl ⟨o1, rfl, rfl, rfl⟩)
  · obtain rfl : o_z = 0 := by have := Zeq (by omega) (by decide) h5_z; omega
    refine Zgo hX 1 rfl True.intro ?_
    refine Zs_retz hX hE rfl (by first | exact Or.inl rfl | exact Or.inr rfl) (Or.inr ⟨rfl, rfl, rfl⟩)

set_option maxRecDepth 20000 in
set_option maxHeartbeats 1000000 in
theorem s_product (c_z : Nat → Nat) (n_z u_z o_z p_z st : Nat) (M : Zmem) (hz_z : Zsp c_z n_z u_z o_z p_z st M) (hsp : st ≤ p_z) (pc : Nat → Zrs) (F : Nat) (hg_z : ∀ p_z, p_z ≤ n_z → Zgd u_z n_z p_z (Zlvl c_z pc 0 p_z)) (hn_z : Zsc 69 F c_z n_z u_z o_z (Zlvl c_z pc 0)) : ZC 67 (F + 1) [.ref 53] M (fun r_z M' => Zb r_z ((Zlvl c_z pc 1 p_z).1 = true) ∧ Zsq c_z n_z u_z o_z st M M' (Zlvl c_z pc 1 p_z)) := by
  refine ZC_of Zt67 Zk67 (Nat.le_of_ble_eq_true rfl) (by decide) rfl (fun X hX hE => ?_)
  obtain ⟨⟨⟨hst0, hpn⟩, h5_z, hus, hat, htp⟩, hop, hsz⟩ := id hz_z
  obtain ⟨hcn, hcb, hn60, hu2⟩ := id hst0
  have L9 : ∀ (q_z k_z p1 : Nat) (L : List Zitm) (M1 : Zmem), 60 - p1 < q_z → Zsq c_z n_z u_z o_z st M M1 (true, p1, L) → st + L.length ≤ p1 → p1 ≤ n_z → 60 ≤ p1 + k_z → Zlvl c_z pc 1 p_z = Zlop (Zlvl c_z pc 0) (Zis 4) c_z k_z p1 L → ZP X Zt67 (Zsf Zt67 9) [(0, .ref 53)] [] M1 := by
    intro q_z
    induction q_z with
    | zero => intro k_z p1 L M1 hq_z; exact absurd hq_z (Nat.not_lt_zero _)
    | succ q_z ih_z =>
      intro k_z p1 L M1 hlq hq_z hst hp1 hk_z hr_z
      have hz1 := (hq_z.2.2 rfl).1
      have LB : ∀ (l : List (Nat × Value)), Zis 4 (c_z p1) = true → l = [(0, .ref 53)] → ZP X Zt67 (Zsf Zt67 36) l [] M1 := by
        rintro l his rfl
        have hsg := Zis_sg (by decide) his
        have hsl := Zsg_lt hsg
        have hlt : p1 < n_z := Zc_lt hcn (by omega)
        obtain ⟨k1_z, rfl⟩ : ∃ k1_z, k_z = k1_z + 1 := ⟨k_z - 1, by omega⟩
        rw [Zlop, if_pos his] at hr_z
        refine Zgo hX 1 rfl True.intro ?_
        refine Zs_callv hX (List.cons_ne_nil _ _) (s_look c_z n_z u_z _ _ hz1.1) (by first | decide | omega) (by decide) rfl rfl rfl (by decide) (Nat.le_of_ble_eq_true rfl) (fun r_z M' hc_z => ?_)
        obtain ⟨rfl, rfl⟩ := hc_z
        refine Zgo hX 8 rfl True.intro ?_
        rw [hz1.1.2.2.2.1, nI_add]
        obtain ⟨g1, g2, g3⟩ := hg_z (p1 + 1) hlt
        refine Zs_callv hX (List.cons_ne_nil _ _) (hn_z (p1 + 1) (st + L.length) _ (hz1.at hlt) (by omega)) (by first | decide | omega) (by decide) rfl rfl rfl (by decide) (Nat.le_of_ble_eq_true rfl) (fun r_z M' hc_z => ?_)
        rcases hc_z with ⟨⟨rfl, hb_z⟩ | ⟨rfl, hb_z⟩, hq2⟩
        · refine Zs_ne hX (List.cons_ne_nil _ _) (fun _ => ?_) (fun q_z => False.elim (by revert q_z; decide))
          rw [if_pos hb_z] at hr_z
          obtain ⟨g4, g5, -⟩ := g3 hb_z
          refine Zgo hX 3 rfl True.intro ?_
          rw [Zlk_lt (show c_z p1 < 128 by omega)]
          refine Zs_callv hX (List.cons_ne_nil _ _) (s_step1 _ _ _ _ ((hq2.2.2 hb_z).1.2.2) (by omega)) (by first | decide | omega) (by decide) rfl rfl rfl (by decide) (Nat.le_of_ble_eq_true rfl) (fun r_z M' hc_z => ?_)
          obtain ⟨rfl, rfl⟩ := hc_z
          have hq3 := Zsq_3 (s_z := c_z p1) hq_z (Zsc_a53 _ _) (fun _ => rfl) hq2 hb_z
          refine Zgo hX 1 rfl True.intro ?_
          refine Zs_sub (l' := [(0, .ref 53)]) rfl ?_
          exact ih_z k1_z _ _ _ (by omega) hq3 (by simp; omega) g2 (by omega) hr_z
        · refine Zs_ne hX (List.cons_ne_nil _ _) (fun q_z => False.elim (by revert q_z; decide)) (fun _ => ?_)
          rw [if_neg hb_z] at hr_z
          refine Zgo hX 1 rfl True.intro ?_
          refine Zs_retz hX hE rfl (by first | exact Or.inl rfl | exact Or.inr rfl) ⟨Or.inr ⟨rfl, by rw [hr_z]; exact Bool.false_ne_true⟩, ?_⟩
          rw [hr_z]
          exact Zsq_f2 (hq_z.1.tr (Zsc_a53 _ _)) hq2
      refine Zgo hX 1 rfl True.intro ?_
      refine Zs_callv hX (List.cons_ne_nil _ _) (s_look c_z n_z u_z _ _ hz1.1) (by first | decide | omega) (by decide) rfl rfl rfl (by decide) (Nat.le_of_ble_eq_true rfl) (fun r_z M' hc_z => ?_)
      obtain ⟨rfl, rfl⟩ := hc_z
      refine Zgo hX 1 rfl True.intro ?_
      refine Zs_ieq hX (List.cons_ne_nil _ _) (fun h15_z => ?_) (fun h15_z => ?_)
      · exact LB _ (by rw [(Zlk_eq (by decide)).mp h15_z]; rfl) rfl
      · refine Zgo hX 1 rfl True.intro ?_
        refine Zs_callv hX (List.cons_ne_nil _ _) (s_look c_z n_z u_z _ _ hz1.1) (by first | decide | omega) (by decide) rfl rfl rfl (by decide) (Nat.le_of_ble_eq_true rfl) (fun r_z M' hc_z => ?_)
        obtain ⟨rfl, rfl⟩ := hc_z
        refine Zgo hX 1 rfl True.intro ?_
        refine Zs_ieq hX (List.cons_ne_nil _ _) (fun h24_z => ?_) (fun h24_z => ?_)
        · exact LB _ (by rw [(Zlk_eq (by decide)).mp h24_z]; rfl) rfl
        · refine Zgo hX 1 rfl True.intro ?_
          refine Zs_callv hX (List.cons_ne_nil _ _) (s_look c_z n_z u_z _ _ hz1.1) (by first | decide | omega) (by decide) rfl rfl rfl (by decide) (Nat.le_of_ble_eq_true rfl) (fun r_z M' hc_z => ?_)
          obtain ⟨rfl, rfl⟩ := hc_z
          refine Zgo hX 1 rfl True.intro ?_
          refine Zs_ine hX (List.cons_ne_nil _ _) (fun h33_z => ?_) (fun h33_z => ?_)
          · have his : ¬ Zis 4 (c_z p1) = true := (fun q_z => by simp only [Zis, Bool.or_eq_true, beq_iff_eq] at q_z; rcases q_z with (q_z | q_z) | q_z <;> first | exact h15_z ((Zlk_eq (by decide)).mpr q_z) | exact h24_z ((Zlk_eq (by decide)).mpr q_z) | exact h33_z ((Zlk_eq (by decide)).mpr q_z))
            have hr2 := hr_z.trans (Zlop_0 k_z p1 L his)
            refine Zgo hX 1 rfl True.intro ?_
            refine Zs_retz hX hE rfl (by first | exact Or.inl rfl | exact Or.inr rfl) ⟨Or.inl ⟨rfl, by rw [hr2]⟩, by rw [hr2]; exact hq_z⟩
          · exact LB _ (by rw [(Zlk_eq (by decide)).mp h33_z]; rfl) rfl
  refine Zgo hX 1 rfl True.intro ?_
  refine Zs_callv hX (List.cons_ne_nil _ _) (hn_z p_z st _ hz_z hsp) (by first | decide | omega) (by decide) rfl rfl rfl (by decide) (Nat.le_of_ble_eq_true rfl) (fun r_z M' hc_z => ?_)
  rcases hc_z with ⟨⟨rfl, hb_z⟩ | ⟨rfl, hb_z⟩, hq_z⟩
  · refine Zs_ne hX (List.cons_ne_nil _ _) (fun _ => ?_) (fun q_z => False.elim (by revert q_z; decide))
    obtain ⟨g1, g2, g3⟩ := hg_z p_z hpn
    obtain ⟨g4, g5, -⟩ := g3 hb_z
    have hqq : Zsq c_z n_z u_z o_z st M M' (true, (Zlvl c_z pc 0 p_z).2.1, (Zlvl c_z pc 0 p_z).2.2) := ⟨hq_z.1, hq_z.2.1, fun _ => hq_z.2.2 hb_z⟩
    exact L9 61 60 _ _ _ (by omega) hqq (by omega) g2 (by omega) (by rw [Zlvl_s 0 p_z, if_pos hb_z]; rfl)
  · refine Zs_ne hX (List.cons_ne_nil _ _) (fun q_z => False.elim (by revert q_z; decide)) (fun _ => ?_)
    have hr_z : Zlvl c_z pc 1 p_z = (false, (Zlvl c_z pc 0 p_z).2.1, []) := by rw [Zlvl_s 0 p_z, if_neg hb_z]
    refine Zgo hX 1 rfl True.intro ?_
    refine Zs_retz hX hE rfl (by first | exact Or.inl rfl | exact Or.inr rfl) ⟨Or.inr ⟨rfl, by rw [hr_z]; exact Bool.false_ne_true⟩, ?_⟩
    rw [hr_z]
    exact Zsq_f2 (Sc.rf M) hq_z

set_option maxRecDepth 20000 in
set_option maxHeartbeats 1000000 in
theorem s_sum (c_z : Nat → Nat) (n_z u_z o_z p_z st : Nat) (M : Zmem) (hz_z : Zsp c_z n_z u_z o_z p_z st M) (hsp : st ≤ p_z) (pc : Nat → Zrs) (F : Nat) (hg_z : ∀ p_z, p_z ≤ n_z → Zgd u_z n_z p_z (Zlvl c_z pc 1 p_z)) (hn_z : Zsc 67 F c_z n_z u_z o_z (Zlvl c_z pc 1)) : ZC 66 (F + 1) [.ref 53] M (fun r_z M' => Zb r_z ((Zlvl c_z pc 2 p_z).1 = true) ∧ Zsq c_z n_z u_z o_z st M M' (Zlvl c_z pc 2 p_z)) := by
  refine ZC_of Zt66 Zk66 (Nat.le_of_ble_eq_true rfl) (by decide) rfl (fun X hX hE => ?_)
  obtain ⟨⟨⟨hst0, hpn⟩, h5_z, hus, hat, htp⟩, hop, hsz⟩ := id hz_z
  obtain ⟨hcn, hcb, hn60, hu2⟩ := id hst0
  have L9 : ∀ (q_z k_z p1 : Nat) (L : List Zitm) (M1 : Zmem), 60 - p1 < q_z → Zsq c_z n_z u_z o_z st M M1 (true, p1, L) → st + L.length ≤ p1 → p1 ≤ n_z → 60 ≤ p1 + k_z → Zlvl c_z pc 2 p_z = Zlop (Zlvl c_z pc 1) (Zis 3) c_z k_z p1 L → ZP X Zt66 (Zsf Zt66 9) [(0, .ref 53)] [] M1 := by
    intro q_z
    induction q_z with
    | zero => intro k_z p1 L M1 hq_z; exact absurd hq_z (Nat.not_lt_zero _)
    | succ q_z ih_z =>
      intro k_z p1 L M1 hlq hq_z hst hp1 hk_z hr_z
      have hz1 := (hq_z.2.2 rfl).1
      have LB : ∀ (l : List (Nat × Value)), Zis 3 (c_z p1) = true → l = [(0, .ref 53)] → ZP X Zt66 (Zsf Zt66 27) l [] M1 := by
        rintro l his rfl
        have hsg := Zis_sg (by decide) his
        have hsl := Zsg_lt hsg
        have hlt : p1 < n_z := Zc_lt hcn (by omega)
        obtain ⟨k1_z, rfl⟩ : ∃ k1_z, k_z = k1_z + 1 := ⟨k_z - 1, by omega⟩
        rw [Zlop, if_pos his] at hr_z
        refine Zgo hX 1 rfl True.intro ?_
        refine Zs_callv hX (List.cons_ne_nil _ _) (s_look c_z n_z u_z _ _ hz1.1) (by first | decide | omega) (by decide) rfl rfl rfl (by decide) (Nat.le_of_ble_eq_true rfl) (fun r_z M' hc_z => ?_)
        obtain ⟨rfl, rfl⟩ := hc_z
        refine Zgo hX 8 rfl True.intro ?_
        rw [hz1.1.2.2.2.1, nI_add]
        obtain ⟨g1, g2, g3⟩ := hg_z (p1 + 1) hlt
        refine Zs_callv hX (List.cons_ne_nil _ _) (hn_z (p1 + 1) (st + L.length) _ (hz1.at hlt) (by omega)) (by first | decide | omega) (by decide) rfl rfl rfl (by decide) (Nat.le_of_ble_eq_true rfl) (fun r_z M' hc_z => ?_)
        rcases hc_z with ⟨⟨rfl, hb_z⟩ | ⟨rfl, hb_z⟩, hq2⟩
        · refine Zs_ne hX (List.cons_ne_nil _ _) (fun _ => ?_) (fun q_z => False.elim (by revert q_z; decide))
          rw [if_pos hb_z] at hr_z
          obtain ⟨g4, g5, -⟩ := g3 hb_z
          refine Zgo hX 3 rfl True.intro ?_
          rw [Zlk_lt (show c_z p1 < 128 by omega)]
          refine Zs_callv hX (List.cons_ne_nil _ _) (s_step1 _ _ _ _ ((hq2.2.2 hb_z).1.2.2) (by omega)) (by first | decide | omega) (by decide) rfl rfl rfl (by decide) (Nat.le_of_ble_eq_true rfl) (fun r_z M' hc_z => ?_)
          obtain ⟨rfl, rfl⟩ := hc_z
          have hq3 := Zsq_3 (s_z := c_z p1) hq_z (Zsc_a53 _ _) (fun _ => rfl) hq2 hb_z
          refine Zgo hX 1 rfl True.intro ?_
          refine Zs_sub (l' := [(0, .ref 53)]) rfl ?_
          exact ih_z k1_z _ _ _ (by omega) hq3 (by simp; omega) g2 (by omega) hr_z
        · refine Zs_ne hX (List.cons_ne_nil _ _) (fun q_z => False.elim (by revert q_z; decide)) (fun _ => ?_)
          rw [if_neg hb_z] at hr_z
          refine Zgo hX 1 rfl True.intro ?_
          refine Zs_retz hX hE rfl (by first | exact Or.inl rfl | exact Or.inr rfl) ⟨Or.inr ⟨rfl, by rw [hr_z]; exact Bool.false_ne_true⟩, ?_⟩
          rw [hr_z]
          exact Zsq_f2 (hq_z.1.tr (Zsc_a53 _ _)) hq2
      refine Zgo hX 1 rfl True.intro ?_
      refine Zs_callv hX (List.cons_ne_nil _ _) (s_look c_z n_z u_z _ _ hz1.1) (by first | decide | omega) (by decide) rfl rfl rfl (by decide) (Nat.le_of_ble_eq_true rfl) (fun r_z M' hc_z => ?_)
      obtain ⟨rfl, rfl⟩ := hc_z
      refine Zgo hX 1 rfl True.intro ?_
      refine Zs_ieq hX (List.cons_ne_nil _ _) (fun h15_z => ?_) (fun h15_z => ?_)
      · exact LB _ (by rw [(Zlk_eq (by decide)).mp h15_z]; rfl) rfl
      · refine Zgo hX 1 rfl True.intro ?_
        refine Zs_callv hX (List.cons_ne_nil _ _) (s_look c_z n_z u_z _ _ hz1.1) (by first | decide | omega) (by decide) rfl rfl rfl (by decide) (Nat.le_of_ble_eq_true rfl) (fun r_z M' hc_z => ?_)
        obtain ⟨rfl, rfl⟩ := hc_z
        refine Zgo hX 1 rfl True.intro ?_
        refine Zs_ine hX (List.cons_ne_nil _ _) (fun h24_z => ?_) (fun h24_z => ?_)
        · have his : ¬ Zis 3 (c_z p1) = true := (fun q_z => by simp only [Zis, Bool.or_eq_true, beq_iff_eq] at q_z; rcases q_z with q_z | q_z <;> first | exact h15_z ((Zlk_eq (by decide)).mpr q_z) | exact h24_z ((Zlk_eq (by decide)).mpr q_z))
          have hr2 := hr_z.trans (Zlop_0 k_z p1 L his)
          refine Zgo hX 1 rfl True.intro ?_
          refine Zs_retz hX hE rfl (by first | exact Or.inl rfl | exact Or.inr rfl) ⟨Or.inl ⟨rfl, by rw [hr2]⟩, by rw [hr2]; exact hq_z⟩
        · exact LB _ (by rw [(Zlk_eq (by decide)).mp h24_z]; rfl) rfl
  refine Zgo hX 1 rfl True.intro ?_
  refine Zs_callv hX (List.cons_ne_nil _ _) (hn_z p_z st _ hz_z hsp) (by first | decide | omega) (by decide) rfl rfl rfl (by decide) (Nat.le_of_ble_eq_true rfl) (fun r_z M' hc_z => ?_)
  rcases hc_z with ⟨⟨rfl, hb_z⟩ | ⟨rfl, hb_z⟩, hq_z⟩
  · refine Zs_ne hX (List.cons_ne_nil _ _) (fun _ => ?_) (fun q_z => False.elim (by revert q_z; decide))
    obtain ⟨g1, g2, g3⟩ := hg_z p_z hpn
    obtain ⟨g4, g5, -⟩ := g3 hb_z
    have hqq : Zsq c_z n_z u_z o_z st M M' (true, (Zlvl c_z pc 1 p_z).2.1, (Zlvl c_z pc 1 p_z).2.2) := ⟨hq_z.1, hq_z.2.1, fun _ => hq_z.2.2 hb_z⟩
    exact L9 61 60 _ _ _ (by omega) hqq (by omega) g2 (by omega) (by rw [Zlvl_s 1 p_z, if_pos hb_z]; rfl)
  · refine Zs_ne hX (List.cons_ne_nil _ _) (fun q_z => False.elim (by revert q_z; decide)) (fun _ => ?_)
    have hr_z : Zlvl c_z pc 2 p_z = (false, (Zlvl c_z pc 1 p_z).2.1, []) := by rw [Zlvl_s 1 p_z, if_neg hb_z]
    refine Zgo hX 1 rfl True.intro ?_
    refine Zs_retz hX hE rfl (by first | exact Or.inl rfl | exact Or.inr rfl) ⟨Or.inr ⟨rfl, by rw [hr_z]; exact Bool.false_ne_true⟩, ?_⟩
    rw [hr_z]
    exact Zsq_f2 (Sc.rf M) hq_z

set_option maxRecDepth 20000 in
set_option maxHeartbeats 1000000 in
theorem s_compared (c_z : Nat → Nat) (n_z u_z o_z p_z st : Nat) (M : Zmem) (hz_z : Zsp c_z n_z u_z o_z p_z st M) (hsp : st ≤ p_z) (pc : Nat → Zrs) (F : Nat) (hg_z : ∀ p_z, p_z ≤ n_z → Zgd u_z n_z p_z (Zlvl c_z pc 2 p_z)) (hn_z : Zsc 66 F c_z n_z u_z o_z (Zlvl c_z pc 2)) : ZC 65 (F + 1) [.ref 53] M (fun r_z M' => Zb r_z ((Zlvl c_z pc 3 p_z).1 = true) ∧ Zsq c_z n_z u_z o_z st M M' (Zlvl c_z pc 3 p_z)) := by
  refine ZC_of Zt65 Zk65 (Nat.le_of_ble_eq_true rfl) (by decide) rfl (fun X hX hE => ?_)
  obtain ⟨⟨⟨hst0, hpn⟩, h5_z, hus, hat, htp⟩, hop, hsz⟩ := id hz_z
  obtain ⟨hcn, hcb, hn60, hu2⟩ := id hst0
  have L9 : ∀ (q_z k_z p1 : Nat) (L : List Zitm) (M1 : Zmem), 60 - p1 < q_z → Zsq c_z n_z u_z o_z st M M1 (true, p1, L) → st + L.length ≤ p1 → p1 ≤ n_z → k_z = 1 → Zlvl c_z pc 3 p_z = Zlop (Zlvl c_z pc 2) (Zis 2) c_z k_z p1 L → ZP X Zt65 (Zsf Zt65 9) [(0, .ref 53)] [] M1 := by
    intro q_z
    induction q_z with
    | zero => intro k_z p1 L M1 hq_z; exact absurd hq_z (Nat.not_lt_zero _)
    | succ q_z ih_z =>
      intro k_z p1 L M1 hlq hq_z hst hp1 hk_z hr_z
      have hz1 := (hq_z.2.2 rfl).1
      have LB : ∀ (l : List (Nat × Value)), Zis 2 (c_z p1) = true → (l = [(1, .int (Zlk (c_z p1))), (0, .ref 53)]) → ZP X Zt65 (Zsf Zt65 34) l [] M1 := by
        rintro l his rfl
        have hsg := Zis_sg (by decide) his
        have hsl := Zsg_lt hsg
        have hlt : p1 < n_z := Zc_lt hcn (by omega)
        obtain ⟨k1_z, rfl⟩ : ∃ k1_z, k_z = k1_z + 1 := ⟨k_z - 1, by omega⟩
        rw [Zlop, if_pos his] at hr_z
        refine Zgo hX 7 rfl True.intro ?_
        rw [hz1.1.2.2.2.1, nI_add]
        obtain ⟨g1, g2, g3⟩ := hg_z (p1 + 1) hlt
        refine Zs_callv hX (List.cons_ne_nil _ _) (hn_z (p1 + 1) (st + L.length) _ (hz1.at hlt) (by omega)) (by first | decide | omega) (by decide) rfl rfl rfl (by decide) (Nat.le_of_ble_eq_true rfl) (fun r_z M' hc_z => ?_)
        rcases hc_z with ⟨⟨rfl, hb_z⟩ | ⟨rfl, hb_z⟩, hq2⟩
        · refine Zs_ne hX (List.cons_ne_nil _ _) (fun _ => ?_) (fun q_z => False.elim (by revert q_z; decide))
          rw [if_pos hb_z] at hr_z
          obtain ⟨g4, g5, -⟩ := g3 hb_z
          refine Zgo hX 3 rfl True.intro ?_
          rw [Zlk_lt (show c_z p1 < 128 by omega)]
          refine Zs_callv hX (List.cons_ne_nil _ _) (s_step1 _ _ _ _ ((hq2.2.2 hb_z).1.2.2) (by omega)) (by first | decide | omega) (by decide) rfl rfl rfl (by decide) (Nat.le_of_ble_eq_true rfl) (fun r_z M' hc_z => ?_)
          obtain ⟨rfl, rfl⟩ := hc_z
          have hq3 := Zsq_3 (s_z := c_z p1) hq_z (Zsc_a53 _ _) (fun _ => rfl) hq2 hb_z
          refine Zgo hX 1 rfl True.intro ?_
          obtain rfl : k1_z = 0 := by omega
          rw [Zlop] at hr_z
          refine Zs_retz hX hE rfl (by first | exact Or.inl rfl | exact Or.inr rfl) ⟨Or.inl ⟨rfl, by rw [hr_z]⟩, by rw [hr_z]; exact hq3⟩
        · refine Zs_ne hX (List.cons_ne_nil _ _) (fun q_z => False.elim (by revert q_z; decide)) (fun _ => ?_)
          rw [if_neg hb_z] at hr_z
          refine Zgo hX 1 rfl True.intro ?_
          refine Zs_retz hX hE rfl (by first | exact Or.inl rfl | exact Or.inr rfl) ⟨Or.inr ⟨rfl, by rw [hr_z]; exact Bool.false_ne_true⟩, ?_⟩
          rw [hr_z]
          exact Zsq_f2 (hq_z.1.tr (Zsc_a53 _ _)) hq2
      refine Zgo hX 1 rfl True.intro ?_
      refine Zs_callv hX (List.cons_ne_nil _ _) (s_look c_z n_z u_z _ _ hz1.1) (by first | decide | omega) (by decide) rfl rfl rfl (by decide) (Nat.le_of_ble_eq_true rfl) (fun r_z M' hc_z => ?_)
      obtain ⟨rfl, rfl⟩ := hc_z
      refine Zgo hX 3 rfl True.intro ?_
      refine Zs_ieq hX (List.cons_ne_nil _ _) (fun h17_z => ?_) (fun h17_z => ?_)
      · exact LB _ (by rw [(Zlk_eq (by decide)).mp h17_z]; rfl) rfl
      · refine Zgo hX 2 rfl True.intro ?_
        refine Zs_ieq hX (List.cons_ne_nil _ _) (fun h23_z => ?_) (fun h23_z => ?_)
        · exact LB _ (by rw [(Zlk_eq (by decide)).mp h23_z]; rfl) rfl
        · refine Zgo hX 2 rfl True.intro ?_
          refine Zs_ieq hX (List.cons_ne_nil _ _) (fun h29_z => ?_) (fun h29_z => ?_)
          · exact LB _ (by rw [(Zlk_eq (by decide)).mp h29_z]; rfl) rfl
          · have his : ¬ Zis 2 (c_z p1) = true := (fun q_z => by simp only [Zis, Bool.or_eq_true, beq_iff_eq] at q_z; rcases q_z with (q_z | q_z) | q_z <;> first | exact h17_z ((Zlk_eq (by decide)).mpr q_z) | exact h23_z ((Zlk_eq (by decide)).mpr q_z) | exact h29_z ((Zlk_eq (by decide)).mpr q_z))
            have hr2 := hr_z.trans (Zlop_0 k_z p1 L his)
            refine Zgo hX 1 rfl True.intro ?_
            refine Zs_retz hX hE rfl (by first | exact Or.inl rfl | exact Or.inr rfl) ⟨Or.inl ⟨rfl, by rw [hr2]⟩, by rw [hr2]; exact hq_z⟩
  refine Zgo hX 1 rfl True.intro ?_
  refine Zs_callv hX (List.cons_ne_nil _ _) (hn_z p_z st _ hz_z hsp) (by first | decide | omega) (by decide) rfl rfl rfl (by decide) (Nat.le_of_ble_eq_true rfl) (fun r_z M' hc_z => ?_)
  rcases hc_z with ⟨⟨rfl, hb_z⟩ | ⟨rfl, hb_z⟩, hq_z⟩
  · refine Zs_ne hX (List.cons_ne_nil _ _) (fun _ => ?_) (fun q_z => False.elim (by revert q_z; decide))
    obtain ⟨g1, g2, g3⟩ := hg_z p_z hpn
    obtain ⟨g4, g5, -⟩ := g3 hb_z
    have hqq : Zsq c_z n_z u_z o_z st M M' (true, (Zlvl c_z pc 2 p_z).2.1, (Zlvl c_z pc 2 p_z).2.2) := ⟨hq_z.1, hq_z.2.1, fun _ => hq_z.2.2 hb_z⟩
    exact L9 61 1 _ _ _ (by omega) hqq (by omega) g2 rfl (by rw [Zlvl_s 2 p_z, if_pos hb_z]; rfl)
  · refine Zs_ne hX (List.cons_ne_nil _ _) (fun q_z => False.elim (by revert q_z; decide)) (fun _ => ?_)
    have hr_z : Zlvl c_z pc 3 p_z = (false, (Zlvl c_z pc 2 p_z).2.1, []) := by rw [Zlvl_s 2 p_z, if_neg hb_z]
    refine Zgo hX 1 rfl True.intro ?_
    refine Zs_retz hX hE rfl (by first | exact Or.inl rfl | exact Or.inr rfl) ⟨Or.inr ⟨rfl, by rw [hr_z]; exact Bool.false_ne_true⟩, ?_⟩
    rw [hr_z]
    exact Zsq_f2 (Sc.rf M) hq_z

set_option maxRecDepth 20000 in
set_option maxHeartbeats 1000000 in
theorem s_both (c_z : Nat → Nat) (n_z u_z o_z p_z st : Nat) (M : Zmem) (hz_z : Zsp c_z n_z u_z o_z p_z st M) (hsp : st ≤ p_z) (pc : Nat → Zrs) (F : Nat) (hg_z : ∀ p_z, p_z ≤ n_z → Zgd u_z n_z p_z (Zlvl c_z pc 3 p_z)) (hn_z : Zsc 65 F c_z n_z u_z o_z (Zlvl c_z pc 3)) : ZC 64 (F + 1) [.ref 53] M (fun r_z M' => Zb r_z ((Zlvl c_z pc 4 p_z).1 = true) ∧ Zsq c_z n_z u_z o_z st M M' (Zlvl c_z pc 4 p_z)) := by
  refine ZC_of Zt64 Zk64 (Nat.le_of_ble_eq_true rfl) (by decide) rfl (fun X hX hE => ?_)
  obtain ⟨⟨⟨hst0, hpn⟩, h5_z, hus, hat, htp⟩, hop, hsz⟩ := id hz_z
  obtain ⟨hcn, hcb, hn60, hu2⟩ := id hst0
  have L9 : ∀ (q_z k_z p1 : Nat) (L : List Zitm) (M1 : Zmem), 60 - p1 < q_z → Zsq c_z n_z u_z o_z st M M1 (true, p1, L) → st + L.length ≤ p1 → p1 ≤ n_z → 60 ≤ p1 + k_z → Zlvl c_z pc 4 p_z = Zlop (Zlvl c_z pc 3) (Zis 1) c_z k_z p1 L → ZP X Zt64 (Zsf Zt64 9) [(0, .ref 53)] [] M1 := by
    intro q_z
    induction q_z with
    | zero => intro k_z p1 L M1 hq_z; exact absurd hq_z (Nat.not_lt_zero _)
    | succ q_z ih_z =>
      intro k_z p1 L M1 hlq hq_z hst hp1 hk_z hr_z
      have hz1 := (hq_z.2.2 rfl).1
      have LB : ∀ (l : List (Nat × Value)), Zis 1 (c_z p1) = true → (l = [(0, .ref 53)]) → ZP X Zt64 (Zsf Zt64 18) l [] M1 := by
        rintro l his rfl
        have hsg := Zis_sg (by decide) his
        have hsl := Zsg_lt hsg
        have hlt : p1 < n_z := Zc_lt hcn (by omega)
        obtain ⟨k1_z, rfl⟩ : ∃ k1_z, k_z = k1_z + 1 := ⟨k_z - 1, by omega⟩
        rw [Zlop, if_pos his] at hr_z
        refine Zgo hX 7 rfl True.intro ?_
        rw [hz1.1.2.2.2.1, nI_add]
        obtain ⟨g1, g2, g3⟩ := hg_z (p1 + 1) hlt
        refine Zs_callv hX (List.cons_ne_nil _ _) (hn_z (p1 + 1) (st + L.length) _ (hz1.at hlt) (by omega)) (by first | decide | omega) (by decide) rfl rfl rfl (by decide) (Nat.le_of_ble_eq_true rfl) (fun r_z M' hc_z => ?_)
        rcases hc_z with ⟨⟨rfl, hb_z⟩ | ⟨rfl, hb_z⟩, hq2⟩
        · refine Zs_ne hX (List.cons_ne_nil _ _) (fun _ => ?_) (fun q_z => False.elim (by revert q_z; decide))
          rw [if_pos hb_z] at hr_z
          obtain ⟨g4, g5, -⟩ := g3 hb_z
          refine Zgo hX 3 rfl True.intro ?_
          rw [show nI 38 = nI (c_z p1) by have e_z : c_z p1 = 38 := (by simpa [Zis] using his); rw [e_z]]
          refine Zs_callv hX (List.cons_ne_nil _ _) (s_step1 _ _ _ _ ((hq2.2.2 hb_z).1.2.2) (by omega)) (by first | decide | omega) (by decide) rfl rfl rfl (by decide) (Nat.le_of_ble_eq_true rfl) (fun r_z M' hc_z => ?_)
          obtain ⟨rfl, rfl⟩ := hc_z
          have hq3 := Zsq_3 (s_z := c_z p1) hq_z (Zsc_a53 _ _) (fun _ => rfl) hq2 hb_z
          refine Zgo hX 1 rfl True.intro ?_
          refine Zs_sub (l' := [(0, .ref 53)]) rfl ?_
          exact ih_z k1_z _ _ _ (by omega) hq3 (by simp; omega) g2 (by omega) hr_z
        · refine Zs_ne hX (List.cons_ne_nil _ _) (fun q_z => False.elim (by revert q_z; decide)) (fun _ => ?_)
          rw [if_neg hb_z] at hr_z
          refine Zgo hX 1 rfl True.intro ?_
          refine Zs_retz hX hE rfl (by first | exact Or.inl rfl | exact Or.inr rfl) ⟨Or.inr ⟨rfl, by rw [hr_z]; exact Bool.false_ne_true⟩, ?_⟩
          rw [hr_z]
          exact Zsq_f2 (hq_z.1.tr (Zsc_a53 _ _)) hq2
      refine Zgo hX 1 rfl True.intro ?_
      refine Zs_callv hX (List.cons_ne_nil _ _) (s_look c_z n_z u_z _ _ hz1.1) (by first | decide | omega) (by decide) rfl rfl rfl (by decide) (Nat.le_of_ble_eq_true rfl) (fun r_z M' hc_z => ?_)
      obtain ⟨rfl, rfl⟩ := hc_z
      refine Zgo hX 1 rfl True.intro ?_
      refine Zs_ine hX (List.cons_ne_nil _ _) (fun h15_z => ?_) (fun h15_z => ?_)
      · have his : ¬ Zis 1 (c_z p1) = true := (fun q_z => by simp only [Zis, Bool.or_eq_true, beq_iff_eq] at q_z; first | exact h15_z ((Zlk_eq (by decide)).mpr q_z))
        have hr2 := hr_z.trans (Zlop_0 k_z p1 L his)
        refine Zgo hX 1 rfl True.intro ?_
        refine Zs_retz hX hE rfl (by first | exact Or.inl rfl | exact Or.inr rfl) ⟨Or.inl ⟨rfl, by rw [hr2]⟩, by rw [hr2]; exact hq_z⟩
      · exact LB _ (by rw [(Zlk_eq (by decide)).mp h15_z]; rfl) rfl
  refine Zgo hX 1 rfl True.intro ?_
  refine Zs_callv hX (List.cons_ne_nil _ _) (hn_z p_z st _ hz_z hsp) (by first | decide | omega) (by decide) rfl rfl rfl (by decide) (Nat.le_of_ble_eq_true rfl) (fun r_z M' hc_z => ?_)
  rcases hc_z with ⟨⟨rfl, hb_z⟩ | ⟨rfl, hb_z⟩, hq_z⟩
  · refine Zs_ne hX (List.cons_ne_nil _ _) (fun _ => ?_) (fun q_z => False.elim (by revert q_z; decide))
    obtain ⟨g1, g2, g3⟩ := hg_z p_z hpn
    obtain ⟨g4, g5, -⟩ := g3 hb_z
    have hqq : Zsq c_z n_z u_z o_z st M M' (true, (Zlvl c_z pc 3 p_z).2.1, (Zlvl c_z pc 3 p_z).2.2) := ⟨hq_z.1, hq_z.2.1, fun _ => hq_z.2.2 hb_z⟩
    exact L9 61 60 _ _ _ (by omega) hqq (by omega) g2 (by omega) (by rw [Zlvl_s 3 p_z, if_pos hb_z]; rfl)
  · refine Zs_ne hX (List.cons_ne_nil _ _) (fun q_z => False.elim (by revert q_z; decide)) (fun _ => ?_)
    have hr_z : Zlvl c_z pc 4 p_z = (false, (Zlvl c_z pc 3 p_z).2.1, []) := by rw [Zlvl_s 3 p_z, if_neg hb_z]
    refine Zgo hX 1 rfl True.intro ?_
    refine Zs_retz hX hE rfl (by first | exact Or.inl rfl | exact Or.inr rfl) ⟨Or.inr ⟨rfl, by rw [hr_z]; exact Bool.false_ne_true⟩, ?_⟩
    rw [hr_z]
    exact Zsq_f2 (Sc.rf M) hq_z

set_option maxRecDepth 20000 in
set_option maxHeartbeats 1000000 in
theorem s_whole (c_z : Nat → Nat) (n_z u_z o_z p_z st : Nat) (M : Zmem) (hz_z : Zsp c_z n_z u_z o_z p_z st M) (hsp : st ≤ p_z) (pc : Nat → Zrs) (F : Nat) (hg_z : ∀ p_z, p_z ≤ n_z → Zgd u_z n_z p_z (Zlvl c_z pc 4 p_z)) (hn_z : Zsc 64 F c_z n_z u_z o_z (Zlvl c_z pc 4)) : ZC 63 (F + 1) [.ref 53] M (fun r_z M' => Zb r_z ((Zlvl c_z pc 5 p_z).1 = true) ∧ Zsq c_z n_z u_z o_z st M M' (Zlvl c_z pc 5 p_z)) := by
  refine ZC_of Zt63 Zk63 (Nat.le_of_ble_eq_true rfl) (by decide) rfl (fun X hX hE => ?_)
  obtain ⟨⟨⟨hst0, hpn⟩, h5_z, hus, hat, htp⟩, hop, hsz⟩ := id hz_z
  obtain ⟨hcn, hcb, hn60, hu2⟩ := id hst0
  have L9 : ∀ (q_z k_z p1 : Nat) (L : List Zitm) (M1 : Zmem), 60 - p1 < q_z → Zsq c_z n_z u_z o_z st M M1 (true, p1, L) → st + L.length ≤ p1 → p1 ≤ n_z → 60 ≤ p1 + k_z → Zlvl c_z pc 5 p_z = Zlop (Zlvl c_z pc 4) (Zis 0) c_z k_z p1 L → ZP X Zt63 (Zsf Zt63 9) [(0, .ref 53)] [] M1 := by
    intro q_z
    induction q_z with
    | zero => intro k_z p1 L M1 hq_z; exact absurd hq_z (Nat.not_lt_zero _)
    | succ q_z ih_z =>
      intro k_z p1 L M1 hlq hq_z hst hp1 hk_z hr_z
      have hz1 := (hq_z.2.2 rfl).1
      have LB : ∀ (l : List (Nat × Value)), Zis 0 (c_z p1) = true → (l = [(0, .ref 53)]) → ZP X Zt63 (Zsf Zt63 18) l [] M1 := by
        rintro l his rfl
        have hsg := Zis_sg (by decide) his
        have hsl := Zsg_lt hsg
        have hlt : p1 < n_z := Zc_lt hcn (by omega)
        obtain ⟨k1_z, rfl⟩ : ∃ k1_z, k_z = k1_z + 1 := ⟨k_z - 1, by omega⟩
        rw [Zlop, if_pos his] at hr_z
        refine Zgo hX 7 rfl True.intro ?_
        rw [hz1.1.2.2.2.1, nI_add]
        obtain ⟨g1, g2, g3⟩ := hg_z (p1 + 1) hlt
        refine Zs_callv hX (List.cons_ne_nil _ _) (hn_z (p1 + 1) (st + L.length) _ (hz1.at hlt) (by omega)) (by first | decide | omega) (by decide) rfl rfl rfl (by decide) (Nat.le_of_ble_eq_true rfl) (fun r_z M' hc_z => ?_)
        rcases hc_z with ⟨⟨rfl, hb_z⟩ | ⟨rfl, hb_z⟩, hq2⟩
        · refine Zs_ne hX (List.cons_ne_nil _ _) (fun _ => ?_) (fun q_z => False.elim (by revert q_z; decide))
          rw [if_pos hb_z] at hr_z
          obtain ⟨g4, g5, -⟩ := g3 hb_z
          refine Zgo hX 3 rfl True.intro ?_
          rw [show nI 124 = nI (c_z p1) by have e_z : c_z p1 = 124 := (by simpa [Zis] using his); rw [e_z]]
          refine Zs_callv hX (List.cons_ne_nil _ _) (s_step1 _ _ _ _ ((hq2.2.2 hb_z).1.2.2) (by omega)) (by first | decide | omega) (by decide) rfl rfl rfl (by decide) (Nat.le_of_ble_eq_true rfl) (fun r_z M' hc_z => ?_)
          obtain ⟨rfl, rfl⟩ := hc_z
          have hq3 := Zsq_3 (s_z := c_z p1) hq_z (Zsc_a53 _ _) (fun _ => rfl) hq2 hb_z
          refine Zgo hX 1 rfl True.intro ?_
          refine Zs_sub (l' := [(0, .ref 53)]) rfl ?_
          exact ih_z k1_z _ _ _ (by omega) hq3 (by simp; omega) g2 (by omega) hr_z
        · refine Zs_ne hX (List.cons_ne_nil _ _) (fun q_z => False.elim (by revert q_z; decide)) (fun _ => ?_)
          rw [if_neg hb_z] at hr_z
          refine Zgo hX 1 rfl True.intro ?_
          refine Zs_retz hX hE rfl (by first | exact Or.inl rfl | exact Or.inr rfl) ⟨Or.inr ⟨rfl, by rw [hr_z]; exact Bool.false_ne_true⟩, ?_⟩
          rw [hr_z]
          exact Zsq_f2 (hq_z.1.tr (Zsc_a53 _ _)) hq2
      refine Zgo hX 1 rfl True.intro ?_
      refine Zs_callv hX (List.cons_ne_nil _ _) (s_look c_z n_z u_z _ _ hz1.1) (by first | decide | omega) (by decide) rfl rfl rfl (by decide) (Nat.le_of_ble_eq_true rfl) (fun r_z M' hc_z => ?_)
      obtain ⟨rfl, rfl⟩ := hc_z
      refine Zgo hX 1 rfl True.intro ?_
      refine Zs_ine hX (List.cons_ne_nil _ _) (fun h15_z => ?_) (fun h15_z => ?_)
      · have his : ¬ Zis 0 (c_z p1) = true := (fun q_z => by simp only [Zis, Bool.or_eq_true, beq_iff_eq] at q_z; first | exact h15_z ((Zlk_eq (by decide)).mpr q_z))
        have hr2 := hr_z.trans (Zlop_0 k_z p1 L his)
        refine Zgo hX 1 rfl True.intro ?_
        refine Zs_retz hX hE rfl (by first | exact Or.inl rfl | exact Or.inr rfl) ⟨Or.inl ⟨rfl, by rw [hr2]⟩, by rw [hr2]; exact hq_z⟩
      · exact LB _ (by rw [(Zlk_eq (by decide)).mp h15_z]; rfl) rfl
  refine Zgo hX 1 rfl True.intro ?_
  refine Zs_callv hX (List.cons_ne_nil _ _) (hn_z p_z st _ hz_z hsp) (by first | decide | omega) (by decide) rfl rfl rfl (by decide) (Nat.le_of_ble_eq_true rfl) (fun r_z M' hc_z => ?_)
  rcases hc_z with ⟨⟨rfl, hb_z⟩ | ⟨rfl, hb_z⟩, hq_z⟩
  · refine Zs_ne hX (List.cons_ne_nil _ _) (fun _ => ?_) (fun q_z => False.elim (by revert q_z; decide))
    obtain ⟨g1, g2, g3⟩ := hg_z p_z hpn
    obtain ⟨g4, g5, -⟩ := g3 hb_z
    have hqq : Zsq c_z n_z u_z o_z st M M' (true, (Zlvl c_z pc 4 p_z).2.1, (Zlvl c_z pc 4 p_z).2.2) := ⟨hq_z.1, hq_z.2.1, fun _ => hq_z.2.2 hb_z⟩
    exact L9 61 60 _ _ _ (by omega) hqq (by omega) g2 (by omega) (by rw [Zlvl_s 4 p_z, if_pos hb_z]; rfl)
  · refine Zs_ne hX (List.cons_ne_nil _ _) (fun q_z => False.elim (by revert q_z; decide)) (fun _ => ?_)
    have hr_z : Zlvl c_z pc 5 p_z = (false, (Zlvl c_z pc 4 p_z).2.1, []) := by rw [Zlvl_s 4 p_z, if_neg hb_z]
    refine Zgo hX 1 rfl True.intro ?_
    refine Zs_retz hX hE rfl (by first | exact Or.inl rfl | exact Or.inr rfl) ⟨Or.inr ⟨rfl, by rw [hr_z]; exact Bool.false_ne_true⟩, ?_⟩
    rw [hr_z]
    exact Zsq_f2 (Sc.rf M) hq_z
end
section

theorem s_wholes (c_z : Nat → Nat) (n_z u_z o_z F : Nat) (pc : Nat → Zrs) (hcn : ∀ i_z, n_z ≤ i_z → c_z i_z = 256) (hpc : ∀ p_z, p_z ≤ n_z → Zgd u_z n_z p_z (pc p_z)) (hn_z : Zsc 69 F c_z n_z u_z o_z pc) : Zsc 63 (F + 5) c_z n_z u_z o_z (Zlvl c_z pc 5) := by
  have hg_z := Zlvl_gd hcn hpc
  have h1_z : Zsc 67 (F + 1) c_z n_z u_z o_z (Zlvl c_z pc 1) := fun p_z st M hz_z hsp => s_product c_z n_z u_z o_z p_z st M hz_z hsp pc F (hg_z 0 (by decide)) hn_z
  have h2_z : Zsc 66 (F + 2) c_z n_z u_z o_z (Zlvl c_z pc 2) := fun p_z st M hz_z hsp => s_sum c_z n_z u_z o_z p_z st M hz_z hsp pc (F + 1) (hg_z 1 (by decide)) h1_z
  have h3_z : Zsc 65 (F + 3) c_z n_z u_z o_z (Zlvl c_z pc 3) := fun p_z st M hz_z hsp => s_compared c_z n_z u_z o_z p_z st M hz_z hsp pc (F + 2) (hg_z 2 (by decide)) h2_z
  have h4_z : Zsc 64 (F + 4) c_z n_z u_z o_z (Zlvl c_z pc 4) := fun p_z st M hz_z hsp => s_both c_z n_z u_z o_z p_z st M hz_z hsp pc (F + 3) (hg_z 3 (by decide)) h3_z
  exact fun p_z st M hz_z hsp => s_whole c_z n_z u_z o_z p_z st M hz_z hsp pc (F + 4) (hg_z 4 (by decide)) h4_z

set_option maxRecDepth 20000 in
set_option maxHeartbeats 1000000 in
theorem s_one (c_z : Nat → Nat) (n_z u_z o_z p_z st : Nat) (M : Zmem) (hz_z : Zsp c_z n_z u_z o_z p_z st M) (hsp : st ≤ p_z) (F F1 : Nat) (hF1 : F1 ≤ F) (ho : o_z ≤ 5) (h1_z : ∀ o1, o_z = o1 + 1 → Zsc 69 F1 c_z n_z u_z o1 (Zpie c_z u_z o1)) (h2_z : ∀ o1, o_z = o1 + 1 → Zsc 63 F c_z n_z u_z o1 (Zlvl c_z (Zpie c_z u_z o1) 5)) : ZC 69 (F + 1) [.ref 53] M (fun r_z M' => Zb r_z ((Zpie c_z u_z o_z p_z).1 = true) ∧ Zsq c_z n_z u_z o_z st M M' (Zpie c_z u_z o_z p_z)) := by
  refine ZC_of Zt69 Zk69 (Nat.le_of_ble_eq_true rfl) (by decide) rfl (fun X hX hE => ?_)
  obtain ⟨⟨⟨hst0, hpn⟩, h5_z, hus, hat, htp⟩, hop, hsz⟩ := id hz_z
  obtain ⟨hcn, hcb, hn60, hu2⟩ := id hst0
  refine Zgo hX 1 rfl True.intro ?_
  refine Zs_callv hX (List.cons_ne_nil _ _) (s_look c_z n_z u_z _ _ hz_z.1) (by first | decide | omega) (by decide) rfl rfl rfl (by decide) (Nat.le_of_ble_eq_true rfl) (fun r_z M' hc_z => ?_)
  obtain ⟨rfl, rfl⟩ := hc_z
  refine Zgo hX 3 rfl True.intro ?_
  refine Zs_callv hX (List.cons_ne_nil _ _) (s_isName _ u_z _ hus hu2) (by first | decide | omega) (by decide) rfl rfl rfl (by decide) (Nat.le_of_ble_eq_true rfl) (fun r_z M' hc_z => ?_)
  rcases hc_z with ⟨⟨rfl, hb_z⟩ | ⟨rfl, hb_z⟩, rfl⟩
  · refine Zs_eq hX (List.cons_ne_nil _ _) (fun q_z => False.elim (by revert q_z; decide)) (fun _ => ?_)
    have hnm := Znmb_iff.mp hb_z
    have hcl := Znm_lt hnm
    have hlt : p_z < n_z := Zc_lt hcn hcl
    have hr_z := Zpie_nam (o_z := o_z) (p_z := p_z) (c_z := c_z) (u_z := u_z) (by intro q_z; have := Zdig_iff.mp q_z; unfold Znm at hnm; omega) (by unfold Znm at hnm; omega) (by unfold Znm at hnm; omega) hb_z
    refine Zgo hX 9 rfl True.intro ?_
    rw [hat, nI_add, Zlk_lt hcl]
    refine Zs_callv hX (List.cons_ne_nil _ _) (s_step1 st _ _ _ hsz (by omega)) (by first | decide | omega) (by decide) rfl rfl rfl (by decide) (Nat.le_of_ble_eq_true rfl) (fun r_z M' hc_z => ?_)
    obtain ⟨rfl, rfl⟩ := hc_z
    refine Zgo hX 1 rfl True.intro ?_
    refine Zs_retz hX hE rfl (by first | exact Or.inl rfl | exact Or.inr rfl) ⟨Or.inl ⟨rfl, by rw [hr_z]⟩, ?_⟩
    rw [hr_z]
    exact Zsq_1 (nI 1, nI (c_z p_z)) (Zsc_a53 _ _) (fun _ => rfl) (hz_z.at hlt)
  · refine Zs_eq hX (List.cons_ne_nil _ _) (fun _ => ?_) (fun q_z => False.elim (by revert q_z; decide))
    refine Zgo hX 3 rfl True.intro ?_
    refine Zs_calls hX (List.cons_ne_nil _ _) (by decide) (s_in _ _ _ _) (by first | decide | omega) rfl rfl (by decide) (Nat.le_of_ble_eq_true rfl) (fun r_z M' hc_z => ?_)
    rcases hc_z with ⟨⟨rfl, hd_z⟩ | ⟨rfl, hd_z⟩, rfl⟩
    · refine Zs_eq hX (List.cons_ne_nil _ _) (fun q_z => False.elim (by revert q_z; decide)) (fun _ => ?_)
      have hd_z := Zlk_dig.mp hd_z
      have hr_z := Zpie_dig (o_z := o_z) (u_z := u_z) hd_z
      have L94 : ∀ (i_z q1_z v_z : Nat) (M1 : Zmem), Znum c_z 4 p_z 0 = (q1_z, v_z) → Sc M M1 → (∀ i_z, M1 57 i_z = M 57 i_z) → Zsp c_z n_z u_z o_z q1_z st M1 → ZP X Zt69 (Zsf Zt69 94) [(3, .int (nI i_z)), (2, .int (nI v_z)), (1, .int (Zlk (c_z p_z))), (0, .ref 53)] [] M1 := by
        intro i_z q1_z v_z M1 hnum hsc hco hz1
        refine Zgo hX 3 rfl True.intro ?_
        refine Zs_callv hX (List.cons_ne_nil _ _) (s_step1 st _ _ _ hz1.2.2 (by omega)) (by first | decide | omega) (by decide) rfl rfl rfl (by decide) (Nat.le_of_ble_eq_true rfl) (fun r_z M' hc_z => ?_)
        obtain ⟨rfl, rfl⟩ := hc_z
        refine Zgo hX 1 rfl True.intro ?_
        refine Zs_retz hX hE rfl (by first | exact Or.inl rfl | exact Or.inr rfl) ⟨Or.inl ⟨rfl, by rw [hr_z]⟩, ?_⟩
        rw [hr_z, hnum]
        exact Zsq_1 (nI 0, nI v_z) hsc hco hz1
      have L : ∀ (q_z i_z q1_z v_z : Nat) (M1 : Zmem), 4 - i_z < q_z → i_z ≤ 4 → Znum c_z (4 - i_z) q1_z v_z = Znum c_z 4 p_z 0 → Sc M M1 → (∀ i_z, M1 57 i_z = M 57 i_z) → Zsp c_z n_z u_z o_z q1_z st M1 → ZP X Zt69 (Zsf Zt69 46) [(3, .int (nI i_z)), (2, .int (nI v_z)), (1, .int (Zlk (c_z p_z))), (0, .ref 53)] [] M1 := by
        intro q_z
        induction q_z with
        | zero => intro i_z q1_z v_z M1 hq_z; exact absurd hq_z (Nat.not_lt_zero _)
        | succ q_z ih_z =>
          intro i_z q1_z v_z M1 hq_z hi_z hnum hsc hco hz1
          refine Zgo hX 2 rfl True.intro ?_
          refine Zs_ige hX (List.cons_ne_nil _ _) (fun h48_z => ?_) (fun h48_z => ?_)
          · obtain rfl : i_z = 4 := by have := (Zn_le (by decide) (by omega)).mp h48_z; omega
            exact L94 4 q1_z v_z M1 hnum.symm hsc hco hz1
          · have hi4 : i_z < 4 := (Nat.lt_or_ge i_z 4).elim id (fun q_z => absurd ((Zn_le (by decide) (by omega)).mpr q_z) h48_z)
            have e4 : 4 - i_z = (4 - (i_z + 1)) + 1 := by omega
            refine Zgo hX 1 rfl True.intro ?_
            refine Zs_callv hX (List.cons_ne_nil _ _) (s_look c_z n_z u_z _ _ hz1.1) (by first | decide | omega) (by decide) rfl rfl rfl (by decide) (Nat.le_of_ble_eq_true rfl) (fun r_z M' hc_z => ?_)
            obtain ⟨rfl, rfl⟩ := hc_z
            refine Zgo hX 2 rfl True.intro ?_
            refine Zs_calls hX (List.cons_ne_nil _ _) (by decide) (s_in _ _ _ _) (by first | decide | omega) rfl rfl (by decide) (Nat.le_of_ble_eq_true rfl) (fun r_z M' hc_z => ?_)
            rcases hc_z with ⟨⟨rfl, hdq⟩ | ⟨rfl, hdq⟩, rfl⟩
            · refine Zs_eq hX (List.cons_ne_nil _ _) (fun q_z => False.elim (by revert q_z; decide)) (fun _ => ?_)
              have hdq := Zlk_dig.mp hdq
              have hdi := Zdig_iff.mp hdq
              have hql : q1_z < n_z := Zc_lt hcn (by omega)
              refine Zgo hX 4 rfl True.intro ?_
              refine Zs_callv hX (List.cons_ne_nil _ _) (s_look c_z n_z u_z _ _ hz1.1) (by first | decide | omega) (by decide) rfl rfl rfl (by decide) (Nat.le_of_ble_eq_true rfl) (fun r_z M' hc_z => ?_)
              obtain ⟨rfl, rfl⟩ := hc_z
              refine Zgo hX 11 rfl True.intro ?_
              rw [hz1.1.2.2.2.1, Zlk_lt (show c_z q1_z < 128 by omega)]
              simp only [pk_mul, nI_add]
              rw [pk_sub (show 48 ≤ 10 * v_z + c_z q1_z by omega)]
              refine Zgo hX 1 rfl True.intro ?_
              refine Zs_sub (l' := [(3, .int (nI (i_z + 1))), (2, .int (nI (10 * v_z + c_z q1_z - 48))), (1, .int (Zlk (c_z p_z))), (0, .ref 53)]) (by simp only [← nI_add]; rfl) ?_
              exact ih_z (i_z + 1) (q1_z + 1) _ _ (by omega) hi4 (by rw [← hnum, e4, Znum, if_pos hdq]) (hsc.tr (Zsc_a53 _ _)) hco (hz1.at hql)
            · refine Zs_eq hX (List.cons_ne_nil _ _) (fun _ => ?_) (fun q_z => False.elim (by revert q_z; decide))
              have hdq : ¬ Zdig (c_z q1_z) = true := fun q_z => hdq (Zlk_dig.mpr q_z)
              exact L94 i_z q1_z v_z _ (by rw [← hnum, e4, Znum, if_neg hdq]) hsc hco hz1
      refine Zgo hX 4 rfl True.intro ?_
      refine Zs_sub (l' := [(3, .int (nI 0)), (2, .int (nI 0)), (1, .int (Zlk (c_z p_z))), (0, .ref 53)]) rfl ?_
      exact L 5 0 p_z 0 M (by decide) (by decide) rfl (Sc.rf M) (fun _ => rfl) hz_z
    · refine Zs_eq hX (List.cons_ne_nil _ _) (fun _ => ?_) (fun q_z => False.elim (by revert q_z; decide))
      have hd_z : ¬ Zdig (c_z p_z) = true := fun q_z => hd_z (Zlk_dig.mpr q_z)
      refine Zgo hX 2 rfl True.intro ?_
      refine Zs_ine hX (List.cons_ne_nil _ _) (fun h105_z => ?_) (fun h105_z => ?_)
      · have n33 : ¬ c_z p_z = 33 := fun q_z => h105_z ((Zlk_eq (by decide)).mpr q_z)
        refine Zgo hX 2 rfl True.intro ?_
        refine Zs_ine hX (List.cons_ne_nil _ _) (fun h145_z => ?_) (fun h145_z => ?_)
        · have n40 : ¬ c_z p_z = 40 := fun q_z => h145_z ((Zlk_eq (by decide)).mpr q_z)
          have hr_z := Zpie_non (o_z := o_z) hd_z n33 n40 hb_z
          refine Zgo hX 1 rfl True.intro ?_
          refine Zs_retz hX hE rfl (by first | exact Or.inl rfl | exact Or.inr rfl) ⟨Or.inr ⟨rfl, by rw [hr_z]; exact Bool.false_ne_true⟩, ?_⟩
          rw [hr_z]
          exact Zsq_f (Sc.rf M) hz_z.1
        · have e40 := (Zlk_eq (by decide)).mp h145_z
          have hlt : p_z < n_z := Zc_lt hcn (by omega)
          refine Zgo hX 1 rfl True.intro ?_
          refine Zs_callv hX (List.cons_ne_nil _ _) (s_opens o_z p_z _ ho hop hat) (by first | decide | omega) (by decide) rfl rfl rfl (by decide) (Nat.le_of_ble_eq_true rfl) (fun r_z M' hc_z => ?_)
          rcases hc_z with ⟨o1, rfl, rfl, rfl⟩ | ⟨rfl, rfl, rfl⟩
          · refine Zs_eq hX (List.cons_ne_nil _ _) (fun q_z => False.elim (by revert q_z; decide)) (fun _ => ?_)
            have hz2 : Zsp c_z n_z u_z o1 (p_z + 1) st (Zu (Zu M 53 5 (nI (5 - o1))) 53 4 (nI (p_z + 1))) := ⟨hz_z.1.op hlt _, rfl, hsz⟩
            have hsc2 : Sc M (Zu (Zu M 53 5 (nI (5 - o1))) 53 4 (nI (p_z + 1))) := ((Sc.rf M).u _ rfl).u _ rfl
            refine Zgo hX 1 rfl True.intro ?_
            refine Zs_callv hX (List.cons_ne_nil _ _) (h2_z o1 rfl (p_z + 1) st _ hz2 (by omega)) (by first | decide | omega) (by decide) rfl rfl rfl (by decide) (Nat.le_of_ble_eq_true rfl) (fun r_z M' hc_z => ?_)
            rcases hc_z with ⟨⟨rfl, hw_z⟩ | ⟨rfl, hw_z⟩, hq_z⟩
            · refine Zs_eq hX (List.cons_ne_nil _ _) (fun q_z => False.elim (by revert q_z; decide)) (fun _ => ?_)
              refine Zgo hX 1 rfl True.intro ?_
              refine Zs_callv hX (List.cons_ne_nil _ _) (s_look c_z n_z u_z _ _ hq_z.2.1) (by first | decide | omega) (by decide) rfl rfl rfl (by decide) (Nat.le_of_ble_eq_true rfl) (fun r_z M' hc_z => ?_)
              obtain ⟨rfl, rfl⟩ := hc_z
              refine Zgo hX 1 rfl True.intro ?_
              refine Zs_ieq hX (List.cons_ne_nil _ _) (fun h168_z => ?_) (fun h168_z => ?_)
              · have h41_z := (Zlk_eq (by decide)).mp h168_z
                have hlt2 : (Zlvl c_z (Zpie c_z u_z o1) 5 (p_z + 1)).2.1 < n_z := Zc_lt hcn (by omega)
                have hr_z := Zpie_40t e40 hw_z h41_z
                obtain ⟨q1_z, q2_z, q3⟩ := id hq_z
                obtain ⟨q4, q5, q6⟩ := q3 hw_z
                refine Zgo hX 6 rfl True.intro ?_
                rw [q2_z.2.2.2.1, nI_add]
                refine Zgo hX 6 rfl True.intro ?_
                rw [show (Zu M' 53 4 (nI ((Zlvl c_z (Zpie c_z u_z o1) 5 (p_z + 1)).2.1 + 1))) 53 5 = nI (5 - o1) from q4.2.1, pk_sub (by omega), show 5 - o1 - 1 = 5 - (o1 + 1) by omega]
                refine Zgo hX 1 rfl True.intro ?_
                refine Zs_retz hX hE rfl (by first | exact Or.inl rfl | exact Or.inr rfl) ⟨Or.inl ⟨rfl, by rw [hr_z]⟩, ?_⟩
                rw [hr_z]
                refine ⟨((hsc2.tr q1_z).u _ rfl).u _ rfl, (q2_z.at hlt2).op2 _, fun _ => ⟨⟨(q2_z.at hlt2).op2 _, rfl, q4.2.2⟩, q5, q6⟩⟩
              · have hne : ¬ ((Zlvl c_z (Zpie c_z u_z o1) 5 (p_z + 1)).1 = true ∧ c_z (Zlvl c_z (Zpie c_z u_z o1) 5 (p_z + 1)).2.1 = 41) := fun q_z => h168_z ((Zlk_eq (by decide)).mpr q_z.2)
                have hr_z := Zpie_40f e40 hne
                refine Zgo hX 1 rfl True.intro ?_
                refine Zs_retz hX hE rfl (by first | exact Or.inl rfl | exact Or.inr rfl) ⟨Or.inr ⟨rfl, by rw [hr_z]; exact Bool.false_ne_true⟩, ?_⟩
                rw [hr_z]
                exact Zsq_f2 hsc2 hq_z
            · refine Zs_eq hX (List.cons_ne_nil _ _) (fun _ => ?_) (fun q_z => False.elim (by revert q_z; decide))
              have hr_z := Zpie_40f e40 (fun q_z => hw_z q_z.1)
              refine Zgo hX 1 rfl True.intro ?_
              refine Zs_retz hX hE rfl (by first | exact Or.inl rfl | exact Or.inr rfl) ⟨Or.inr ⟨rfl, by rw [hr_z]; exact Bool.false_ne_true⟩, ?_⟩
              rw [hr_z]
              exact Zsq_f2 hsc2 hq_z
          · refine Zs_eq hX (List.cons_ne_nil _ _) (fun _ => ?_) (fun q_z => False.elim (by revert q_z; decide))
            have hr_z := Zpie_0 (u_z := u_z) (Or.inr e40)
            refine Zgo hX 1 rfl True.intro ?_
            refine Zs_retz hX hE rfl (by first | exact Or.inl rfl | exact Or.inr rfl) ⟨Or.inr ⟨rfl, by rw [hr_z]; exact Bool.false_ne_true⟩, ?_⟩
            rw [hr_z]
            exact Zsq_f (Sc.rf M) hz_z.1
      · have e33 := (Zlk_eq (by decide)).mp h105_z
        have hlt : p_z < n_z := Zc_lt hcn (by omega)
        refine Zgo hX 1 rfl True.intro ?_
        refine Zs_callv hX (List.cons_ne_nil _ _) (s_opens o_z p_z _ ho hop hat) (by first | decide | omega) (by decide) rfl rfl rfl (by decide) (Nat.le_of_ble_eq_true rfl) (fun r_z M' hc_z => ?_)
        rcases hc_z with ⟨o1, rfl, rfl, rfl⟩ | ⟨rfl, rfl, rfl⟩
        · refine Zs_eq hX (List.cons_ne_nil _ _) (fun q_z => False.elim (by revert q_z; decide)) (fun _ => ?_)
          have hz2 : Zsp c_z n_z u_z o1 (p_z + 1) st (Zu (Zu M 53 5 (nI (5 - o1))) 53 4 (nI (p_z + 1))) := ⟨hz_z.1.op hlt _, rfl, hsz⟩
          have hsc2 : Sc M (Zu (Zu M 53 5 (nI (5 - o1))) 53 4 (nI (p_z + 1))) := ((Sc.rf M).u _ rfl).u _ rfl
          have hg_z := Zpie_gd (u_z := u_z) hcn o1 (p_z + 1) hlt
          refine Zgo hX 1 rfl True.intro ?_
          refine Zs_callv hX (List.cons_ne_nil _ _) (h1_z o1 rfl (p_z + 1) st _ hz2 (by omega)) (by first | decide | omega) (by decide) rfl rfl rfl (by decide) (Nat.le_of_ble_eq_true rfl) (fun r_z M' hc_z => ?_)
          rcases hc_z with ⟨⟨rfl, hw_z⟩ | ⟨rfl, hw_z⟩, hq_z⟩
          · refine Zs_ne hX (List.cons_ne_nil _ _) (fun _ => ?_) (fun q_z => False.elim (by revert q_z; decide))
            obtain ⟨hg1, hg2, hg3⟩ := hg_z
            obtain ⟨hg4, hg5, -⟩ := hg3 hw_z
            have hr_z := Zpie_33t e33 hw_z
            obtain ⟨q1_z, q2_z, q3⟩ := Zsq_pre (M := M) hsc2 (fun _ => rfl) hq_z
            obtain ⟨q4, q5, q6⟩ := q3 hw_z
            refine Zgo hX 6 rfl True.intro ?_
            rw [q4.2.1, pk_sub (by omega), show 5 - o1 - 1 = 5 - (o1 + 1) by omega]
            have hq8 : Zsq c_z n_z u_z (o1 + 1) st M (Zu M' 53 5 (nI (5 - (o1 + 1)))) (Zpie c_z u_z o1 (p_z + 1)) := ⟨q1_z.u _ rfl, q2_z.op2 _, fun _ => ⟨⟨q2_z.op2 _, rfl, q4.2.2⟩, q5, q6⟩⟩
            refine Zgo hX 3 rfl True.intro ?_
            refine Zs_callv hX (List.cons_ne_nil _ _) (s_step1 _ _ _ _ q4.2.2 (by omega)) (by first | decide | omega) (by decide) rfl rfl rfl (by decide) (Nat.le_of_ble_eq_true rfl) (fun r_z M' hc_z => ?_)
            obtain ⟨rfl, rfl⟩ := hc_z
            refine Zgo hX 1 rfl True.intro ?_
            refine Zs_retz hX hE rfl (by first | exact Or.inl rfl | exact Or.inr rfl) ⟨Or.inl ⟨rfl, by rw [hr_z]⟩, ?_⟩
            rw [hr_z]
            exact Zsq_2 hq8 hw_z
          · refine Zs_ne hX (List.cons_ne_nil _ _) (fun q_z => False.elim (by revert q_z; decide)) (fun _ => ?_)
            have hr_z := Zpie_33f e33 hw_z
            refine Zgo hX 1 rfl True.intro ?_
            refine Zs_retz hX hE rfl (by first | exact Or.inl rfl | exact Or.inr rfl) ⟨Or.inr ⟨rfl, by rw [hr_z]; exact Bool.false_ne_true⟩, ?_⟩
            rw [hr_z]
            exact Zsq_f2 hsc2 hq_z
        · refine Zs_eq hX (List.cons_ne_nil _ _) (fun _ => ?_) (fun q_z => False.elim (by revert q_z; decide))
          have hr_z := Zpie_0 (u_z := u_z) (Or.inl e33)
          refine Zgo hX 1 rfl True.intro ?_
          refine Zs_retz hX hE rfl (by first | exact Or.inl rfl | exact Or.inr rfl) ⟨Or.inr ⟨rfl, by rw [hr_z]; exact Bool.false_ne_true⟩, ?_⟩
          rw [hr_z]
          exact Zsq_f (Sc.rf M) hz_z.1


theorem s_ones (c_z : Nat → Nat) (n_z u_z : Nat) (hs_z : Zst c_z n_z u_z) : ∀ o_z, o_z ≤ 5 → Zsc 69 (1 + 6 * o_z) c_z n_z u_z o_z (Zpie c_z u_z o_z) := by
  intro o_z
  induction o_z with
  | zero =>
    intro _ p_z st M hz_z hsp
    exact s_one c_z n_z u_z 0 p_z st M hz_z hsp 0 0 (by decide) (by decide) (fun o1 h_z => absurd h_z (by omega)) (fun o1 h_z => absurd h_z (by omega))
  | succ o_z ih_z =>
    intro ho p_z st M hz_z hsp
    have ih_z := ih_z (by omega)
    refine s_one c_z n_z u_z (o_z + 1) p_z st M hz_z hsp (1 + 6 * o_z + 5) (1 + 6 * o_z) (by omega) ho (fun o1 h_z => ?_) (fun o1 h_z => ?_)
    · obtain rfl : o1 = o_z := by omega
      exact ih_z
    · obtain rfl : o1 = o_z := by omega
      exact s_wholes c_z n_z u_z o1 (1 + 6 * o1) _ hs_z.1 (Zpie_gd hs_z.1 o1) ih_z
end
section
theorem Zpred (d_z : Nat) : nI (d_z + 1) + -(nI 1) = nI d_z := by
  rw [← Int32.sub_eq_add_neg]
  exact nI_pred d_z
def Znv (u_z : Nat) (a_z b_z c_z : Int32) (v_z : Int32) : Int32 := ([a_z, b_z, c_z] : List Int32).getD (Zpn u_z v_z.toNatClampNeg) 0
def Zcu (f_z : Nat → Int32) (u_z : Nat) : Nat := (f_z (84 + 125 * u_z)).toNatClampNeg
def Zwkd (f_z : Nat → Int32) (u_z : Nat) (a_z b_z c_z : Int32) : Int32 := Ztop (Zev (Znv u_z a_z b_z c_z) (Zgi f_z u_z) (Zcu f_z u_z))
def Zhl (v_z lo hi_z : Int32) : Int32 := if v_z < lo then lo else if hi_z < v_z then hi_z else v_z
def Zyn (f_z : Nat → Int32) (b_z w_z t : Int32) : Int32 := Zhl (if 0 < Zcu f_z 0 then Zwkd f_z 0 b_z w_z t else b_z) (nI 1) (nI 99)
def Zho (f_z : Nat → Int32) (w_z t k_z : Int32) : Int32 := Zhl (if 0 < Zcu f_z 1 then Zwkd f_z 1 w_z t k_z else w_z * (nI 10 - t)) (nI 0) (nI 999)
def Zhc (f_z : Nat → Int32) (w_z t k_z : Int32) : Int32 := if 0 < Zcu f_z 1 then Zhl (Zwkd f_z 1 w_z t k_z) (nI 0) (nI 999) else w_z * (nI 10 - t)
def Ztx (f_z : Nat → Int32) (u_z : Nat) : Prop := ∃ n_z, n_z ≤ 60 ∧ f_z (84 + 125 * u_z) = nI n_z ∧ (0 < n_z → Zwf u_z (Zgi f_z u_z) n_z 1)
theorem Zev_nm {u_z : Nat} {g_z : Nat → Zitm} {nm nm' : Int32 → Int32} (h_z : ∀ c_z, Znm u_z c_z → nm (nI c_z) = nm' (nI c_z)) : ∀ {n_z d_z : Nat}, Zwf u_z g_z n_z d_z → Zev nm g_z n_z = Zev nm' g_z n_z := by
  intro n_z
  induction n_z with
  | zero => intro d_z _; rfl
  | succ n_z ih_z =>
    intro d_z hw_z
    obtain ⟨d', h1_z, h2_z⟩ := hw_z
    rw [Zev, Zev, ih_z h1_z]
    rcases h2_z with ⟨e_z, -, -⟩ | ⟨e_z, ⟨c_z, hc_z, e2_z⟩, -⟩ | ⟨e_z, -, -⟩ | ⟨e_z, -, -, -⟩
    · simp only [Zit, e_z, if_true]
    · simp only [Zit, e_z, e2_z, h_z c_z hc_z, if_true]
    · simp only [Zit, e_z, if_neg (show ¬ nI 2 = nI 0 by decide), if_neg (show ¬ nI 2 = nI 1 by decide)]
    · simp only [Zit, e_z, if_neg (show ¬ nI 3 = nI 0 by decide), if_neg (show ¬ nI 3 = nI 1 by decide)]
theorem Znv_ab (u_z : Nat) (a_z b_z c_z : Int32) : Zab u_z (Znv u_z a_z b_z c_z) a_z b_z c_z := by
  intro n_z hn_z
  have := Znm_lt hn_z
  rw [Znv, Zcl_n (by omega)]
theorem Zcu_of {f_z : Nat → Int32} {u_z n_z : Nat} (h_z : f_z (84 + 125 * u_z) = nI n_z) (hn_z : n_z ≤ 60) : Zcu f_z u_z = n_z := by rw [Zcu, h_z, Zcl_n (by omega)]
theorem Zhl_k {v_z lo hi_z : Int32} (h_z : lo ≤ hi_z) : (if lo < (if v_z < hi_z then v_z else hi_z) then (if v_z < hi_z then v_z else hi_z) else lo) = Zhl v_z lo hi_z := by
  unfold Zhl
  simp only [Zlt_i, Zle_i] at h_z ⊢
  split <;> split <;> split <;> (try split) <;> (first | rfl | (rw [Zeq_i]; omega) | omega)
/-- a_z row's numbers: its kind, m_z, how wide, its tension, tied -/
def Zrw (f_z : Nat → Int32) (i_z : Nat) : Prop := (∃ kd_z, kd_z ≤ 6 ∧ f_z (9 + 5 * i_z) = nI kd_z) ∧ (∃ m_z, m_z ≤ 9 ∧ f_z (10 + 5 * i_z) = nI m_z) ∧ (∃ w_z, 1 ≤ w_z ∧ w_z ≤ 12 ∧ f_z (11 + 5 * i_z) = nI w_z) ∧ (-9 ≤ (f_z (12 + 5 * i_z)).toInt ∧ (f_z (12 + 5 * i_z)).toInt ≤ 9) ∧ (f_z (13 + 5 * i_z) = nI 0 ∨ f_z (13 + 5 * i_z) = nI 1)
def Zyo (f_z : Nat → Int32) (i_z : Nat) : Int32 := Zyn f_z (Zsaid (f_z (9 + 5 * i_z)).toNatClampNeg (f_z (10 + 5 * i_z)).toNatClampNeg (f_z (11 + 5 * i_z)) (f_z (12 + 5 * i_z)) (f_z 2)) (f_z (11 + 5 * i_z)) (f_z (12 + 5 * i_z))
def Zhb (f_z : Nat → Int32) (i_z : Nat) (more : Int32) : Int32 := Zho f_z (f_z (11 + 5 * i_z)) (Zhl (f_z (12 + 5 * i_z) + more) (-(nI 9)) (nI 9)) (f_z (9 + 5 * i_z))
/-- a_z text of the class, told as the reference tells it -/
def Zct (M : Zmem) (t u_z : Nat) (f_z : Nat → Int32) : Prop := ∃ n_z, n_z ≤ 60 ∧ f_z (84 + 125 * u_z) = nI n_z ∧ (∃ n', n' ≤ 60 ∧ M t 2 = nI n') ∧ ((0 < n_z ∧ M t 0 = nI 1 ∧ M t 2 = nI n_z ∧ ∀ i_z, i_z < n_z → Zen u_z (Zgi f_z u_z i_z) (M (t + 1) i_z)) ∨ (n_z = 0 ∧ M t 0 = nI 0))
theorem Zwk_r {w_z : Nat} {t : Int32} (h1_z : 1 ≤ w_z) (h2_z : w_z ≤ 12) (h3_z : -9 ≤ t.toInt ∧ t.toInt ≤ 9) : Zhl (nI w_z * (nI 10 - t)) (nI 0) (nI 999) = nI w_z * (nI 10 - t) := by
  have e1_z : (nI 10 - t).toInt = 10 - t.toInt := by rw [Zsub_i (by rw [Zn_i (by decide)]; omega) (by rw [Zn_i (by decide)]; omega), Zn_i (by decide)]; rfl
  have hb_z : 0 ≤ (w_z : Int) * (10 - t.toInt) ∧ (w_z : Int) * (10 - t.toInt) ≤ 228 := by
    refine ⟨Int.mul_nonneg (by omega) (by omega), ?_⟩
    calc (w_z : Int) * (10 - t.toInt) ≤ 12 * (10 - t.toInt) := Int.mul_le_mul_of_nonneg_right (by omega) (by omega)
      _ ≤ 228 := by omega
  have e2_z : (nI w_z * (nI 10 - t)).toInt = (w_z : Int) * (10 - t.toInt) := by
    rw [Zmul_i (by rw [e1_z, Zn_i (by omega)]; omega) (by rw [e1_z, Zn_i (by omega)]; omega), e1_z, Zn_i (by omega)]
  unfold Zhl
  rw [if_neg (by rw [Zlt_i, e2_z, Zn_i (by decide)]; omega), if_neg (by rw [Zlt_i, e2_z, Zn_i (by decide)]; omega)]
theorem Zhl_in {v_z : Int32} {lo hi_z : Int} {l h_z : Int32} (e1_z : l.toInt = lo) (e2_z : h_z.toInt = hi_z) (hlh : lo ≤ hi_z) : lo ≤ (Zhl v_z l h_z).toInt ∧ (Zhl v_z l h_z).toInt ≤ hi_z := by
  unfold Zhl
  simp only [Zlt_i]
  split
  · omega
  · split <;> omega
theorem Zneg9 : (-(nI 9)).toInt = -9 := Zneg_i (by decide)
theorem Zhb_c {f_z : Nat → Int32} {i_z : Nat} (hr_z : Zrw f_z i_z) (more : Int32) : Zhc f_z (f_z (11 + 5 * i_z)) (Zhl (f_z (12 + 5 * i_z) + more) (-(nI 9)) (nI 9)) (f_z (9 + 5 * i_z)) = Zhb f_z i_z more := by
  unfold Zhb Zho Zhc
  split
  · rfl
  · obtain ⟨-, -, ⟨w_z, h1_z, h2_z, h3_z⟩, -, -⟩ := hr_z
    rw [h3_z, Zwk_r h1_z h2_z (Zhl_in Zneg9 (Zn_i (by decide)) (by decide))]
theorem Znm58 {p_z : Nat → Int32} {u_z n_z d_z : Nat} {a_z b_z c_z : Int32} {g_z : Nat → Zitm} (h_z : ∀ k_z, Znm u_z k_z → p_z k_z = ([a_z, b_z, c_z] : List Int32).getD (Zpn u_z k_z) 0) (hw_z : Zwf u_z g_z n_z d_z) : Zev (fun v_z => p_z v_z.toNatClampNeg) g_z n_z = Zev (Znv u_z a_z b_z c_z) g_z n_z := by
  refine Zev_nm (fun k_z hk_z => ?_) hw_z
  have := Znm_lt hk_z
  rw [Znv_ab u_z a_z b_z c_z k_z hk_z, Zcl_n (by omega)]
  exact h_z k_z hk_z
theorem Zp58_0 (M : Zmem) (b_z w_z t : Int32) : ∀ k_z, Znm 0 k_z → (Zu (Zu (Zu M 58 98 b_z) 58 119 w_z) 58 116 t) 58 k_z = ([b_z, w_z, t] : List Int32).getD (Zpn 0 k_z) 0 := by
  rintro k_z (⟨-, rfl | rfl | rfl⟩ | ⟨h_z, -⟩)
  · rfl
  · rfl
  · rfl
  · cases h_z
theorem Zp58_1 (M : Zmem) (w_z t k' : Int32) : ∀ k_z, Znm 1 k_z → (Zu (Zu (Zu M 58 119 w_z) 58 116 t) 58 107 k') 58 k_z = ([w_z, t, k'] : List Int32).getD (Zpn 1 k_z) 0 := by
  rintro k_z (⟨h_z, -⟩ | ⟨-, rfl | rfl | rfl⟩)
  · cases h_z
  · rfl
  · rfl
  · rfl
theorem Zyn_t {f_z : Nat → Int32} {n_z : Nat} {nm : Int32 → Int32} {b_z w_z t : Int32} (hcn : Zcu f_z 0 = n_z) (hb_z : 0 < n_z) (h_z : Zev nm (Zgi f_z 0) n_z = Zev (Znv 0 b_z w_z t) (Zgi f_z 0) n_z) : Zhl (Ztop (Zev nm (Zgi f_z 0) n_z)) (nI 1) (nI 99) = Zyn f_z b_z w_z t := by
  unfold Zyn
  rw [hcn, if_pos hb_z, Zwkd, hcn, h_z]
theorem Zyn_f {f_z : Nat → Int32} {n_z : Nat} {b_z w_z t : Int32} (hcn : Zcu f_z 0 = n_z) (hb_z : ¬ 0 < n_z) : Zhl b_z (nI 1) (nI 99) = Zyn f_z b_z w_z t := by
  unfold Zyn
  rw [hcn, if_neg hb_z]
theorem Zho_t {f_z : Nat → Int32} {n_z : Nat} {nm : Int32 → Int32} {w_z t k_z : Int32} (hcn : Zcu f_z 1 = n_z) (hb_z : 0 < n_z) (h_z : Zev nm (Zgi f_z 1) n_z = Zev (Znv 1 w_z t k_z) (Zgi f_z 1) n_z) : Zhl (Ztop (Zev nm (Zgi f_z 1) n_z)) (nI 0) (nI 999) = Zho f_z w_z t k_z := by
  unfold Zho
  rw [hcn, if_pos hb_z, Zwkd, hcn, h_z]
theorem Zho_f {f_z : Nat → Int32} {n_z : Nat} {w_z t k_z : Int32} (hcn : Zcu f_z 1 = n_z) (hb_z : ¬ 0 < n_z) : Zhl (w_z * (nI 10 - t)) (nI 0) (nI 999) = Zho f_z w_z t k_z := by
  unfold Zho
  rw [hcn, if_neg hb_z]
theorem Zhc_t {f_z : Nat → Int32} {n_z : Nat} {nm : Int32 → Int32} {w_z t k_z : Int32} (hcn : Zcu f_z 1 = n_z) (hb_z : 0 < n_z) (h_z : Zev nm (Zgi f_z 1) n_z = Zev (Znv 1 w_z t k_z) (Zgi f_z 1) n_z) : Zhl (Ztop (Zev nm (Zgi f_z 1) n_z)) (nI 0) (nI 999) = Zhc f_z w_z t k_z := by
  unfold Zhc
  rw [hcn, if_pos hb_z, Zwkd, hcn, h_z]
theorem Zhc_f {f_z : Nat → Int32} {n_z : Nat} {w_z t k_z : Int32} (hcn : Zcu f_z 1 = n_z) (hb_z : ¬ 0 < n_z) : w_z * (nI 10 - t) = Zhc f_z w_z t k_z := by
  unfold Zhc
  rw [hcn, if_neg hb_z]
theorem Zyo_of {f_z : Nat → Int32} {i_z kd_z m_z : Nat} (h1_z : f_z (9 + 5 * i_z) = nI kd_z) (h2_z : f_z (10 + 5 * i_z) = nI m_z) (hk_z : kd_z ≤ 6) (hm_z : m_z ≤ 9) : Zyo f_z i_z = Zyn f_z (Zsaid kd_z m_z (f_z (11 + 5 * i_z)) (f_z (12 + 5 * i_z)) (f_z 2)) (f_z (11 + 5 * i_z)) (f_z (12 + 5 * i_z)) := by
  unfold Zyo
  rw [h1_z, h2_z, Zcl_n (by omega), Zcl_n (by omega)]

set_option maxRecDepth 20000 in
set_option maxHeartbeats 1000000 in
theorem s_worked (u_z n_z : Nat) (M : Zmem) (hu_z : u_z < 2) (hn_z : M 54 (84 + 125 * u_z) = nI n_z) (hn2 : n_z ≤ 60) (hw_z : Zwf u_z (Zgi (M 54) u_z) n_z 1) : ZC 74 1 [.ref 53, .int (nI u_z)] M (fun r_z M' => r_z = some (.int (Ztop (Zev (fun v_z => M 58 v_z.toNatClampNeg) (Zgi (M 54) u_z) n_z))) ∧ St M M') := by
  refine ZC_of Zt74 Zk74 (Nat.le_of_ble_eq_true rfl) (by decide) rfl (fun X hX hE => ?_)
  have h54_z : ∀ {M1 : Zmem}, St M M1 → ∀ {j_z : Nat}, M1 54 j_z = M 54 j_z := fun h_z => h_z 54 _ rfl
  have L : ∀ (q_z i_z d_z : Nat) (M1 : Zmem), n_z - i_z < q_z → i_z ≤ n_z → St M M1 ∧ (∀ j_z, M1 58 j_z = M 58 j_z) → Zwf u_z (Zgi (M 54) u_z) i_z d_z → Zpl (M1 59) (Zev (fun v_z => M 58 v_z.toNatClampNeg) (Zgi (M 54) u_z) i_z) → ZP X Zt74 (Zsf Zt74 13) [(0, .ref 53), (2, .int (nI (84 + 125 * u_z))), (3, .int (nI d_z)), (4, .int (nI i_z))] [] M1 := by
    intro q_z
    induction q_z with
    | zero => intro i_z d_z M1 hq_z; exact absurd hq_z (Nat.not_lt_zero _)
    | succ q_z ih_z =>
      intro i_z d_z M1 hq_z hi_z hsc0 hwf hpl
      obtain ⟨hsc, hfr⟩ := hsc0
      have hln : (Zev (fun v_z => M 58 v_z.toNatClampNeg) (Zgi (M 54) u_z) i_z).length = d_z := Zwf_len _ hwf
      have hdi : d_z ≤ i_z := Zwf_le hwf
      refine Zgo hX 5 rfl (Zin_n (by omega) (by decide)) ?_
      rw [Zcl_n (show 84 + 125 * u_z < 2 ^ 31 by omega), h54_z hsc, hn_z]
      refine Zs_ige hX (List.cons_ne_nil _ _) (fun h21_z => ?_) (fun h21_z => ?_)
      · skip
        obtain rfl : i_z = n_z := by have := (Zn_le (by omega) (by omega)).mp h21_z; omega
        obtain rfl : d_z = 1 := Zwf_un hwf hw_z
        refine Zgo hX 4 rfl (Zin_n (by decide) (by decide)) ?_
        simp only [Zcl_n, Nat.reducePow, Nat.reduceLT]
        obtain ⟨y_z, hL⟩ : ∃ y_z, Zev (fun v_z => M 58 v_z.toNatClampNeg) (Zgi (M 54) u_z) i_z = [y_z] := by
          match hq0 : Zev (fun v_z => M 58 v_z.toNatClampNeg) (Zgi (M 54) u_z) i_z with
          | [] => rw [hq0] at hln; simp at hln
          | [y_z] => exact ⟨y_z, rfl⟩
          | y_z :: z_z :: r_z => rw [hq0] at hln; simp at hln
        rw [hL] at hpl
        rw [show M1 59 0 = y_z from hpl.1]
        refine Zs_ret hX hE rfl ⟨by rw [hL]; rfl, hsc⟩
      · skip
        have hlt : i_z < n_z := (Nat.lt_or_ge i_z n_z).elim id (fun h_z => absurd ((Zn_le (by omega) (by omega)).mpr h_z) h21_z)
        obtain ⟨dn_z, hwn⟩ := Zwf_pre hw_z (i_z + 1) (by omega)
        obtain ⟨d9_z, hw9, hor⟩ := hwn
        obtain rfl : d9_z = d_z := Zwf_un hw9 hwf
        refine Zgo hX 22 rfl (by dsimp only [ZallP]; simp only [pk_mul, nI_add]; exact ⟨Zin_n (by omega) (by decide), Zin_n (by omega) (by decide)⟩) ?_
        simp only [pk_mul, nI_add]
        rw [Zcl_n (show 84 + 125 * u_z + 1 + 2 * i_z < 2 ^ 31 by omega), Zcl_n (show 84 + 125 * u_z + 2 + 2 * i_z < 2 ^ 31 by omega), h54_z hsc, h54_z hsc, show 84 + 125 * u_z + 1 + 2 * i_z = 85 + 125 * u_z + 2 * i_z by omega, show 84 + 125 * u_z + 2 + 2 * i_z = 86 + 125 * u_z + 2 * i_z by omega]
        rw [show M 54 (85 + 125 * u_z + 2 * i_z) = (Zgi (M 54) u_z i_z).1 from rfl, show M 54 (86 + 125 * u_z + 2 * i_z) = (Zgi (M 54) u_z i_z).2 from rfl]
        rcases hor with ⟨e1_z, ⟨j0_z, hj0, e2_z⟩, rfl⟩ | ⟨e1_z, ⟨c0_z, hc0, e2_z⟩, rfl⟩ | ⟨e1_z, h1_z, rfl⟩ | ⟨e1_z, ⟨c0_z, hc0, e2_z⟩, h2_z, hd3⟩
        · skip
          rw [e1_z]
          refine Zgo hX 1 rfl (by first | exact True.intro | (dsimp only [ZallP]; and_intros <;> (first | decide | ((try simp only [pk_mul, nI_add]); exact Zin_n (by omega) (by decide))))) ?_
          refine Zs_eq hX (List.cons_ne_nil _ _) (fun _ => ?_) (fun q_z => False.elim (by revert q_z; decide))
          refine Zgo hX 4 rfl True.intro ?_
          refine Zs_ne hX (List.cons_ne_nil _ _) (fun q_z => False.elim (by revert q_z; decide)) (fun _ => ?_)
          refine Zgo hX 7 rfl (Zin_n (by omega) (by decide)) ?_
          rw [Zcl_n (show d9_z < 2 ^ 31 by omega)]
          have hsc3 : St M (Zu M1 59 d9_z ((Zgi (M 54) u_z i_z).2)) := hsc.u _ rfl
          have hpl3 : Zpl ((Zu M1 59 d9_z ((Zgi (M 54) u_z i_z).2)) 59) ((Zgi (M 54) u_z i_z).2 :: Zev (fun v_z => M 58 v_z.toNatClampNeg) (Zgi (M 54) u_z) i_z) := by rw [Zu_at]; exact Zpl_push _ hpl hln
          have hev : Zev (fun v_z => M 58 v_z.toNatClampNeg) (Zgi (M 54) u_z) (i_z + 1) = (Zgi (M 54) u_z i_z).2 :: Zev (fun v_z => M 58 v_z.toNatClampNeg) (Zgi (M 54) u_z) i_z := by simp only [Zev, Zit, e1_z, if_true]
          rw [← hev] at hpl3
          have hwf3 : Zwf u_z (Zgi (M 54) u_z) (i_z + 1) (d9_z + 1) := ⟨d9_z, hwf, Or.inl ⟨e1_z, ⟨j0_z, hj0, e2_z⟩, rfl⟩⟩
          refine Zs_sub (l' := [(0, .ref 53), (2, .int (nI (84 + 125 * u_z))), (3, .int (nI d9_z + nI 1)), (4, .int (nI i_z + nI 1))]) rfl ?_
          rw [nI_add]
          rw [nI_add]
          exact ih_z (i_z + 1) _ _ (by omega) (by omega) ⟨hsc3, fun j_z => by rw [Zu_k, if_neg (by omega)]; exact hfr j_z⟩ hwf3 hpl3
        · skip
          rw [e1_z, e2_z]
          have hc1 := Znm_lt hc0
          refine Zgo hX 1 rfl (by first | exact True.intro | (dsimp only [ZallP]; and_intros <;> (first | decide | ((try simp only [pk_mul, nI_add]); exact Zin_n (by omega) (by decide))))) ?_
          refine Zs_eq hX (List.cons_ne_nil _ _) (fun q_z => False.elim (by revert q_z; decide)) (fun _ => ?_)
          refine Zgo hX 2 rfl (by first | exact True.intro | (dsimp only [ZallP]; and_intros <;> (first | decide | ((try simp only [pk_mul, nI_add]); exact Zin_n (by omega) (by decide))))) ?_
          refine Zs_ine hX (List.cons_ne_nil _ _) (fun q_z => False.elim (by revert q_z; decide)) (fun _ => ?_)
          refine Zgo hX 4 rfl (by first | exact True.intro | (dsimp only [ZallP]; and_intros <;> (first | decide | ((try simp only [pk_mul, nI_add]); exact Zin_n (by omega) (by decide))))) ?_
          refine Zs_ne hX (List.cons_ne_nil _ _) (fun _ => ?_) (fun q_z => False.elim (by revert q_z; decide))
          refine Zgo hX 9 rfl (by dsimp only [ZallP]; exact ⟨Zin_n (by omega) (by decide), Zin_n (by omega) (by decide)⟩) ?_
          rw [Zcl_n (show d9_z < 2 ^ 31 by omega), show M1 58 = M1 58 from rfl]
          have h58_z : M1 58 (nI c0_z).toNatClampNeg = M 58 (nI c0_z).toNatClampNeg := hfr _
          rw [h58_z]
          have hsc3 : St M (Zu M1 59 d9_z (M 58 (nI c0_z).toNatClampNeg)) := hsc.u _ rfl
          have hpl3 : Zpl ((Zu M1 59 d9_z (M 58 (nI c0_z).toNatClampNeg)) 59) (M 58 (nI c0_z).toNatClampNeg :: Zev (fun v_z => M 58 v_z.toNatClampNeg) (Zgi (M 54) u_z) i_z) := by rw [Zu_at]; exact Zpl_push _ hpl hln
          have hev : Zev (fun v_z => M 58 v_z.toNatClampNeg) (Zgi (M 54) u_z) (i_z + 1) = M 58 (nI c0_z).toNatClampNeg :: Zev (fun v_z => M 58 v_z.toNatClampNeg) (Zgi (M 54) u_z) i_z := by simp only [Zev, Zit, e1_z, if_neg (show ¬ nI 1 = nI 0 by decide), if_true, e2_z]
          rw [← hev] at hpl3
          have hwf3 : Zwf u_z (Zgi (M 54) u_z) (i_z + 1) (d9_z + 1) := ⟨d9_z, hwf, Or.inr (Or.inl ⟨e1_z, ⟨c0_z, hc0, e2_z⟩, rfl⟩)⟩
          refine Zs_sub (l' := [(0, .ref 53), (2, .int (nI (84 + 125 * u_z))), (3, .int (nI d9_z + nI 1)), (4, .int (nI i_z + nI 1))]) rfl ?_
          rw [nI_add]
          rw [nI_add]
          exact ih_z (i_z + 1) _ _ (by omega) (by omega) ⟨hsc3, fun j_z => by rw [Zu_k, if_neg (by omega)]; exact hfr j_z⟩ hwf3 hpl3
        · skip
          obtain ⟨y_z, r_z, hL⟩ : ∃ y_z r_z, Zev (fun v_z => M 58 v_z.toNatClampNeg) (Zgi (M 54) u_z) i_z = y_z :: r_z := by
            match hq0 : Zev (fun v_z => M 58 v_z.toNatClampNeg) (Zgi (M 54) u_z) i_z with
            | [] => rw [hq0] at hln; simp at hln; omega
            | y_z :: r_z => exact ⟨y_z, r_z, rfl⟩
          rw [hL] at hpl hln
          obtain ⟨d8_z, hd8⟩ : ∃ d8_z, dn_z = d8_z + 1 := ⟨r_z.length, by simp at hln; omega⟩
          subst hd8
          have hlr : r_z.length = d8_z := by simp at hln; omega
          have ey : M1 59 d8_z = y_z := by rw [← hlr]; exact hpl.1
          rw [e1_z]
          refine Zgo hX 1 rfl (by first | exact True.intro | (dsimp only [ZallP]; and_intros <;> (first | decide | ((try simp only [pk_mul, nI_add]); exact Zin_n (by omega) (by decide))))) ?_
          refine Zs_eq hX (List.cons_ne_nil _ _) (fun q_z => False.elim (by revert q_z; decide)) (fun _ => ?_)
          refine Zgo hX 2 rfl (by first | exact True.intro | (dsimp only [ZallP]; and_intros <;> (first | decide | ((try simp only [pk_mul, nI_add]); exact Zin_n (by omega) (by decide))))) ?_
          refine Zs_ine hX (List.cons_ne_nil _ _) (fun _ => ?_) (fun q_z => False.elim (by revert q_z; decide))
          refine Zgo hX 2 rfl (by first | exact True.intro | (dsimp only [ZallP]; and_intros <;> (first | decide | ((try simp only [pk_mul, nI_add]); exact Zin_n (by omega) (by decide))))) ?_
          refine Zs_ine hX (List.cons_ne_nil _ _) (fun q_z => False.elim (by revert q_z; decide)) (fun _ => ?_)
          refine Zgo hX 11 rfl (by show vp_in (nI (d8_z + 1) - nI 1) 64; rw [pk_sub (by omega)]; exact Zin_n (by omega) (by decide)) ?_
          rw [pk_sub (show 1 ≤ d8_z + 1 by omega), show d8_z + 1 - 1 = d8_z by omega, Zcl_n (show d8_z < 2 ^ 31 by omega), ey]
          refine Zs_ne hX (List.cons_ne_nil _ _) (fun h115_z => ?_) (fun h115_z => ?_)
          · skip
            refine Zgo hX 5 rfl (Zin_n (by omega) (by decide)) ?_
            have hv_z : (if y_z = 0 then nI 1 else nI 0) = nI 0 := if_neg h115_z
            rw [Zcl_n (show d8_z < 2 ^ 31 by omega)]
            have hsc3 : St M (Zu M1 59 d8_z (nI 0)) := hsc.u _ rfl
            have hpl3 : Zpl ((Zu M1 59 d8_z (nI 0)) 59) (nI 0 :: r_z) := by rw [Zu_at]; exact Zpl_push _ hpl.2 hlr
            have hev : Zev (fun v_z => M 58 v_z.toNatClampNeg) (Zgi (M 54) u_z) (i_z + 1) = (if y_z = 0 then nI 1 else nI 0) :: r_z := by simp only [Zev, Zit, e1_z, hL, if_neg (show ¬ nI 2 = nI 0 by decide), if_neg (show ¬ nI 2 = nI 1 by decide), if_true]
            rw [hv_z] at hev
            rw [← hev] at hpl3
            have hwf3 : Zwf u_z (Zgi (M 54) u_z) (i_z + 1) (d8_z + 1) := ⟨d8_z + 1, hwf, Or.inr (Or.inr (Or.inl ⟨e1_z, by omega, rfl⟩))⟩
            refine Zs_sub (l' := [(0, .ref 53), (2, .int (nI (84 + 125 * u_z))), (3, .int (nI (d8_z + 1))), (4, .int (nI i_z + nI 1))]) rfl ?_
            rw [nI_add]
            exact ih_z (i_z + 1) _ _ (by omega) (by omega) ⟨hsc3, fun j_z => by rw [Zu_k, if_neg (by omega)]; exact hfr j_z⟩ hwf3 hpl3
          · skip
            refine Zgo hX 6 rfl (Zin_n (by omega) (by decide)) ?_
            have hv_z : (if y_z = 0 then nI 1 else nI 0) = nI 1 := if_pos h115_z
            rw [Zcl_n (show d8_z < 2 ^ 31 by omega)]
            have hsc3 : St M (Zu M1 59 d8_z (nI 1)) := hsc.u _ rfl
            have hpl3 : Zpl ((Zu M1 59 d8_z (nI 1)) 59) (nI 1 :: r_z) := by rw [Zu_at]; exact Zpl_push _ hpl.2 hlr
            have hev : Zev (fun v_z => M 58 v_z.toNatClampNeg) (Zgi (M 54) u_z) (i_z + 1) = (if y_z = 0 then nI 1 else nI 0) :: r_z := by simp only [Zev, Zit, e1_z, hL, if_neg (show ¬ nI 2 = nI 0 by decide), if_neg (show ¬ nI 2 = nI 1 by decide), if_true]
            rw [hv_z] at hev
            rw [← hev] at hpl3
            have hwf3 : Zwf u_z (Zgi (M 54) u_z) (i_z + 1) (d8_z + 1) := ⟨d8_z + 1, hwf, Or.inr (Or.inr (Or.inl ⟨e1_z, by omega, rfl⟩))⟩
            refine Zs_sub (l' := [(0, .ref 53), (2, .int (nI (84 + 125 * u_z))), (3, .int (nI (d8_z + 1))), (4, .int (nI i_z + nI 1))]) rfl ?_
            rw [nI_add]
            exact ih_z (i_z + 1) _ _ (by omega) (by omega) ⟨hsc3, fun j_z => by rw [Zu_k, if_neg (by omega)]; exact hfr j_z⟩ hwf3 hpl3
        · skip
          obtain ⟨y_z, x_z, r_z, hL⟩ : ∃ y_z x_z r_z, Zev (fun v_z => M 58 v_z.toNatClampNeg) (Zgi (M 54) u_z) i_z = y_z :: x_z :: r_z := by
            match hq0 : Zev (fun v_z => M 58 v_z.toNatClampNeg) (Zgi (M 54) u_z) i_z with
            | [] => rw [hq0] at hln; simp at hln; omega
            | [z_z] => rw [hq0] at hln; simp at hln; omega
            | y_z :: x_z :: r_z => exact ⟨y_z, x_z, r_z, rfl⟩
          rw [hL] at hpl hln
          obtain ⟨d8_z, rfl⟩ : ∃ d8_z, d9_z = d8_z + 1 + 1 := ⟨r_z.length, by simp at hln; omega⟩
          have hlr : r_z.length = d8_z := by simp at hln; omega
          have ey : M1 59 (d8_z + 1) = y_z := by have h_z := hpl.1; rw [← hlr]; simpa using h_z
          have ex : M1 59 d8_z = x_z := by rw [← hlr]; exact hpl.2.1
          obtain rfl : dn_z = d8_z + 1 := by omega
          have hc1 := Zsg_lt hc0
          rw [e1_z, e2_z]
          refine Zgo hX 1 rfl (by first | exact True.intro | (dsimp only [ZallP]; and_intros <;> (first | decide | ((try simp only [pk_mul, nI_add]); exact Zin_n (by omega) (by decide))))) ?_
          refine Zs_eq hX (List.cons_ne_nil _ _) (fun q_z => False.elim (by revert q_z; decide)) (fun _ => ?_)
          refine Zgo hX 2 rfl (by first | exact True.intro | (dsimp only [ZallP]; and_intros <;> (first | decide | ((try simp only [pk_mul, nI_add]); exact Zin_n (by omega) (by decide))))) ?_
          refine Zs_ine hX (List.cons_ne_nil _ _) (fun _ => ?_) (fun q_z => False.elim (by revert q_z; decide))
          refine Zgo hX 2 rfl (by first | exact True.intro | (dsimp only [ZallP]; and_intros <;> (first | decide | ((try simp only [pk_mul, nI_add]); exact Zin_n (by omega) (by decide))))) ?_
          refine Zs_ine hX (List.cons_ne_nil _ _) (fun _ => ?_) (fun q_z => False.elim (by revert q_z; decide))
          refine Zgo hX 17 rfl (by dsimp only [ZallP]; have e_z : nI (d8_z + 1 + 1) + -(nI 1) = nI (d8_z + 1) := Zpred _; simp only [e_z]; rw [pk_sub (show 1 ≤ d8_z + 1 by omega)]; exact ⟨Zin_n (by omega) (by decide), Zin_n (by omega) (by decide)⟩) ?_
          have e_z : nI (d8_z + 1 + 1) + -(nI 1) = nI (d8_z + 1) := Zpred _
          simp only [e_z]
          rw [pk_sub (show 1 ≤ d8_z + 1 by omega), show d8_z + 1 - 1 = d8_z by omega, Zcl_n (show d8_z < 2 ^ 31 by omega), Zcl_n (show d8_z + 1 < 2 ^ 31 by omega), ey, ex]
          refine Zs_calls hX (List.cons_ne_nil _ _) (by decide) (s_joined c0_z _ _ _ hc0) (by decide) rfl rfl (by decide) (Nat.le_of_ble_eq_true rfl) (fun r_z M' hc_z => ?_)
          obtain ⟨rfl, rfl⟩ := hc_z
          refine Zgo hX 3 rfl (Zin_n (by omega) (by decide)) ?_
          rw [Zcl_n (show d8_z < 2 ^ 31 by omega)]
          have hsc3 : St M (Zu M1 59 d8_z (Zjn c0_z x_z y_z)) := hsc.u _ rfl
          have hpl3 : Zpl ((Zu M1 59 d8_z (Zjn c0_z x_z y_z)) 59) (Zjn c0_z x_z y_z :: r_z) := by rw [Zu_at]; exact Zpl_push _ hpl.2.2 hlr
          have hev : Zev (fun v_z => M 58 v_z.toNatClampNeg) (Zgi (M 54) u_z) (i_z + 1) = Zjn c0_z x_z y_z :: r_z := by simp only [Zev, Zit, e1_z, hL, e2_z, if_neg (show ¬ nI 3 = nI 0 by decide), if_neg (show ¬ nI 3 = nI 1 by decide), if_neg (show ¬ nI 3 = nI 2 by decide), Zcl_n (show c0_z < 2 ^ 31 by omega)]
          rw [← hev] at hpl3
          have hwf3 : Zwf u_z (Zgi (M 54) u_z) (i_z + 1) (d8_z + 1) := ⟨d8_z + 1 + 1, hwf, Or.inr (Or.inr (Or.inr ⟨e1_z, ⟨c0_z, hc0, e2_z⟩, h2_z, hd3⟩))⟩
          refine Zs_sub (l' := [(0, .ref 53), (2, .int (nI (84 + 125 * u_z))), (3, .int (nI (d8_z + 1))), (4, .int (nI i_z + nI 1))]) rfl ?_
          rw [nI_add]
          exact ih_z (i_z + 1) _ _ (by omega) (by omega) ⟨hsc3, fun j_z => by rw [Zu_k, if_neg (by omega)]; exact hfr j_z⟩ hwf3 hpl3
  refine Zgo hX 10 rfl True.intro ?_
  simp only [pk_mul, nI_add]
  refine Zs_sub (l' := [(0, .ref 53), (2, .int (nI (84 + 125 * u_z))), (3, .int (nI 0)), (4, .int (nI 0))]) rfl ?_
  exact L (n_z + 1) 0 0 _ (by omega) (by omega) ⟨St.rf M, fun _ => rfl⟩ rfl True.intro

set_option maxRecDepth 20000 in
theorem s_yarnTold (b_z w_z t : Int32) (M : Zmem) (hx_z : Ztx (M 54) 0) : ZC 76 2 [.ref 53, .int b_z, .int w_z, .int t] M (fun r_z M' => r_z = some (.int (Zyn (M 54) b_z w_z t)) ∧ St M M') := by
  refine ZC_of Zt76 Zk76 (Nat.le_of_ble_eq_true rfl) (by decide) rfl (fun X hX hE => ?_)
  obtain ⟨n_z, hn2, hn_z, hw_z⟩ := hx_z
  have hcn : Zcu (M 54) 0 = n_z := Zcu_of hn_z hn2
  have hsc : St M (Zu (Zu (Zu M 58 98 b_z) 58 119 w_z) 58 116 t) := (((St.rf M).u _ rfl).u _ rfl).u _ rfl
  refine Zgo hX 17 rfl (by dsimp only [ZallP]; exact ⟨⟨Zin_n (by decide) (by decide), Zin_n (by decide) (by decide)⟩, Zin_n (by decide) (by decide)⟩) ?_
  simp only [Zcl_n, Nat.reducePow, Nat.reduceLT]
  refine Zs_callv hX (List.cons_ne_nil _ _) (s_hasText 0 n_z _ (by decide) hn_z hn2) (by decide) (by decide) rfl rfl rfl (by decide) (Nat.le_of_ble_eq_true rfl) (fun r_z M' hc_z => ?_)
  rcases hc_z with ⟨⟨rfl, hb_z⟩ | ⟨rfl, hb_z⟩, rfl⟩
  · skip
    refine Zs_eq hX (List.cons_ne_nil _ _) (fun q_z => absurd q_z (by decide)) (fun _ => ?_)
    refine Zgo hX 2 rfl (by first | exact True.intro | (dsimp only [ZallP]; and_intros <;> (first | decide | ((try simp only [pk_mul, nI_add]); exact Zin_n (by omega) (by decide))))) ?_
    refine Zs_callv hX (List.cons_ne_nil _ _) (s_worked 0 n_z _ (by decide) hn_z hn2 (hw_z hb_z)) (by decide) (by decide) rfl rfl rfl (by decide) (Nat.le_of_ble_eq_true rfl) (fun r_z M' hc_z => ?_)
    obtain ⟨rfl, hs2⟩ := hc_z
    refine Zgo hX 3 rfl (by first | exact True.intro | (dsimp only [ZallP]; and_intros <;> (first | decide | ((try simp only [pk_mul, nI_add]); exact Zin_n (by omega) (by decide))))) ?_
    refine Zs_calls hX (List.cons_ne_nil _ _) (by decide) (s_held _ _ _ _) (by decide) rfl rfl (by decide) (Nat.le_of_ble_eq_true rfl) (fun r_z M' hc_z => ?_)
    obtain ⟨rfl, rfl⟩ := hc_z
    refine Zs_ret hX hE rfl ⟨?_, by first | exact hsc | exact hsc.tr hs2⟩
    first | (exact congrArg (fun z_z => some (Value.int z_z)) ((show _ = Zhl (b_z) (nI 1) (nI 99) from rfl).trans (Zyn_f (w_z := w_z) hcn hb_z))) | (have e_z := Zyn_t hcn hb_z (Znm58 (Zp58_0 M b_z w_z t) (hw_z hb_z)); rw [← e_z]; rfl)
  · skip
    refine Zs_eq hX (List.cons_ne_nil _ _) (fun _ => ?_) (fun q_z => absurd rfl q_z)
    refine Zgo hX 3 rfl (by first | exact True.intro | (dsimp only [ZallP]; and_intros <;> (first | decide | ((try simp only [pk_mul, nI_add]); exact Zin_n (by omega) (by decide))))) ?_
    refine Zs_calls hX (List.cons_ne_nil _ _) (by decide) (s_held _ _ _ _) (by decide) rfl rfl (by decide) (Nat.le_of_ble_eq_true rfl) (fun r_z M' hc_z => ?_)
    obtain ⟨rfl, rfl⟩ := hc_z
    refine Zs_ret hX hE rfl ⟨?_, by first | exact hsc | exact hsc.tr hs2⟩
    first | (exact congrArg (fun z_z => some (Value.int z_z)) ((show _ = Zhl (b_z) (nI 1) (nI 99) from rfl).trans (Zyn_f (w_z := w_z) hcn hb_z))) | (have e_z := Zyn_t hcn hb_z (Znm58 (Zp58_0 M b_z w_z t) (hw_z hb_z)); rw [← e_z]; rfl)

set_option maxRecDepth 20000 in
theorem s_holdsTold (w_z t k_z : Int32) (M : Zmem) (hx_z : Ztx (M 54) 1) : ZC 77 2 [.ref 53, .int w_z, .int t, .int k_z] M (fun r_z M' => r_z = some (.int (Zho (M 54) w_z t k_z)) ∧ St M M') := by
  refine ZC_of Zt77 Zk77 (Nat.le_of_ble_eq_true rfl) (by decide) rfl (fun X hX hE => ?_)
  obtain ⟨n_z, hn2, hn_z, hw_z⟩ := hx_z
  have hcn : Zcu (M 54) 1 = n_z := Zcu_of hn_z hn2
  have hsc : St M (Zu (Zu (Zu M 58 119 w_z) 58 116 t) 58 107 k_z) := (((St.rf M).u _ rfl).u _ rfl).u _ rfl
  refine Zgo hX 17 rfl (by dsimp only [ZallP]; exact ⟨⟨Zin_n (by decide) (by decide), Zin_n (by decide) (by decide)⟩, Zin_n (by decide) (by decide)⟩) ?_
  simp only [Zcl_n, Nat.reducePow, Nat.reduceLT]
  refine Zs_callv hX (List.cons_ne_nil _ _) (s_hasText 1 n_z _ (by decide) hn_z hn2) (by decide) (by decide) rfl rfl rfl (by decide) (Nat.le_of_ble_eq_true rfl) (fun r_z M' hc_z => ?_)
  rcases hc_z with ⟨⟨rfl, hb_z⟩ | ⟨rfl, hb_z⟩, rfl⟩
  · skip
    refine Zs_eq hX (List.cons_ne_nil _ _) (fun q_z => absurd q_z (by decide)) (fun _ => ?_)
    refine Zgo hX 2 rfl (by first | exact True.intro | (dsimp only [ZallP]; and_intros <;> (first | decide | ((try simp only [pk_mul, nI_add]); exact Zin_n (by omega) (by decide))))) ?_
    refine Zs_callv hX (List.cons_ne_nil _ _) (s_worked 1 n_z _ (by decide) hn_z hn2 (hw_z hb_z)) (by decide) (by decide) rfl rfl rfl (by decide) (Nat.le_of_ble_eq_true rfl) (fun r_z M' hc_z => ?_)
    obtain ⟨rfl, hs2⟩ := hc_z
    refine Zgo hX 3 rfl (by first | exact True.intro | (dsimp only [ZallP]; and_intros <;> (first | decide | ((try simp only [pk_mul, nI_add]); exact Zin_n (by omega) (by decide))))) ?_
    refine Zs_calls hX (List.cons_ne_nil _ _) (by decide) (s_held _ _ _ _) (by decide) rfl rfl (by decide) (Nat.le_of_ble_eq_true rfl) (fun r_z M' hc_z => ?_)
    obtain ⟨rfl, rfl⟩ := hc_z
    refine Zs_ret hX hE rfl ⟨?_, by first | exact hsc | exact hsc.tr hs2⟩
    first | (exact congrArg (fun z_z => some (Value.int z_z)) ((show _ = Zhl (w_z * (nI 10 - t)) (nI 0) (nI 999) from rfl).trans (Zho_f (w_z := w_z) hcn hb_z))) | (have e_z := Zho_t hcn hb_z (Znm58 (Zp58_1 M w_z t k_z) (hw_z hb_z)); rw [← e_z]; rfl)
  · skip
    refine Zs_eq hX (List.cons_ne_nil _ _) (fun _ => ?_) (fun q_z => absurd rfl q_z)
    refine Zgo hX 7 rfl (by first | exact True.intro | (dsimp only [ZallP]; and_intros <;> (first | decide | ((try simp only [pk_mul, nI_add]); exact Zin_n (by omega) (by decide))))) ?_
    refine Zs_calls hX (List.cons_ne_nil _ _) (by decide) (s_held _ _ _ _) (by decide) rfl rfl (by decide) (Nat.le_of_ble_eq_true rfl) (fun r_z M' hc_z => ?_)
    obtain ⟨rfl, rfl⟩ := hc_z
    refine Zs_ret hX hE rfl ⟨?_, by first | exact hsc | exact hsc.tr hs2⟩
    first | (exact congrArg (fun z_z => some (Value.int z_z)) ((show _ = Zhl (w_z * (nI 10 - t)) (nI 0) (nI 999) from rfl).trans (Zho_f (w_z := w_z) hcn hb_z))) | (have e_z := Zho_t hcn hb_z (Znm58 (Zp58_1 M w_z t k_z) (hw_z hb_z)); rw [← e_z]; rfl)

set_option maxRecDepth 20000 in
theorem s_yarnAs (kd_z m_z : Nat) (w_z t : Int32) (M : Zmem) (hkd : kd_z ≤ 6) (hm_z : m_z ≤ 9) (hx_z : Ztx (M 54) 0) : ZC 78 3 [.ref 53, .int (nI (10 * kd_z + m_z)), .int w_z, .int t] M (fun r_z M' => r_z = some (.int (Zyn (M 54) (Zsaid kd_z m_z w_z t (M 54 2)) w_z t)) ∧ St M M') := by
  refine ZC_of Zt78 Zk78 (Nat.le_of_ble_eq_true rfl) (by decide) rfl (fun X hX hE => ?_)
  have e10 : nI (10 * kd_z + m_z) / nI 10 = nI kd_z := by rw [pk_div (by omega) (by decide) (by decide)]; congr 1; omega
  have r10 : nI (10 * kd_z + m_z) - nI (10 * kd_z + m_z) / nI 10 * nI 10 = nI m_z := by rw [pk_rem (by omega) (by decide) (by decide)]; congr 1; omega
  refine Zgo hX 10 rfl (by first | exact True.intro | (dsimp only [ZallP]; and_intros <;> (first | decide | ((try simp only [pk_mul, nI_add]); exact Zin_n (by omega) (by decide))))) ?_
  rw [r10, e10]
  refine Zs_callv hX (List.cons_ne_nil _ _) (s_saidOf kd_z m_z _ _ _ hkd hm_z) (by decide) (by decide) rfl rfl rfl (by decide) (Nat.le_of_ble_eq_true rfl) (fun r_z M' hc_z => ?_)
  obtain ⟨rfl, rfl⟩ := hc_z
  refine Zgo hX 2 rfl (by first | exact True.intro | (dsimp only [ZallP]; and_intros <;> (first | decide | ((try simp only [pk_mul, nI_add]); exact Zin_n (by omega) (by decide))))) ?_
  refine Zs_callv hX (List.cons_ne_nil _ _) (s_yarnTold _ _ _ _ hx_z) (by decide) (by decide) rfl rfl rfl (by decide) (Nat.le_of_ble_eq_true rfl) (fun r_z M' hc_z => ?_)
  obtain ⟨rfl, hs2⟩ := hc_z
  refine Zs_ret hX hE rfl ⟨rfl, hs2⟩

set_option maxRecDepth 20000 in
theorem s_yarnOf (i_z : Nat) (M : Zmem) (hi_z : i_z < 15) (hr_z : Zrw (M 54) i_z) (hx_z : Ztx (M 54) 0) : ZC 79 4 [.ref 53, .int (nI i_z)] M (fun r_z M' => r_z = some (.int (Zyo (M 54) i_z)) ∧ St M M') := by
  refine ZC_of Zt79 Zk79 (Nat.le_of_ble_eq_true rfl) (by decide) rfl (fun X hX hE => ?_)
  obtain ⟨⟨kd_z, hkd, e1_z⟩, ⟨m_z, hm_z, e2_z⟩, -, -, -⟩ := hr_z
  refine Zgo hX 5 rfl (by first | exact True.intro | (dsimp only [ZallP]; and_intros <;> (first | decide | ((try simp only [pk_mul, nI_add]); exact Zin_n (by omega) (by decide))))) ?_
  refine Zs_callv hX (List.cons_ne_nil _ _) (s_its i_z 0 _ hi_z (by decide)) (by decide) (by decide) rfl rfl rfl (by decide) (Nat.le_of_ble_eq_true rfl) (fun r_z M' hc_z => ?_)
  obtain ⟨rfl, rfl⟩ := hc_z
  rw [show M 54 (9 + 5 * i_z + 0) = nI kd_z from e1_z]
  refine Zgo hX 4 rfl (by first | exact True.intro | (dsimp only [ZallP]; and_intros <;> (first | decide | ((try simp only [pk_mul, nI_add]); exact Zin_n (by omega) (by decide))))) ?_
  refine Zs_callv hX (List.cons_ne_nil _ _) (s_its i_z 1 _ hi_z (by decide)) (by decide) (by decide) rfl rfl rfl (by decide) (Nat.le_of_ble_eq_true rfl) (fun r_z M' hc_z => ?_)
  obtain ⟨rfl, rfl⟩ := hc_z
  rw [show 9 + 5 * i_z + 1 = 10 + 5 * i_z by omega, e2_z]
  refine Zgo hX 4 rfl (by first | exact True.intro | (dsimp only [ZallP]; and_intros <;> (first | decide | ((try simp only [pk_mul, nI_add]); exact Zin_n (by omega) (by decide))))) ?_
  rw [pk_mul, nI_add]
  refine Zs_callv hX (List.cons_ne_nil _ _) (s_its i_z 2 _ hi_z (by decide)) (by decide) (by decide) rfl rfl rfl (by decide) (Nat.le_of_ble_eq_true rfl) (fun r_z M' hc_z => ?_)
  obtain ⟨rfl, rfl⟩ := hc_z
  rw [show 9 + 5 * i_z + 2 = 11 + 5 * i_z by omega]
  refine Zgo hX 3 rfl (by first | exact True.intro | (dsimp only [ZallP]; and_intros <;> (first | decide | ((try simp only [pk_mul, nI_add]); exact Zin_n (by omega) (by decide))))) ?_
  refine Zs_callv hX (List.cons_ne_nil _ _) (s_its i_z 3 _ hi_z (by decide)) (by decide) (by decide) rfl rfl rfl (by decide) (Nat.le_of_ble_eq_true rfl) (fun r_z M' hc_z => ?_)
  obtain ⟨rfl, rfl⟩ := hc_z
  rw [show 9 + 5 * i_z + 3 = 12 + 5 * i_z by omega]
  refine Zs_callv hX (List.cons_ne_nil _ _) (s_yarnAs kd_z m_z _ _ _ hkd hm_z hx_z) (by decide) (by decide) rfl rfl rfl (by decide) (Nat.le_of_ble_eq_true rfl) (fun r_z M' hc_z => ?_)
  obtain ⟨rfl, hs2⟩ := hc_z
  refine Zs_ret hX hE rfl ⟨by rw [Zyo_of e1_z e2_z hkd hm_z], hs2⟩

set_option maxRecDepth 20000 in
theorem s_holdsBy (i_z : Nat) (more : Int32) (M : Zmem) (hi_z : i_z < 15) (hx_z : Ztx (M 54) 1) : ZC 80 3 [.ref 53, .int (nI i_z), .int more] M (fun r_z M' => r_z = some (.int (Zhb (M 54) i_z more)) ∧ St M M') := by
  refine ZC_of Zt80 Zk80 (Nat.le_of_ble_eq_true rfl) (by decide) rfl (fun X hX hE => ?_)
  refine Zgo hX 4 rfl (by first | exact True.intro | (dsimp only [ZallP]; and_intros <;> (first | decide | ((try simp only [pk_mul, nI_add]); exact Zin_n (by omega) (by decide))))) ?_
  refine Zs_callv hX (List.cons_ne_nil _ _) (s_its i_z 2 _ hi_z (by decide)) (by decide) (by decide) rfl rfl rfl (by decide) (Nat.le_of_ble_eq_true rfl) (fun r_z M' hc_z => ?_)
  obtain ⟨rfl, rfl⟩ := hc_z
  rw [show 9 + 5 * i_z + 2 = 11 + 5 * i_z by omega]
  refine Zgo hX 3 rfl (by first | exact True.intro | (dsimp only [ZallP]; and_intros <;> (first | decide | ((try simp only [pk_mul, nI_add]); exact Zin_n (by omega) (by decide))))) ?_
  refine Zs_callv hX (List.cons_ne_nil _ _) (s_its i_z 3 _ hi_z (by decide)) (by decide) (by decide) rfl rfl rfl (by decide) (Nat.le_of_ble_eq_true rfl) (fun r_z M' hc_z => ?_)
  obtain ⟨rfl, rfl⟩ := hc_z
  rw [show 9 + 5 * i_z + 3 = 12 + 5 * i_z by omega]
  refine Zgo hX 4 rfl (by first | exact True.intro | (dsimp only [ZallP]; and_intros <;> (first | decide | ((try simp only [pk_mul, nI_add]); exact Zin_n (by omega) (by decide))))) ?_
  refine Zs_calls hX (List.cons_ne_nil _ _) (by decide) (s_held _ _ _ _) (by decide) rfl rfl (by decide) (Nat.le_of_ble_eq_true rfl) (fun r_z M' hc_z => ?_)
  obtain ⟨rfl, rfl⟩ := hc_z
  refine Zgo hX 3 rfl (by first | exact True.intro | (dsimp only [ZallP]; and_intros <;> (first | decide | ((try simp only [pk_mul, nI_add]); exact Zin_n (by omega) (by decide))))) ?_
  refine Zs_callv hX (List.cons_ne_nil _ _) (s_its i_z 0 _ hi_z (by decide)) (by decide) (by decide) rfl rfl rfl (by decide) (Nat.le_of_ble_eq_true rfl) (fun r_z M' hc_z => ?_)
  obtain ⟨rfl, rfl⟩ := hc_z
  rw [show 9 + 5 * i_z + 0 = 9 + 5 * i_z by omega]
  refine Zs_callv hX (List.cons_ne_nil _ _) (s_holdsTold _ _ _ _ hx_z) (by decide) (by decide) rfl rfl rfl (by decide) (Nat.le_of_ble_eq_true rfl) (fun r_z M' hc_z => ?_)
  obtain ⟨rfl, hs2⟩ := hc_z
  refine Zs_ret hX hE rfl ⟨rfl, hs2⟩

set_option maxRecDepth 20000 in
theorem k_given0 (f_z : Nat → Int32) (a_z b_z c_z : Int32) (M : Zmem) (hc_z : Zct M 11 0 f_z) (hw_z : Ztx f_z 0) : ZC 172 2 [.ref 1, .int (nI 0), .int a_z, .int b_z, .int c_z] M (fun r_z M' => r_z = some (.int (Zyn f_z a_z b_z c_z)) ∧ St M M') := by
  refine ZC_of Zt172 Zk172 (Nat.le_of_ble_eq_true rfl) (by decide) rfl (fun X hX hE => ?_)
  obtain ⟨n_z, hn2, hn_z, ⟨n9, hn9, hs9⟩, hor⟩ := hc_z
  have hcn : Zcu f_z 0 = n_z := Zcu_of hn_z hn2
  refine Zgo hX 3 rfl (by first | exact True.intro | (dsimp only [ZallP]; and_intros <;> (first | decide | ((try simp only [pk_mul, nI_add]); exact Zin_n (by omega) (by decide))))) ?_
  refine Zs_aald hX (List.cons_ne_nil _ _) (by decide) rfl (by decide) (j := 0) rfl (by decide) (by decide) rfl ?_
  refine Zgo hX 2 rfl (by first | exact True.intro | (dsimp only [ZallP]; and_intros <;> (first | decide | ((try simp only [pk_mul, nI_add]); exact Zin_n (by omega) (by decide))))) ?_
  refine Zs_ne hX (List.cons_ne_nil _ _) (fun q_z => False.elim (by revert q_z; decide)) (fun _ => ?_)
  refine Zgo hX 2 rfl (by first | exact True.intro | (dsimp only [ZallP]; and_intros <;> (first | decide | ((try simp only [pk_mul, nI_add]); exact Zin_n (by omega) (by decide))))) ?_
  rcases hor with ⟨h0_z, k1_z, k2_z, k3⟩ | ⟨h0_z, k1_z⟩
  · skip
    rw [k1_z]
    have hwf := (show ∃ n_z, n_z ≤ 60 ∧ f_z (84 + 125 * 0) = nI n_z ∧ (0 < n_z → Zwf 0 (Zgi f_z 0) n_z 1) from hw_z)
    obtain ⟨n8, h8_z, e8, hw8⟩ := hwf
    obtain rfl : n_z = n8 := Zeq (by omega) (by omega) (hn_z.symm.trans e8)
    have hwf := hw8 h0_z
    refine Zs_eq hX (List.cons_ne_nil _ _) (fun q_z => False.elim (by revert q_z; decide)) (fun _ => ?_)
    refine Zgo hX 4 rfl (by first | exact True.intro | (dsimp only [ZallP]; and_intros <;> (first | decide | ((try simp only [pk_mul, nI_add]); exact Zin_n (by omega) (by decide))))) ?_
    refine Zs_callv hX (List.cons_ne_nil _ _) (k_worked11 n_z (Zgi f_z 0) (Znv 0 a_z b_z c_z) _ _ _ _ k2_z hn2 hwf k3 (Znv_ab 0 a_z b_z c_z)) (by decide) (by decide) rfl rfl rfl (by decide) (Nat.le_of_ble_eq_true rfl) (fun r_z M' hc_z => ?_)
    obtain ⟨rfl, hs2⟩ := hc_z
    refine Zgo hX 3 rfl (by first | exact True.intro | (dsimp only [ZallP]; and_intros <;> (first | decide | ((try simp only [pk_mul, nI_add]); exact Zin_n (by omega) (by decide))))) ?_
    refine Zs_calls hX (List.cons_ne_nil _ _) (by decide) (k_held _ _ _ _) (by decide) rfl rfl (by decide) (Nat.le_of_ble_eq_true rfl) (fun r_z M' hc_z => ?_)
    obtain ⟨rfl, rfl⟩ := hc_z
    rw [Zhl_k (by decide)]
    refine Zs_ret hX hE rfl ⟨congrArg (fun z_z => some (Value.int z_z)) (Zyn_t hcn h0_z rfl), hs2⟩
  · skip
    rw [k1_z]
    refine Zs_eq hX (List.cons_ne_nil _ _) (fun _ => ?_) (fun q_z => False.elim (by revert q_z; decide))
    refine Zgo hX 3 rfl (by first | exact True.intro | (dsimp only [ZallP]; and_intros <;> (first | decide | ((try simp only [pk_mul, nI_add]); exact Zin_n (by omega) (by decide))))) ?_
    refine Zs_calls hX (List.cons_ne_nil _ _) (by decide) (k_held _ _ _ _) (by decide) rfl rfl (by decide) (Nat.le_of_ble_eq_true rfl) (fun r_z M' hc_z => ?_)
    obtain ⟨rfl, rfl⟩ := hc_z
    rw [Zhl_k (by decide)]
    refine Zs_ret hX hE rfl ⟨congrArg (fun z_z => some (Value.int z_z)) (Zyn_f hcn (by omega)), St.rf _⟩

set_option maxRecDepth 20000 in
theorem k_given1 (f_z : Nat → Int32) (a_z b_z c_z : Int32) (M : Zmem) (hc_z : Zct M 14 1 f_z) (hw_z : Ztx f_z 1) : ZC 172 2 [.ref 1, .int (nI 1), .int a_z, .int b_z, .int c_z] M (fun r_z M' => r_z = some (.int (Zhc f_z a_z b_z c_z)) ∧ St M M') := by
  refine ZC_of Zt172 Zk172 (Nat.le_of_ble_eq_true rfl) (by decide) rfl (fun X hX hE => ?_)
  obtain ⟨n_z, hn2, hn_z, ⟨n9, hn9, hs9⟩, hor⟩ := hc_z
  have hcn : Zcu f_z 1 = n_z := Zcu_of hn_z hn2
  refine Zgo hX 3 rfl (by first | exact True.intro | (dsimp only [ZallP]; and_intros <;> (first | decide | ((try simp only [pk_mul, nI_add]); exact Zin_n (by omega) (by decide))))) ?_
  refine Zs_aald hX (List.cons_ne_nil _ _) (by decide) rfl (by decide) (j := 1) rfl (by decide) (by decide) rfl ?_
  refine Zgo hX 2 rfl (by first | exact True.intro | (dsimp only [ZallP]; and_intros <;> (first | decide | ((try simp only [pk_mul, nI_add]); exact Zin_n (by omega) (by decide))))) ?_
  refine Zs_ne hX (List.cons_ne_nil _ _) (fun _ => ?_) (fun q_z => False.elim (by revert q_z; decide))
  refine Zgo hX 2 rfl (by first | exact True.intro | (dsimp only [ZallP]; and_intros <;> (first | decide | ((try simp only [pk_mul, nI_add]); exact Zin_n (by omega) (by decide))))) ?_
  rcases hor with ⟨h0_z, k1_z, k2_z, k3⟩ | ⟨h0_z, k1_z⟩
  · skip
    rw [k1_z]
    have hwf := (show ∃ n_z, n_z ≤ 60 ∧ f_z (84 + 125 * 1) = nI n_z ∧ (0 < n_z → Zwf 1 (Zgi f_z 1) n_z 1) from hw_z)
    obtain ⟨n8, h8_z, e8, hw8⟩ := hwf
    obtain rfl : n_z = n8 := Zeq (by omega) (by omega) (hn_z.symm.trans e8)
    have hwf := hw8 h0_z
    refine Zs_eq hX (List.cons_ne_nil _ _) (fun q_z => False.elim (by revert q_z; decide)) (fun _ => ?_)
    refine Zgo hX 4 rfl (by first | exact True.intro | (dsimp only [ZallP]; and_intros <;> (first | decide | ((try simp only [pk_mul, nI_add]); exact Zin_n (by omega) (by decide))))) ?_
    refine Zs_callv hX (List.cons_ne_nil _ _) (k_worked14 n_z (Zgi f_z 1) (Znv 1 a_z b_z c_z) _ _ _ _ k2_z hn2 hwf k3 (Znv_ab 1 a_z b_z c_z)) (by decide) (by decide) rfl rfl rfl (by decide) (Nat.le_of_ble_eq_true rfl) (fun r_z M' hc_z => ?_)
    obtain ⟨rfl, hs2⟩ := hc_z
    refine Zgo hX 2 rfl (by first | exact True.intro | (dsimp only [ZallP]; and_intros <;> (first | decide | ((try simp only [pk_mul, nI_add]); exact Zin_n (by omega) (by decide))))) ?_
    refine Zs_calls hX (List.cons_ne_nil _ _) (by decide) (k_held _ _ _ _) (by decide) rfl rfl (by decide) (Nat.le_of_ble_eq_true rfl) (fun r_z M' hc_z => ?_)
    obtain ⟨rfl, rfl⟩ := hc_z
    rw [Zhl_k (by decide)]
    refine Zgo hX 1 rfl (by first | exact True.intro | (dsimp only [ZallP]; and_intros <;> (first | decide | ((try simp only [pk_mul, nI_add]); exact Zin_n (by omega) (by decide))))) ?_
    refine Zs_ret hX hE rfl ⟨congrArg (fun z_z => some (Value.int z_z)) (Zhc_t hcn h0_z rfl), hs2⟩
  · skip
    rw [k1_z]
    refine Zs_eq hX (List.cons_ne_nil _ _) (fun _ => ?_) (fun q_z => False.elim (by revert q_z; decide))
    refine Zgo hX 5 rfl (by first | exact True.intro | (dsimp only [ZallP]; and_intros <;> (first | decide | ((try simp only [pk_mul, nI_add]); exact Zin_n (by omega) (by decide))))) ?_
    refine Zs_ret hX hE rfl ⟨congrArg (fun z_z => some (Value.int z_z)) (Zhc_f hcn (by omega)), St.rf _⟩

set_option maxRecDepth 20000 in
theorem k_yarnFor (f_z : Nat → Int32) (kd_z m_z : Nat) (w_z t : Int32) (M : Zmem) (hkd : kd_z ≤ 6) (hm_z : m_z ≤ 9) (hse : M 1 8 = f_z 2) (hc_z : Zct M 11 0 f_z) (hw_z : Ztx f_z 0) : ZC 169 3 [.ref 1, .int (nI (10 * kd_z + m_z)), .int w_z, .int t] M (fun r_z M' => r_z = some (.int (Zyn f_z (Zsaid kd_z m_z w_z t (f_z 2)) w_z t)) ∧ St M M') := by
  refine ZC_of Zt169 Zk169 (Nat.le_of_ble_eq_true rfl) (by decide) rfl (fun X hX hE => ?_)
  refine Zgo hX 7 rfl (by first | exact True.intro | (dsimp only [ZallP]; and_intros <;> (first | decide | ((try simp only [pk_mul, nI_add]); exact Zin_n (by omega) (by decide))))) ?_
  rw [hse]
  refine Zs_calls hX (List.cons_ne_nil _ _) (by decide) (k_yarn kd_z m_z _ _ _ _ hkd hm_z) (by decide) rfl rfl (by decide) (Nat.le_of_ble_eq_true rfl) (fun r_z M' hc_z => ?_)
  obtain ⟨rfl, rfl⟩ := hc_z
  refine Zgo hX 2 rfl (by first | exact True.intro | (dsimp only [ZallP]; and_intros <;> (first | decide | ((try simp only [pk_mul, nI_add]); exact Zin_n (by omega) (by decide))))) ?_
  refine Zs_callv hX (List.cons_ne_nil _ _) (k_given0 f_z _ _ _ _ hc_z hw_z) (by decide) (by decide) rfl rfl rfl (by decide) (Nat.le_of_ble_eq_true rfl) (fun r_z M' hc_z => ?_)
  obtain ⟨rfl, hs2⟩ := hc_z
  refine Zs_ret hX hE rfl ⟨rfl, hs2⟩

set_option maxRecDepth 20000 in
theorem k_yarnOf (f_z : Nat → Int32) (i_z : Nat) (M : Zmem) (hi_z : i_z < 15) (hr_z : Zrw f_z i_z) (hk_z : M 2 i_z = f_z (9 + 5 * i_z)) (hm_z : M 3 i_z = f_z (10 + 5 * i_z)) (hwi : M 4 i_z = f_z (11 + 5 * i_z)) (hte : M 5 i_z = f_z (12 + 5 * i_z)) (hse : M 1 8 = f_z 2) (hc_z : Zct M 11 0 f_z) (hw_z : Ztx f_z 0) : ZC 170 4 [.ref 1, .int (nI i_z)] M (fun r_z M' => r_z = some (.int (Zyo f_z i_z)) ∧ St M M') := by
  refine ZC_of Zt170 Zk170 (Nat.le_of_ble_eq_true rfl) (by decide) rfl (fun X hX hE => ?_)
  obtain ⟨⟨kd_z, hkd, e1_z⟩, ⟨m_z, hm9, e2_z⟩, -, -, -⟩ := hr_z
  refine Zgo hX 20 rfl (by dsimp only [ZallP]; exact ⟨⟨⟨Zin_n (by omega) (by decide), Zin_n (by omega) (by decide)⟩, Zin_n (by omega) (by decide)⟩, Zin_n (by omega) (by decide)⟩) ?_
  rw [Zcl_n (show i_z < 2 ^ 31 by omega), hk_z, hm_z, hwi, hte, e1_z, e2_z, pk_mul, nI_add]
  refine Zs_callv hX (List.cons_ne_nil _ _) (k_yarnFor f_z kd_z m_z _ _ _ hkd hm9 hse hc_z hw_z) (by decide) (by decide) rfl rfl rfl (by decide) (Nat.le_of_ble_eq_true rfl) (fun r_z M' hc_z => ?_)
  obtain ⟨rfl, hs2⟩ := hc_z
  refine Zs_ret hX hE rfl ⟨by rw [Zyo_of e1_z e2_z hkd hm9], hs2⟩

set_option maxRecDepth 20000 in
theorem k_holdsOf (f_z : Nat → Int32) (i_z : Nat) (more : Int32) (M : Zmem) (hi_z : i_z < 15) (hr_z : Zrw f_z i_z) (hk_z : M 2 i_z = f_z (9 + 5 * i_z)) (hwi : M 4 i_z = f_z (11 + 5 * i_z)) (hte : M 5 i_z = f_z (12 + 5 * i_z)) (hc_z : Zct M 14 1 f_z) (hw_z : Ztx f_z 1) : ZC 171 3 [.ref 1, .int (nI i_z), .int more] M (fun r_z M' => r_z = some (.int (Zhb f_z i_z more)) ∧ St M M') := by
  refine ZC_of Zt171 Zk171 (Nat.le_of_ble_eq_true rfl) (by decide) rfl (fun X hX hE => ?_)
  refine Zgo hX 8 rfl (Zin_n (by omega) (by decide)) ?_
  rw [Zcl_n (show i_z < 2 ^ 31 by omega), hte]
  refine Zs_calls hX (List.cons_ne_nil _ _) (by decide) (k_held _ _ _ _) (by decide) rfl rfl (by decide) (Nat.le_of_ble_eq_true rfl) (fun r_z M' hc_z => ?_)
  obtain ⟨rfl, rfl⟩ := hc_z
  rw [Zhl_k (by decide)]
  refine Zgo hX 12 rfl (by dsimp only [ZallP]; exact ⟨Zin_n (by omega) (by decide), Zin_n (by omega) (by decide)⟩) ?_
  rw [Zcl_n (show i_z < 2 ^ 31 by omega), hwi, hk_z]
  refine Zs_callv hX (List.cons_ne_nil _ _) (k_given1 f_z _ _ _ _ hc_z hw_z) (by decide) (by decide) rfl rfl rfl (by decide) (Nat.le_of_ble_eq_true rfl) (fun r_z M' hc_z => ?_)
  obtain ⟨rfl, hs2⟩ := hc_z
  refine Zs_ret hX hE rfl ⟨by rw [Zhb_c hr_z], hs2⟩
end
section

-- the class's river (its cells from b_z on) told by the reference's row_z f_z
theorem Zct_kp {M M' : Zmem} {t u_z : Nat} {f_z f' : Nat → Int32} (h_z : Zct M t u_z f_z) (h0_z : M' t 0 = M t 0) (h2_z : M' t 2 = M t 2) (hc_z : ∀ i_z, M' (t + 1) i_z = M (t + 1) i_z) (hf_z : ∀ j_z, 84 + 125 * u_z ≤ j_z → j_z < 209 + 125 * u_z → f' j_z = f_z j_z) : Zct M' t u_z f' := by
  obtain ⟨n_z, g1, g2, ⟨m_z, g3, g4⟩, g5⟩ := h_z
  refine ⟨n_z, g1, by rw [hf_z _ (by omega) (by omega)]; exact g2, ⟨m_z, g3, by rw [h2_z]; exact g4⟩, ?_⟩
  rcases g5 with ⟨g5, g6, g7, g8⟩ | ⟨g5, g6⟩
  · refine Or.inl ⟨g5, by rw [h0_z]; exact g6, by rw [h2_z]; exact g7, fun i_z hi_z => ?_⟩
    have e_z : Zgi f' u_z i_z = Zgi f_z u_z i_z := by
      unfold Zgi
      rw [hf_z _ (by omega) (by omega), hf_z _ (by omega) (by omega)]
    rw [e_z, hc_z]
    exact g8 i_z hi_z
  · exact Or.inr ⟨g5, by rw [h0_z]; exact g6⟩
theorem Zwf_kp {u_z : Nat} {g_z g' : Nat → Zitm} : ∀ {n_z d_z : Nat}, Zwf u_z g_z n_z d_z → (∀ i_z, i_z < n_z → g' i_z = g_z i_z) → Zwf u_z g' n_z d_z := by
  intro n_z
  induction n_z with
  | zero => intro d_z h_z _; exact h_z
  | succ n_z ih_z =>
    intro d_z h_z hg_z
    obtain ⟨d', h1_z, h2_z⟩ := h_z
    refine ⟨d', ih_z h1_z (fun i_z hi_z => hg_z i_z (by omega)), ?_⟩
    rw [hg_z n_z (by omega)]
    exact h2_z
theorem Ztx_kp {u_z : Nat} {f_z f' : Nat → Int32} (h_z : Ztx f_z u_z) (hf_z : ∀ j_z, 84 + 125 * u_z ≤ j_z → j_z < 209 + 125 * u_z → f' j_z = f_z j_z) : Ztx f' u_z := by
  obtain ⟨n_z, g1, g2, g3⟩ := h_z
  refine ⟨n_z, g1, by rw [hf_z _ (by omega) (by omega)]; exact g2, fun h0_z => Zwf_kp (g3 h0_z) (fun i_z hi_z => ?_)⟩
  unfold Zgi
  rw [hf_z _ (by omega) (by omega), hf_z _ (by omega) (by omega)]
theorem Zrw_kp {i_z : Nat} {f_z f' : Nat → Int32} (h_z : Zrw f_z i_z) (hf_z : ∀ j_z, 9 + 5 * i_z ≤ j_z → j_z < 14 + 5 * i_z → f' j_z = f_z j_z) : Zrw f' i_z := by
  unfold Zrw at h_z ⊢
  rw [hf_z _ (by omega) (by omega), hf_z _ (by omega) (by omega), hf_z _ (by omega) (by omega), hf_z _ (by omega) (by omega), hf_z _ (by omega) (by omega)]
  exact h_z
def Zrv (b_z : Nat) (f_z : Nat → Int32) (M : Zmem) : Prop := (M b_z 5 = f_z 7 ∧ M b_z 6 = f_z 0 ∧ M b_z 7 = f_z 1 ∧ M b_z 8 = f_z 2 ∧ M b_z 9 = f_z 3 ∧ M b_z 10 = f_z 4 ∧ M b_z 12 = f_z 5 ∧ M b_z 14 = f_z 6) ∧
  (∀ i_z, i_z < 15 → M (b_z + 1) i_z = f_z (9 + 5 * i_z) ∧ M (b_z + 2) i_z = f_z (10 + 5 * i_z) ∧ M (b_z + 3) i_z = f_z (11 + 5 * i_z) ∧ M (b_z + 4) i_z = f_z (12 + 5 * i_z) ∧ M (b_z + 5) i_z = f_z (13 + 5 * i_z)) ∧
  (∀ i_z, i_z < 60 → M (b_z + 6) i_z = Zsb (f_z (334 + i_z)).toNatClampNeg) ∧ (∀ i_z, i_z < 24 → M (b_z + 7) i_z = f_z (394 + i_z)) ∧ Zct M (b_z + 10) 0 f_z ∧ Zct M (b_z + 13) 1 f_z
/-- rows that stand, scalars in their bounds, bytes, texts -/
def Zfr (f_z : Nat → Int32) : Prop := ∃ n_z, n_z ≤ 15 ∧ f_z 7 = nI n_z ∧ ∀ i_z, i_z < n_z → Zrw f_z i_z
def Zfsc (f_z : Nat → Int32) : Prop := (∃ a_z, a_z ≤ 9999 ∧ f_z 0 = nI a_z) ∧ (∃ a_z, a_z < 4 ∧ f_z 1 = nI a_z) ∧ (∃ a_z, a_z ≤ 9999 ∧ f_z 2 = nI a_z) ∧ (∃ a_z, a_z ≤ 9999 ∧ f_z 3 = nI a_z) ∧ (∃ a_z, a_z ≤ 60 ∧ f_z 5 = nI a_z) ∧ ∃ a_z, a_z ≤ 24 ∧ f_z 6 = nI a_z
def Zfb (f_z : Nat → Int32) : Prop := ∀ i_z, i_z < 60 → ∃ b_z, b_z < 256 ∧ f_z (334 + i_z) = nI b_z
def Zfi (f_z : Nat → Int32) : Prop := Zfr f_z ∧ Zfsc f_z ∧ Zfb f_z ∧ Ztx f_z 0 ∧ Ztx f_z 1
theorem Zfr_kp {f_z f' : Nat → Int32} (h_z : Zfr f_z) (hf_z : ∀ j_z, 7 ≤ j_z → j_z < 84 → f' j_z = f_z j_z) : Zfr f' := by
  obtain ⟨n_z, h1_z, h2_z, h3_z⟩ := h_z
  exact ⟨n_z, h1_z, by rw [hf_z 7 (by decide) (by decide)]; exact h2_z, fun i_z hi_z => Zrw_kp (h3_z i_z hi_z) (fun j_z g1 g2 => hf_z j_z (by omega) (by omega))⟩
theorem Zfb_kp {f_z f' : Nat → Int32} (h_z : Zfb f_z) (hf_z : ∀ j_z, 334 ≤ j_z → j_z < 394 → f' j_z = f_z j_z) : Zfb f' := by
  intro i_z hi_z
  rw [hf_z _ (by omega) (by omega)]
  exact h_z i_z hi_z
theorem Zfsc_kp {f_z f' : Nat → Int32} (h_z : Zfsc f_z) (hf_z : ∀ j_z, j_z < 7 → f' j_z = f_z j_z) : Zfsc f' := by
  unfold Zfsc at h_z ⊢
  rw [hf_z 0 (by decide), hf_z 1 (by decide), hf_z 2 (by decide), hf_z 3 (by decide), hf_z 5 (by decide), hf_z 6 (by decide)]
  exact h_z
/-- the reference's own cells change at 54 alone; the class's at 1 .. 16 alone -/
def Zhs (M M' : Zmem) : Prop := ∀ o_z k_z, scr o_z k_z = false → o_z ≠ 54 → M' o_z k_z = M o_z k_z
def Zhk (M M' : Zmem) : Prop := ∀ o_z k_z, scr o_z k_z = false → ¬ (1 ≤ o_z ∧ o_z ≤ 16) → M' o_z k_z = M o_z k_z
theorem Zhs.rf (M : Zmem) : Zhs M M := fun _ _ _ _ => rfl
theorem Zhk.rf (M : Zmem) : Zhk M M := fun _ _ _ _ => rfl
theorem Zhs.tr {M M' M'' : Zmem} (h_z : Zhs M M') (h2_z : Zhs M' M'') : Zhs M M'' := fun o_z k_z q_z q2_z => (h2_z o_z k_z q_z q2_z).trans (h_z o_z k_z q_z q2_z)
theorem Zhk.tr {M M' M'' : Zmem} (h_z : Zhk M M') (h2_z : Zhk M' M'') : Zhk M M'' := fun o_z k_z q_z q2_z => (h2_z o_z k_z q_z q2_z).trans (h_z o_z k_z q_z q2_z)
theorem Sc.hs {M M' : Zmem} (h_z : Sc M M') : Zhs M M' := fun o_z k_z q_z _ => h_z o_z k_z q_z
theorem Sc.hk {M M' : Zmem} (h_z : Sc M M') : Zhk M M' := fun o_z k_z q_z _ => h_z o_z k_z q_z
theorem Zhs.u {M M' : Zmem} (h_z : Zhs M M') (j_z : Nat) (v_z : Int32) : Zhs M (Zu M' 54 j_z v_z) := fun o_z k_z q_z q2_z => by rw [Zu_ne _ _ _ q2_z]; exact h_z o_z k_z q_z q2_z
theorem Zhk.u {M M' : Zmem} (h_z : Zhk M M') (o_z : Nat) (ho : 1 ≤ o_z ∧ o_z ≤ 16) (j_z : Nat) (v_z : Int32) : Zhk M (Zu M' o_z j_z v_z) := fun a_z k_z q_z q2_z => by rw [Zu_ne _ _ _ (fun e_z => q2_z (by rw [e_z]; exact ho))]; exact h_z a_z k_z q_z q2_z
theorem Sc.f54 {M M' : Zmem} (h_z : Sc M M') : M' 54 = M 54 := funext fun j_z => h_z 54 j_z rfl
theorem Zhk.f54 {M M' : Zmem} (h_z : Zhk M M') : M' 54 = M 54 := funext fun j_z => h_z 54 j_z rfl (by decide)
theorem Zhk.f55 {M M' : Zmem} (h_z : Zhk M M') : M' 55 = M 55 := funext fun j_z => h_z 55 j_z rfl (by decide)
theorem Zrv_kp {f_z : Nat → Int32} {b_z : Nat} {M M' : Zmem} (h_z : Zrv b_z f_z M) (hb_z : b_z = 1 ∨ b_z = 17) (hs_z : ∀ o_z k_z, scr o_z k_z = false → b_z ≤ o_z → o_z ≤ b_z + 15 → M' o_z k_z = M o_z k_z) : Zrv b_z f_z M' := by
  obtain ⟨⟨h1_z, h2_z, h3_z, h4_z, h5_z, h6_z, h7_z, h8_z⟩, hr_z, ht_z, hw_z, hc0, hc1⟩ := h_z
  rcases hb_z with rfl | rfl
  · exact ⟨⟨(hs_z _ 5 rfl (by decide) (by decide)).trans h1_z, (hs_z _ 6 rfl (by decide) (by decide)).trans h2_z, (hs_z _ 7 rfl (by decide) (by decide)).trans h3_z, (hs_z _ 8 rfl (by decide) (by decide)).trans h4_z, (hs_z _ 9 rfl (by decide) (by decide)).trans h5_z, (hs_z _ 10 rfl (by decide) (by decide)).trans h6_z, (hs_z _ 12 rfl (by decide) (by decide)).trans h7_z, (hs_z _ 14 rfl (by decide) (by decide)).trans h8_z⟩,
      fun i_z hi_z => ⟨(hs_z _ i_z rfl (by decide) (by decide)).trans (hr_z i_z hi_z).1, (hs_z _ i_z rfl (by decide) (by decide)).trans (hr_z i_z hi_z).2.1, (hs_z _ i_z rfl (by decide) (by decide)).trans (hr_z i_z hi_z).2.2.1, (hs_z _ i_z rfl (by decide) (by decide)).trans (hr_z i_z hi_z).2.2.2.1, (hs_z _ i_z rfl (by decide) (by decide)).trans (hr_z i_z hi_z).2.2.2.2⟩,
      fun i_z hi_z => (hs_z _ i_z rfl (by decide) (by decide)).trans (ht_z i_z hi_z), fun i_z hi_z => (hs_z _ i_z rfl (by decide) (by decide)).trans (hw_z i_z hi_z),
      Zct_kp hc0 (hs_z _ 0 rfl (by decide) (by decide)) (hs_z _ 2 rfl (by decide) (by decide)) (fun i_z => hs_z _ i_z rfl (by decide) (by decide)) (fun _ _ _ => rfl), Zct_kp hc1 (hs_z _ 0 rfl (by decide) (by decide)) (hs_z _ 2 rfl (by decide) (by decide)) (fun i_z => hs_z _ i_z rfl (by decide) (by decide)) (fun _ _ _ => rfl)⟩
  · exact ⟨⟨(hs_z _ 5 rfl (by decide) (by decide)).trans h1_z, (hs_z _ 6 rfl (by decide) (by decide)).trans h2_z, (hs_z _ 7 rfl (by decide) (by decide)).trans h3_z, (hs_z _ 8 rfl (by decide) (by decide)).trans h4_z, (hs_z _ 9 rfl (by decide) (by decide)).trans h5_z, (hs_z _ 10 rfl (by decide) (by decide)).trans h6_z, (hs_z _ 12 rfl (by decide) (by decide)).trans h7_z, (hs_z _ 14 rfl (by decide) (by decide)).trans h8_z⟩,
      fun i_z hi_z => ⟨(hs_z _ i_z rfl (by decide) (by decide)).trans (hr_z i_z hi_z).1, (hs_z _ i_z rfl (by decide) (by decide)).trans (hr_z i_z hi_z).2.1, (hs_z _ i_z rfl (by decide) (by decide)).trans (hr_z i_z hi_z).2.2.1, (hs_z _ i_z rfl (by decide) (by decide)).trans (hr_z i_z hi_z).2.2.2.1, (hs_z _ i_z rfl (by decide) (by decide)).trans (hr_z i_z hi_z).2.2.2.2⟩,
      fun i_z hi_z => (hs_z _ i_z rfl (by decide) (by decide)).trans (ht_z i_z hi_z), fun i_z hi_z => (hs_z _ i_z rfl (by decide) (by decide)).trans (hw_z i_z hi_z),
      Zct_kp hc0 (hs_z _ 0 rfl (by decide) (by decide)) (hs_z _ 2 rfl (by decide) (by decide)) (fun i_z => hs_z _ i_z rfl (by decide) (by decide)) (fun _ _ _ => rfl), Zct_kp hc1 (hs_z _ 0 rfl (by decide) (by decide)) (hs_z _ 2 rfl (by decide) (by decide)) (fun i_z => hs_z _ i_z rfl (by decide) (by decide)) (fun _ _ _ => rfl)⟩
theorem Zrv.sc {f_z : Nat → Int32} {b_z : Nat} {M M' : Zmem} (h_z : Zrv b_z f_z M) (hb_z : b_z = 1 ∨ b_z = 17) (hs_z : Sc M M') : Zrv b_z f_z M' := Zrv_kp h_z hb_z (fun o_z k_z q_z _ _ => hs_z o_z k_z q_z)
theorem Zrv.n {f_z : Nat → Int32} {M : Zmem} (h_z : Zrv 1 f_z M) {n_z : Nat} (hn_z : f_z 7 = nI n_z) : M 1 5 = nI n_z := h_z.1.1.trans hn_z
section ZRV
variable {f_z : Nat → Int32} {M : Zmem}

theorem Zrv.n1 (h_z : Zrv 1 f_z M) (v_z : Int32) : Zrv 1 (upd f_z 7 v_z) (Zu M 1 5 v_z) := by
  obtain ⟨⟨h1_z, h2_z, h3_z, h4_z, h5_z, h6_z, h7_z, h8_z⟩, hr_z, ht_z, hw_z, hc0, hc1⟩ := h_z
  exact ⟨⟨rfl, h2_z, h3_z, h4_z, h5_z, h6_z, h7_z, h8_z⟩, fun i_z hi_z => ⟨(hr_z i_z hi_z).1.trans (pk_un (by omega)).symm, (hr_z i_z hi_z).2.1.trans (pk_un (by omega)).symm, (hr_z i_z hi_z).2.2.1.trans (pk_un (by omega)).symm, (hr_z i_z hi_z).2.2.2.1.trans (pk_un (by omega)).symm, (hr_z i_z hi_z).2.2.2.2.trans (pk_un (by omega)).symm⟩, fun i_z hi_z => (ht_z i_z hi_z).trans (by rw [pk_un (by omega)]), fun i_z hi_z => (hw_z i_z hi_z).trans (pk_un (by omega)).symm, Zct_kp hc0 rfl rfl (fun _ => rfl) (fun j_z g1 g2 => pk_un (by omega)), Zct_kp hc1 rfl rfl (fun _ => rfl) (fun j_z g1 g2 => pk_un (by omega))⟩

theorem Zrv.th1 (h_z : Zrv 1 f_z M) (v_z : Int32) : Zrv 1 (upd f_z 0 v_z) (Zu M 1 6 v_z) := by
  obtain ⟨⟨h1_z, h2_z, h3_z, h4_z, h5_z, h6_z, h7_z, h8_z⟩, hr_z, ht_z, hw_z, hc0, hc1⟩ := h_z
  exact ⟨⟨h1_z, rfl, h3_z, h4_z, h5_z, h6_z, h7_z, h8_z⟩, fun i_z hi_z => ⟨(hr_z i_z hi_z).1.trans (pk_un (by omega)).symm, (hr_z i_z hi_z).2.1.trans (pk_un (by omega)).symm, (hr_z i_z hi_z).2.2.1.trans (pk_un (by omega)).symm, (hr_z i_z hi_z).2.2.2.1.trans (pk_un (by omega)).symm, (hr_z i_z hi_z).2.2.2.2.trans (pk_un (by omega)).symm⟩, fun i_z hi_z => (ht_z i_z hi_z).trans (by rw [pk_un (by omega)]), fun i_z hi_z => (hw_z i_z hi_z).trans (pk_un (by omega)).symm, Zct_kp hc0 rfl rfl (fun _ => rfl) (fun j_z g1 g2 => pk_un (by omega)), Zct_kp hc1 rfl rfl (fun _ => rfl) (fun j_z g1 g2 => pk_un (by omega))⟩

theorem Zrv.wy1 (h_z : Zrv 1 f_z M) (v_z : Int32) : Zrv 1 (upd f_z 1 v_z) (Zu M 1 7 v_z) := by
  obtain ⟨⟨h1_z, h2_z, h3_z, h4_z, h5_z, h6_z, h7_z, h8_z⟩, hr_z, ht_z, hw_z, hc0, hc1⟩ := h_z
  exact ⟨⟨h1_z, h2_z, rfl, h4_z, h5_z, h6_z, h7_z, h8_z⟩, fun i_z hi_z => ⟨(hr_z i_z hi_z).1.trans (pk_un (by omega)).symm, (hr_z i_z hi_z).2.1.trans (pk_un (by omega)).symm, (hr_z i_z hi_z).2.2.1.trans (pk_un (by omega)).symm, (hr_z i_z hi_z).2.2.2.1.trans (pk_un (by omega)).symm, (hr_z i_z hi_z).2.2.2.2.trans (pk_un (by omega)).symm⟩, fun i_z hi_z => (ht_z i_z hi_z).trans (by rw [pk_un (by omega)]), fun i_z hi_z => (hw_z i_z hi_z).trans (pk_un (by omega)).symm, Zct_kp hc0 rfl rfl (fun _ => rfl) (fun j_z g1 g2 => pk_un (by omega)), Zct_kp hc1 rfl rfl (fun _ => rfl) (fun j_z g1 g2 => pk_un (by omega))⟩

theorem Zrv.se1 (h_z : Zrv 1 f_z M) (v_z : Int32) : Zrv 1 (upd f_z 2 v_z) (Zu M 1 8 v_z) := by
  obtain ⟨⟨h1_z, h2_z, h3_z, h4_z, h5_z, h6_z, h7_z, h8_z⟩, hr_z, ht_z, hw_z, hc0, hc1⟩ := h_z
  exact ⟨⟨h1_z, h2_z, h3_z, rfl, h5_z, h6_z, h7_z, h8_z⟩, fun i_z hi_z => ⟨(hr_z i_z hi_z).1.trans (pk_un (by omega)).symm, (hr_z i_z hi_z).2.1.trans (pk_un (by omega)).symm, (hr_z i_z hi_z).2.2.1.trans (pk_un (by omega)).symm, (hr_z i_z hi_z).2.2.2.1.trans (pk_un (by omega)).symm, (hr_z i_z hi_z).2.2.2.2.trans (pk_un (by omega)).symm⟩, fun i_z hi_z => (ht_z i_z hi_z).trans (by rw [pk_un (by omega)]), fun i_z hi_z => (hw_z i_z hi_z).trans (pk_un (by omega)).symm, Zct_kp hc0 rfl rfl (fun _ => rfl) (fun j_z g1 g2 => pk_un (by omega)), Zct_kp hc1 rfl rfl (fun _ => rfl) (fun j_z g1 g2 => pk_un (by omega))⟩

theorem Zrv.sa1 (h_z : Zrv 1 f_z M) (v_z : Int32) : Zrv 1 (upd f_z 3 v_z) (Zu M 1 9 v_z) := by
  obtain ⟨⟨h1_z, h2_z, h3_z, h4_z, h5_z, h6_z, h7_z, h8_z⟩, hr_z, ht_z, hw_z, hc0, hc1⟩ := h_z
  exact ⟨⟨h1_z, h2_z, h3_z, h4_z, rfl, h6_z, h7_z, h8_z⟩, fun i_z hi_z => ⟨(hr_z i_z hi_z).1.trans (pk_un (by omega)).symm, (hr_z i_z hi_z).2.1.trans (pk_un (by omega)).symm, (hr_z i_z hi_z).2.2.1.trans (pk_un (by omega)).symm, (hr_z i_z hi_z).2.2.2.1.trans (pk_un (by omega)).symm, (hr_z i_z hi_z).2.2.2.2.trans (pk_un (by omega)).symm⟩, fun i_z hi_z => (ht_z i_z hi_z).trans (by rw [pk_un (by omega)]), fun i_z hi_z => (hw_z i_z hi_z).trans (pk_un (by omega)).symm, Zct_kp hc0 rfl rfl (fun _ => rfl) (fun j_z g1 g2 => pk_un (by omega)), Zct_kp hc1 rfl rfl (fun _ => rfl) (fun j_z g1 g2 => pk_un (by omega))⟩

theorem Zrv.z1 (h_z : Zrv 1 f_z M) (v_z : Int32) : Zrv 1 (upd f_z 4 v_z) (Zu M 1 10 v_z) := by
  obtain ⟨⟨h1_z, h2_z, h3_z, h4_z, h5_z, h6_z, h7_z, h8_z⟩, hr_z, ht_z, hw_z, hc0, hc1⟩ := h_z
  exact ⟨⟨h1_z, h2_z, h3_z, h4_z, h5_z, rfl, h7_z, h8_z⟩, fun i_z hi_z => ⟨(hr_z i_z hi_z).1.trans (pk_un (by omega)).symm, (hr_z i_z hi_z).2.1.trans (pk_un (by omega)).symm, (hr_z i_z hi_z).2.2.1.trans (pk_un (by omega)).symm, (hr_z i_z hi_z).2.2.2.1.trans (pk_un (by omega)).symm, (hr_z i_z hi_z).2.2.2.2.trans (pk_un (by omega)).symm⟩, fun i_z hi_z => (ht_z i_z hi_z).trans (by rw [pk_un (by omega)]), fun i_z hi_z => (hw_z i_z hi_z).trans (pk_un (by omega)).symm, Zct_kp hc0 rfl rfl (fun _ => rfl) (fun j_z g1 g2 => pk_un (by omega)), Zct_kp hc1 rfl rfl (fun _ => rfl) (fun j_z g1 g2 => pk_un (by omega))⟩

theorem Zrv.by1 (h_z : Zrv 1 f_z M) (v_z : Int32) : Zrv 1 (upd f_z 5 v_z) (Zu M 1 12 v_z) := by
  obtain ⟨⟨h1_z, h2_z, h3_z, h4_z, h5_z, h6_z, h7_z, h8_z⟩, hr_z, ht_z, hw_z, hc0, hc1⟩ := h_z
  exact ⟨⟨h1_z, h2_z, h3_z, h4_z, h5_z, h6_z, rfl, h8_z⟩, fun i_z hi_z => ⟨(hr_z i_z hi_z).1.trans (pk_un (by omega)).symm, (hr_z i_z hi_z).2.1.trans (pk_un (by omega)).symm, (hr_z i_z hi_z).2.2.1.trans (pk_un (by omega)).symm, (hr_z i_z hi_z).2.2.2.1.trans (pk_un (by omega)).symm, (hr_z i_z hi_z).2.2.2.2.trans (pk_un (by omega)).symm⟩, fun i_z hi_z => (ht_z i_z hi_z).trans (by rw [pk_un (by omega)]), fun i_z hi_z => (hw_z i_z hi_z).trans (pk_un (by omega)).symm, Zct_kp hc0 rfl rfl (fun _ => rfl) (fun j_z g1 g2 => pk_un (by omega)), Zct_kp hc1 rfl rfl (fun _ => rfl) (fun j_z g1 g2 => pk_un (by omega))⟩

theorem Zrv.wt1 (h_z : Zrv 1 f_z M) (v_z : Int32) : Zrv 1 (upd f_z 6 v_z) (Zu M 1 14 v_z) := by
  obtain ⟨⟨h1_z, h2_z, h3_z, h4_z, h5_z, h6_z, h7_z, h8_z⟩, hr_z, ht_z, hw_z, hc0, hc1⟩ := h_z
  exact ⟨⟨h1_z, h2_z, h3_z, h4_z, h5_z, h6_z, h7_z, rfl⟩, fun i_z hi_z => ⟨(hr_z i_z hi_z).1.trans (pk_un (by omega)).symm, (hr_z i_z hi_z).2.1.trans (pk_un (by omega)).symm, (hr_z i_z hi_z).2.2.1.trans (pk_un (by omega)).symm, (hr_z i_z hi_z).2.2.2.1.trans (pk_un (by omega)).symm, (hr_z i_z hi_z).2.2.2.2.trans (pk_un (by omega)).symm⟩, fun i_z hi_z => (ht_z i_z hi_z).trans (by rw [pk_un (by omega)]), fun i_z hi_z => (hw_z i_z hi_z).trans (pk_un (by omega)).symm, Zct_kp hc0 rfl rfl (fun _ => rfl) (fun j_z g1 g2 => pk_un (by omega)), Zct_kp hc1 rfl rfl (fun _ => rfl) (fun j_z g1 g2 => pk_un (by omega))⟩

theorem Zrv.r0 (h_z : Zrv 1 f_z M) (v_z : Int32) {i0 : Nat} (h0_z : i0 < 15) : Zrv 1 (upd f_z (9 + 5 * i0) v_z) (Zu M 2 i0 v_z) := by
  obtain ⟨⟨h1_z, h2_z, h3_z, h4_z, h5_z, h6_z, h7_z, h8_z⟩, hr_z, ht_z, hw_z, hc0, hc1⟩ := h_z
  refine ⟨⟨h1_z.trans (pk_un (by omega)).symm, h2_z.trans (pk_un (by omega)).symm, h3_z.trans (pk_un (by omega)).symm, h4_z.trans (pk_un (by omega)).symm, h5_z.trans (pk_un (by omega)).symm, h6_z.trans (pk_un (by omega)).symm, h7_z.trans (pk_un (by omega)).symm, h8_z.trans (pk_un (by omega)).symm⟩, fun i_z hi_z => ⟨?_, (hr_z i_z hi_z).2.1.trans (pk_un (by omega)).symm, (hr_z i_z hi_z).2.2.1.trans (pk_un (by omega)).symm, (hr_z i_z hi_z).2.2.2.1.trans (pk_un (by omega)).symm, (hr_z i_z hi_z).2.2.2.2.trans (pk_un (by omega)).symm⟩, fun i_z hi_z => (ht_z i_z hi_z).trans (by rw [pk_un (by omega)]), fun i_z hi_z => (hw_z i_z hi_z).trans (pk_un (by omega)).symm, Zct_kp hc0 rfl rfl (fun _ => rfl) (fun j_z g1 g2 => pk_un (by omega)), Zct_kp hc1 rfl rfl (fun _ => rfl) (fun j_z g1 g2 => pk_un (by omega))⟩
  show (Zu M 2 i0 v_z) 2 i_z = upd f_z (9 + 5 * i0) v_z (9 + 5 * i_z)
  by_cases e_z : i_z = i0
  · subst e_z
    rw [Zu_k, if_pos ⟨rfl, rfl⟩, pk_us]
  · rw [Zu_k, if_neg (fun q_z => e_z q_z.2), pk_un (by omega)]
    exact (hr_z i_z hi_z).1

theorem Zrv.r1 (h_z : Zrv 1 f_z M) (v_z : Int32) {i0 : Nat} (h0_z : i0 < 15) : Zrv 1 (upd f_z (10 + 5 * i0) v_z) (Zu M 3 i0 v_z) := by
  obtain ⟨⟨h1_z, h2_z, h3_z, h4_z, h5_z, h6_z, h7_z, h8_z⟩, hr_z, ht_z, hw_z, hc0, hc1⟩ := h_z
  refine ⟨⟨h1_z.trans (pk_un (by omega)).symm, h2_z.trans (pk_un (by omega)).symm, h3_z.trans (pk_un (by omega)).symm, h4_z.trans (pk_un (by omega)).symm, h5_z.trans (pk_un (by omega)).symm, h6_z.trans (pk_un (by omega)).symm, h7_z.trans (pk_un (by omega)).symm, h8_z.trans (pk_un (by omega)).symm⟩, fun i_z hi_z => ⟨(hr_z i_z hi_z).1.trans (pk_un (by omega)).symm, ?_, (hr_z i_z hi_z).2.2.1.trans (pk_un (by omega)).symm, (hr_z i_z hi_z).2.2.2.1.trans (pk_un (by omega)).symm, (hr_z i_z hi_z).2.2.2.2.trans (pk_un (by omega)).symm⟩, fun i_z hi_z => (ht_z i_z hi_z).trans (by rw [pk_un (by omega)]), fun i_z hi_z => (hw_z i_z hi_z).trans (pk_un (by omega)).symm, Zct_kp hc0 rfl rfl (fun _ => rfl) (fun j_z g1 g2 => pk_un (by omega)), Zct_kp hc1 rfl rfl (fun _ => rfl) (fun j_z g1 g2 => pk_un (by omega))⟩
  show (Zu M 3 i0 v_z) 3 i_z = upd f_z (10 + 5 * i0) v_z (10 + 5 * i_z)
  by_cases e_z : i_z = i0
  · subst e_z
    rw [Zu_k, if_pos ⟨rfl, rfl⟩, pk_us]
  · rw [Zu_k, if_neg (fun q_z => e_z q_z.2), pk_un (by omega)]
    exact (hr_z i_z hi_z).2.1

theorem Zrv.r2 (h_z : Zrv 1 f_z M) (v_z : Int32) {i0 : Nat} (h0_z : i0 < 15) : Zrv 1 (upd f_z (11 + 5 * i0) v_z) (Zu M 4 i0 v_z) := by
  obtain ⟨⟨h1_z, h2_z, h3_z, h4_z, h5_z, h6_z, h7_z, h8_z⟩, hr_z, ht_z, hw_z, hc0, hc1⟩ := h_z
  refine ⟨⟨h1_z.trans (pk_un (by omega)).symm, h2_z.trans (pk_un (by omega)).symm, h3_z.trans (pk_un (by omega)).symm, h4_z.trans (pk_un (by omega)).symm, h5_z.trans (pk_un (by omega)).symm, h6_z.trans (pk_un (by omega)).symm, h7_z.trans (pk_un (by omega)).symm, h8_z.trans (pk_un (by omega)).symm⟩, fun i_z hi_z => ⟨(hr_z i_z hi_z).1.trans (pk_un (by omega)).symm, (hr_z i_z hi_z).2.1.trans (pk_un (by omega)).symm, ?_, (hr_z i_z hi_z).2.2.2.1.trans (pk_un (by omega)).symm, (hr_z i_z hi_z).2.2.2.2.trans (pk_un (by omega)).symm⟩, fun i_z hi_z => (ht_z i_z hi_z).trans (by rw [pk_un (by omega)]), fun i_z hi_z => (hw_z i_z hi_z).trans (pk_un (by omega)).symm, Zct_kp hc0 rfl rfl (fun _ => rfl) (fun j_z g1 g2 => pk_un (by omega)), Zct_kp hc1 rfl rfl (fun _ => rfl) (fun j_z g1 g2 => pk_un (by omega))⟩
  show (Zu M 4 i0 v_z) 4 i_z = upd f_z (11 + 5 * i0) v_z (11 + 5 * i_z)
  by_cases e_z : i_z = i0
  · subst e_z
    rw [Zu_k, if_pos ⟨rfl, rfl⟩, pk_us]
  · rw [Zu_k, if_neg (fun q_z => e_z q_z.2), pk_un (by omega)]
    exact (hr_z i_z hi_z).2.2.1

theorem Zrv.r3 (h_z : Zrv 1 f_z M) (v_z : Int32) {i0 : Nat} (h0_z : i0 < 15) : Zrv 1 (upd f_z (12 + 5 * i0) v_z) (Zu M 5 i0 v_z) := by
  obtain ⟨⟨h1_z, h2_z, h3_z, h4_z, h5_z, h6_z, h7_z, h8_z⟩, hr_z, ht_z, hw_z, hc0, hc1⟩ := h_z
  refine ⟨⟨h1_z.trans (pk_un (by omega)).symm, h2_z.trans (pk_un (by omega)).symm, h3_z.trans (pk_un (by omega)).symm, h4_z.trans (pk_un (by omega)).symm, h5_z.trans (pk_un (by omega)).symm, h6_z.trans (pk_un (by omega)).symm, h7_z.trans (pk_un (by omega)).symm, h8_z.trans (pk_un (by omega)).symm⟩, fun i_z hi_z => ⟨(hr_z i_z hi_z).1.trans (pk_un (by omega)).symm, (hr_z i_z hi_z).2.1.trans (pk_un (by omega)).symm, (hr_z i_z hi_z).2.2.1.trans (pk_un (by omega)).symm, ?_, (hr_z i_z hi_z).2.2.2.2.trans (pk_un (by omega)).symm⟩, fun i_z hi_z => (ht_z i_z hi_z).trans (by rw [pk_un (by omega)]), fun i_z hi_z => (hw_z i_z hi_z).trans (pk_un (by omega)).symm, Zct_kp hc0 rfl rfl (fun _ => rfl) (fun j_z g1 g2 => pk_un (by omega)), Zct_kp hc1 rfl rfl (fun _ => rfl) (fun j_z g1 g2 => pk_un (by omega))⟩
  show (Zu M 5 i0 v_z) 5 i_z = upd f_z (12 + 5 * i0) v_z (12 + 5 * i_z)
  by_cases e_z : i_z = i0
  · subst e_z
    rw [Zu_k, if_pos ⟨rfl, rfl⟩, pk_us]
  · rw [Zu_k, if_neg (fun q_z => e_z q_z.2), pk_un (by omega)]
    exact (hr_z i_z hi_z).2.2.2.1

theorem Zrv.r4 (h_z : Zrv 1 f_z M) (v_z : Int32) {i0 : Nat} (h0_z : i0 < 15) : Zrv 1 (upd f_z (13 + 5 * i0) v_z) (Zu M 6 i0 v_z) := by
  obtain ⟨⟨h1_z, h2_z, h3_z, h4_z, h5_z, h6_z, h7_z, h8_z⟩, hr_z, ht_z, hw_z, hc0, hc1⟩ := h_z
  refine ⟨⟨h1_z.trans (pk_un (by omega)).symm, h2_z.trans (pk_un (by omega)).symm, h3_z.trans (pk_un (by omega)).symm, h4_z.trans (pk_un (by omega)).symm, h5_z.trans (pk_un (by omega)).symm, h6_z.trans (pk_un (by omega)).symm, h7_z.trans (pk_un (by omega)).symm, h8_z.trans (pk_un (by omega)).symm⟩, fun i_z hi_z => ⟨(hr_z i_z hi_z).1.trans (pk_un (by omega)).symm, (hr_z i_z hi_z).2.1.trans (pk_un (by omega)).symm, (hr_z i_z hi_z).2.2.1.trans (pk_un (by omega)).symm, (hr_z i_z hi_z).2.2.2.1.trans (pk_un (by omega)).symm, ?_⟩, fun i_z hi_z => (ht_z i_z hi_z).trans (by rw [pk_un (by omega)]), fun i_z hi_z => (hw_z i_z hi_z).trans (pk_un (by omega)).symm, Zct_kp hc0 rfl rfl (fun _ => rfl) (fun j_z g1 g2 => pk_un (by omega)), Zct_kp hc1 rfl rfl (fun _ => rfl) (fun j_z g1 g2 => pk_un (by omega))⟩
  show (Zu M 6 i0 v_z) 6 i_z = upd f_z (13 + 5 * i0) v_z (13 + 5 * i_z)
  by_cases e_z : i_z = i0
  · subst e_z
    rw [Zu_k, if_pos ⟨rfl, rfl⟩, pk_us]
  · rw [Zu_k, if_neg (fun q_z => e_z q_z.2), pk_un (by omega)]
    exact (hr_z i_z hi_z).2.2.2.2

theorem Zrv.tp (h_z : Zrv 1 f_z M) {i0 b_z : Nat} (h0_z : i0 < 60) (hb_z : b_z < 256) : Zrv 1 (upd f_z (334 + i0) (nI b_z)) (Zu M 7 i0 (Zsb b_z)) := by
  obtain ⟨⟨h1_z, h2_z, h3_z, h4_z, h5_z, h6_z, h7_z, h8_z⟩, hr_z, ht_z, hw_z, hc0, hc1⟩ := h_z
  refine ⟨⟨h1_z.trans (pk_un (by omega)).symm, h2_z.trans (pk_un (by omega)).symm, h3_z.trans (pk_un (by omega)).symm, h4_z.trans (pk_un (by omega)).symm, h5_z.trans (pk_un (by omega)).symm, h6_z.trans (pk_un (by omega)).symm, h7_z.trans (pk_un (by omega)).symm, h8_z.trans (pk_un (by omega)).symm⟩, fun i_z hi_z => ⟨(hr_z i_z hi_z).1.trans (pk_un (by omega)).symm, (hr_z i_z hi_z).2.1.trans (pk_un (by omega)).symm, (hr_z i_z hi_z).2.2.1.trans (pk_un (by omega)).symm, (hr_z i_z hi_z).2.2.2.1.trans (pk_un (by omega)).symm, (hr_z i_z hi_z).2.2.2.2.trans (pk_un (by omega)).symm⟩, fun i_z hi_z => ?_, fun i_z hi_z => (hw_z i_z hi_z).trans (pk_un (by omega)).symm, Zct_kp hc0 rfl rfl (fun _ => rfl) (fun j_z g1 g2 => pk_un (by omega)), Zct_kp hc1 rfl rfl (fun _ => rfl) (fun j_z g1 g2 => pk_un (by omega))⟩
  show (Zu M 7 i0 (Zsb b_z)) 7 i_z = _
  by_cases e_z : i_z = i0
  · subst e_z
    rw [Zu_k, if_pos ⟨rfl, rfl⟩, pk_us, Zcl_n (by omega)]
  · rw [Zu_k, if_neg (fun q_z => e_z q_z.2), pk_un (by omega)]
    exact ht_z i_z hi_z
theorem Zrv.ws (h_z : Zrv 1 f_z M) (v_z : Int32) {i0 : Nat} (h0_z : i0 < 24) : Zrv 1 (upd f_z (394 + i0) v_z) (Zu M 8 i0 v_z) := by
  obtain ⟨⟨h1_z, h2_z, h3_z, h4_z, h5_z, h6_z, h7_z, h8_z⟩, hr_z, ht_z, hw_z, hc0, hc1⟩ := h_z
  refine ⟨⟨h1_z.trans (pk_un (by omega)).symm, h2_z.trans (pk_un (by omega)).symm, h3_z.trans (pk_un (by omega)).symm, h4_z.trans (pk_un (by omega)).symm, h5_z.trans (pk_un (by omega)).symm, h6_z.trans (pk_un (by omega)).symm, h7_z.trans (pk_un (by omega)).symm, h8_z.trans (pk_un (by omega)).symm⟩, fun i_z hi_z => ⟨(hr_z i_z hi_z).1.trans (pk_un (by omega)).symm, (hr_z i_z hi_z).2.1.trans (pk_un (by omega)).symm, (hr_z i_z hi_z).2.2.1.trans (pk_un (by omega)).symm, (hr_z i_z hi_z).2.2.2.1.trans (pk_un (by omega)).symm, (hr_z i_z hi_z).2.2.2.2.trans (pk_un (by omega)).symm⟩, fun i_z hi_z => (ht_z i_z hi_z).trans (by rw [pk_un (by omega)]), fun i_z hi_z => ?_, Zct_kp hc0 rfl rfl (fun _ => rfl) (fun j_z g1 g2 => pk_un (by omega)), Zct_kp hc1 rfl rfl (fun _ => rfl) (fun j_z g1 g2 => pk_un (by omega))⟩
  show (Zu M 8 i0 v_z) 8 i_z = _
  by_cases e_z : i_z = i0
  · subst e_z
    rw [Zu_k, if_pos ⟨rfl, rfl⟩, pk_us]
  · rw [Zu_k, if_neg (fun q_z => e_z q_z.2), pk_un (by omega)]
    exact hw_z i_z hi_z
end ZRV

section ZFI
variable {f_z : Nat → Int32}

theorem Zfi.th (h_z : Zfi f_z) {a_z : Nat} (ha_z : a_z ≤ 9999) : Zfi (upd f_z 0 (nI a_z)) := by
  obtain ⟨h1_z, ⟨g0, g1, g2, g3, g4, g5⟩, h3_z, h4_z, h5_z⟩ := h_z
  exact ⟨Zfr_kp h1_z (fun j_z _ _ => pk_un (by omega)), ⟨⟨a_z, ha_z, rfl⟩, g1, g2, g3, g4, g5⟩, Zfb_kp h3_z (fun j_z _ _ => pk_un (by omega)), Ztx_kp h4_z (fun j_z _ _ => pk_un (by omega)), Ztx_kp h5_z (fun j_z _ _ => pk_un (by omega))⟩

theorem Zfi.wy (h_z : Zfi f_z) {a_z : Nat} (ha_z : a_z < 4) : Zfi (upd f_z 1 (nI a_z)) := by
  obtain ⟨h1_z, ⟨g0, g1, g2, g3, g4, g5⟩, h3_z, h4_z, h5_z⟩ := h_z
  exact ⟨Zfr_kp h1_z (fun j_z _ _ => pk_un (by omega)), ⟨g0, ⟨a_z, ha_z, rfl⟩, g2, g3, g4, g5⟩, Zfb_kp h3_z (fun j_z _ _ => pk_un (by omega)), Ztx_kp h4_z (fun j_z _ _ => pk_un (by omega)), Ztx_kp h5_z (fun j_z _ _ => pk_un (by omega))⟩

theorem Zfi.se (h_z : Zfi f_z) {a_z : Nat} (ha_z : a_z ≤ 9999) : Zfi (upd f_z 2 (nI a_z)) := by
  obtain ⟨h1_z, ⟨g0, g1, g2, g3, g4, g5⟩, h3_z, h4_z, h5_z⟩ := h_z
  exact ⟨Zfr_kp h1_z (fun j_z _ _ => pk_un (by omega)), ⟨g0, g1, ⟨a_z, ha_z, rfl⟩, g3, g4, g5⟩, Zfb_kp h3_z (fun j_z _ _ => pk_un (by omega)), Ztx_kp h4_z (fun j_z _ _ => pk_un (by omega)), Ztx_kp h5_z (fun j_z _ _ => pk_un (by omega))⟩

theorem Zfi.sa (h_z : Zfi f_z) {a_z : Nat} (ha_z : a_z ≤ 9999) : Zfi (upd f_z 3 (nI a_z)) := by
  obtain ⟨h1_z, ⟨g0, g1, g2, g3, g4, g5⟩, h3_z, h4_z, h5_z⟩ := h_z
  exact ⟨Zfr_kp h1_z (fun j_z _ _ => pk_un (by omega)), ⟨g0, g1, g2, ⟨a_z, ha_z, rfl⟩, g4, g5⟩, Zfb_kp h3_z (fun j_z _ _ => pk_un (by omega)), Ztx_kp h4_z (fun j_z _ _ => pk_un (by omega)), Ztx_kp h5_z (fun j_z _ _ => pk_un (by omega))⟩

theorem Zfi.by (h_z : Zfi f_z) {a_z : Nat} (ha_z : a_z ≤ 60) : Zfi (upd f_z 5 (nI a_z)) := by
  obtain ⟨h1_z, ⟨g0, g1, g2, g3, g4, g5⟩, h3_z, h4_z, h5_z⟩ := h_z
  exact ⟨Zfr_kp h1_z (fun j_z _ _ => pk_un (by omega)), ⟨g0, g1, g2, g3, ⟨a_z, ha_z, rfl⟩, g5⟩, Zfb_kp h3_z (fun j_z _ _ => pk_un (by omega)), Ztx_kp h4_z (fun j_z _ _ => pk_un (by omega)), Ztx_kp h5_z (fun j_z _ _ => pk_un (by omega))⟩

theorem Zfi.wt (h_z : Zfi f_z) {a_z : Nat} (ha_z : a_z ≤ 24) : Zfi (upd f_z 6 (nI a_z)) := by
  obtain ⟨h1_z, ⟨g0, g1, g2, g3, g4, g5⟩, h3_z, h4_z, h5_z⟩ := h_z
  exact ⟨Zfr_kp h1_z (fun j_z _ _ => pk_un (by omega)), ⟨g0, g1, g2, g3, g4, ⟨a_z, ha_z, rfl⟩⟩, Zfb_kp h3_z (fun j_z _ _ => pk_un (by omega)), Ztx_kp h4_z (fun j_z _ _ => pk_un (by omega)), Ztx_kp h5_z (fun j_z _ _ => pk_un (by omega))⟩

theorem Zfi.z (h_z : Zfi f_z) (v_z : Int32) : Zfi (upd f_z 4 v_z) := by
  obtain ⟨h1_z, h2_z, h3_z, h4_z, h5_z⟩ := h_z
  exact ⟨Zfr_kp h1_z (fun j_z _ _ => pk_un (by omega)), h2_z, Zfb_kp h3_z (fun j_z _ _ => pk_un (by omega)), Ztx_kp h4_z (fun j_z _ _ => pk_un (by omega)), Ztx_kp h5_z (fun j_z _ _ => pk_un (by omega))⟩

theorem Zfi.tp (h_z : Zfi f_z) {i0 b_z : Nat} (h0_z : i0 < 60) (hb_z : b_z < 256) : Zfi (upd f_z (334 + i0) (nI b_z)) := by
  obtain ⟨h1_z, h2_z, h3_z, h4_z, h5_z⟩ := h_z
  refine ⟨Zfr_kp h1_z (fun j_z _ _ => pk_un (by omega)), Zfsc_kp h2_z (fun j_z _ => pk_un (by omega)), fun i_z hi_z => ?_, Ztx_kp h4_z (fun j_z _ _ => pk_un (by omega)), Ztx_kp h5_z (fun j_z _ _ => pk_un (by omega))⟩
  by_cases e_z : i_z = i0
  · subst e_z
    rw [pk_us]
    exact ⟨b_z, hb_z, rfl⟩
  · rw [pk_un (by omega)]
    exact h3_z i_z hi_z
theorem Zfi.ws (h_z : Zfi f_z) (v_z : Int32) {i0 : Nat} (h0_z : i0 < 24) : Zfi (upd f_z (394 + i0) v_z) := by
  obtain ⟨h1_z, h2_z, h3_z, h4_z, h5_z⟩ := h_z
  exact ⟨Zfr_kp h1_z (fun j_z _ _ => pk_un (by omega)), Zfsc_kp h2_z (fun j_z _ => pk_un (by omega)), Zfb_kp h3_z (fun j_z _ _ => pk_un (by omega)), Ztx_kp h4_z (fun j_z _ _ => pk_un (by omega)), Ztx_kp h5_z (fun j_z _ _ => pk_un (by omega))⟩
/-- a_z place of a_z row_z is written, the row_z still a_z row_z (if it stands) -/
theorem Zfi.row (h_z : Zfi f_z) (v_z : Int32) {i0 w_z : Nat} (h0_z : i0 < 15) (hw_z : w_z < 5) (hr_z : ∀ n_z, f_z 7 = nI n_z → n_z ≤ 15 → i0 < n_z → Zrw f_z i0 → Zrw (upd f_z (9 + w_z + 5 * i0) v_z) i0) : Zfi (upd f_z (9 + w_z + 5 * i0) v_z) := by
  obtain ⟨⟨n_z, g1, g2, g3⟩, h2_z, h3_z, h4_z, h5_z⟩ := h_z
  refine ⟨⟨n_z, g1, by rw [pk_un (by omega)]; exact g2, fun i_z hi_z => ?_⟩, Zfsc_kp h2_z (fun j_z _ => pk_un (by omega)), Zfb_kp h3_z (fun j_z _ _ => pk_un (by omega)), Ztx_kp h4_z (fun j_z _ _ => pk_un (by omega)), Ztx_kp h5_z (fun j_z _ _ => pk_un (by omega))⟩
  by_cases e_z : i_z = i0
  · subst e_z
    exact hr_z n_z g2 g1 hi_z (g3 i_z hi_z)
  · exact Zrw_kp (g3 i_z hi_z) (fun j_z _ _ => pk_un (by omega))
theorem Zfi.less (h_z : Zfi f_z) {n_z m_z : Nat} (hn_z : f_z 7 = nI n_z) (hn2 : n_z ≤ 15) (hm_z : m_z ≤ n_z) : Zfi (upd f_z 7 (nI m_z)) := by
  obtain ⟨⟨n', g1, g2, g3⟩, h2_z, h3_z, h4_z, h5_z⟩ := h_z
  obtain rfl : n' = n_z := Zeq (by omega) (by omega) (g2.symm.trans hn_z)
  exact ⟨⟨m_z, by omega, rfl, fun i_z hi_z => Zrw_kp (g3 i_z (by omega)) (fun j_z _ _ => pk_un (by omega))⟩, Zfsc_kp h2_z (fun j_z _ => pk_un (by omega)), Zfb_kp h3_z (fun j_z _ _ => pk_un (by omega)), Ztx_kp h4_z (fun j_z _ _ => pk_un (by omega)), Ztx_kp h5_z (fun j_z _ _ => pk_un (by omega))⟩
theorem Zfi.more (h_z : Zfi f_z) {n_z : Nat} (hn_z : f_z 7 = nI n_z) (hn2 : n_z < 15) (hr_z : Zrw f_z n_z) : Zfi (upd f_z 7 (nI (n_z + 1))) := by
  obtain ⟨⟨n', g1, g2, g3⟩, h2_z, h3_z, h4_z, h5_z⟩ := h_z
  obtain rfl : n' = n_z := Zeq (by omega) (by omega) (g2.symm.trans hn_z)
  refine ⟨⟨n' + 1, by omega, rfl, fun i_z hi_z => ?_⟩, Zfsc_kp h2_z (fun j_z _ => pk_un (by omega)), Zfb_kp h3_z (fun j_z _ _ => pk_un (by omega)), Ztx_kp h4_z (fun j_z _ _ => pk_un (by omega)), Ztx_kp h5_z (fun j_z _ _ => pk_un (by omega))⟩
  refine Zrw_kp ?_ (fun j_z _ _ => pk_un (by omega))
  by_cases e_z : i_z = n'
  · subst e_z; exact hr_z
  · exact g3 i_z (by omega)
end ZFI
end
section
-- water let down, seasons, draws, purely
theorem fa_or (a_z b_z : Nat) : nI a_z ||| nI b_z = nI (a_z ||| b_z) := by
  apply Int32.toBitVec_inj.1
  show BitVec.ofNat 32 a_z ||| BitVec.ofNat 32 b_z = BitVec.ofNat 32 (a_z ||| b_z)
  apply BitVec.eq_of_getLsbD_eq
  intro i_z hi_z
  simp [hi_z]
def Zcm (f_z : Nat → Int32) (much more : Int32) : Nat → Int32
  | 0 => much
  | i_z + 1 => if Zhb f_z i_z more < Zcm f_z much more i_z then Zhb f_z i_z more else Zcm f_z much more i_z
def Zfn (f_z : Nat → Int32) (much more : Int32) : Nat → Nat
  | 0 => 0
  | i_z + 1 => Zfn f_z much more i_z + (if Zhb f_z i_z more < Zcm f_z much more i_z then 2 ^ i_z else 0)
theorem Zfn_lt (f_z : Nat → Int32) (much more : Int32) : ∀ i_z, Zfn f_z much more i_z < 2 ^ i_z := by
  intro i_z
  induction i_z with
  | zero => exact Nat.zero_lt_one
  | succ i_z ih_z =>
    rw [Zfn, Nat.pow_succ]
    split <;> omega
theorem Zfn_bit (f_z : Nat → Int32) (much more : Int32) : ∀ n_z i_z, i_z < n_z → Zfn f_z much more n_z / 2 ^ i_z % 2 = if Zhb f_z i_z more < Zcm f_z much more i_z then 1 else 0 := by
  intro n_z
  induction n_z with
  | zero => intro i_z hi_z; exact absurd hi_z (Nat.not_lt_zero _)
  | succ n_z ih_z =>
    intro i_z hi_z
    have hlt := Zfn_lt f_z much more n_z
    rw [Zfn]
    by_cases e_z : i_z = n_z
    · subst e_z
      split
      · rw [Nat.add_div_right _ (Nat.two_pow_pos i_z), Nat.div_eq_of_lt hlt]
      · rw [Nat.add_zero, Nat.div_eq_of_lt hlt]
    · have hin : i_z < n_z := by omega
      have h2_z : 2 ^ n_z = 2 ^ i_z * (2 * 2 ^ (n_z - i_z - 1)) := by
        rw [← Nat.pow_succ', ← Nat.pow_add]
        congr 1
        omega
      rw [← ih_z i_z hin]
      split
      · rw [h2_z, Nat.add_mul_div_left _ _ (Nat.two_pow_pos i_z), Nat.add_mul_mod_self_left]
      · rw [Nat.add_zero]
theorem Z2p {i_z : Nat} (hi_z : i_z ≤ 15) : 2 ^ i_z ≤ 32768 := by
  have : 2 ^ i_z ≤ 2 ^ 15 := Nat.pow_le_pow_right (by decide) hi_z
  omega
theorem Zor_bit {F i_z : Nat} (h_z : F < 2 ^ i_z) (hi_z : i_z < 15) : nI F ||| (nI 1 <<< (nI i_z &&& 31)) = nI (F + 2 ^ i_z) := by
  have key : ∀ i_z, i_z < 15 → nI 1 <<< (nI i_z &&& 31) = nI (2 ^ i_z) := by decide +kernel
  rw [key i_z hi_z, fa_or, Nat.or_comm]
  have := Nat.two_pow_add_eq_or_of_lt h_z 1
  rw [Nat.mul_one] at this
  rw [← this, Nat.add_comm]
theorem Zor_0 (x_z : Int32) : x_z ||| nI 0 = x_z := by
  have : nI 0 = (0 : Int32) := rfl
  rw [this]
  exact Int32.or_zero
theorem Zbt_k {F i_z : Nat} (h_z : F < 2 ^ 15) (hi_z : i_z < 15) : ((nI F).toUInt32 >>> ((nI i_z).toUInt32 &&& Int32.toUInt32 31)).toInt32 &&& nI 1 = nI (F / 2 ^ i_z % 2) := by
  have key : ∀ i_z, i_z < 15 → (((nI i_z).toUInt32 &&& Int32.toUInt32 31).toBitVec % 32).toNat = i_z := by decide +kernel
  rw [pk_ushrN (by omega) (nI i_z) i_z (key i_z hi_z), pk_andN (Nat.lt_of_le_of_lt (Nat.div_le_self _ _) (by omega)) 1 (by decide)]
theorem Zbt_s {F i_z : Nat} (h_z : F < 2 ^ 15) (hi_z : i_z < 15) : (nI F >>> (nI i_z &&& 31)) &&& nI 1 = nI (F / 2 ^ i_z % 2) := by
  have key : ∀ i_z, i_z < 15 → ((nI i_z &&& 31).toBitVec.smod 32).toNat = i_z := by decide +kernel
  rw [pk_shrN (by omega) (nI i_z &&& 31) i_z (key i_z hi_z), pk_andN (Nat.lt_of_le_of_lt (Nat.div_le_self _ _) (by omega)) 1 (by decide)]
theorem Zhb_b (f_z : Nat → Int32) (i_z : Nat) (more : Int32) : 0 ≤ (Zhb f_z i_z more).toInt ∧ (Zhb f_z i_z more).toInt ≤ 999 := Zhl_in (Zn_i (by decide)) (Zn_i (by decide)) (by decide)
theorem Zcm_b (f_z : Nat → Int32) {much : Int32} (more : Int32) (h_z : 0 ≤ much.toInt ∧ much.toInt ≤ 999) : ∀ i_z, 0 ≤ (Zcm f_z much more i_z).toInt ∧ (Zcm f_z much more i_z).toInt ≤ 999 := by
  intro i_z
  induction i_z with
  | zero => exact h_z
  | succ i_z ih_z =>
    rw [Zcm]
    split
    · exact Zhb_b f_z i_z more
    · exact ih_z
/-- the TENSION of a_z row_z behind a_z season -/
def Ztn (f_z : Nat → Int32) (much : Int32) (i_z : Nat) : Int32 := if Zhb f_z i_z (nI 0) < Zcm f_z much (nI 0) i_z then Zhl (f_z (12 + 5 * i_z) + -(nI 1)) (-(nI 9)) (nI 9) else if Zcm f_z much (nI 0) i_z = 0 then Zhl (f_z (12 + 5 * i_z) + nI 1) (-(nI 9)) (nI 9) else Zhl (f_z (12 + 5 * i_z) + nI 0) (-(nI 9)) (nI 9)
def Zsk (f_z : Nat → Int32) (much : Int32) : Nat → Nat → Int32
  | 0 => f_z
  | k_z + 1 => upd (Zsk f_z much k_z) (12 + 5 * k_z) (Ztn f_z much k_z)
def Zss (f_z : Nat → Int32) (much : Int32) (n_z : Nat) : Nat → Int32 := upd (upd (Zsk f_z much n_z) 3 (Zhl (f_z 3 + Zcm f_z much (nI 0) n_z) (nI 0) (nI 9999))) 2 (f_z 2 + nI 1)
theorem Zsk_o (f_z : Nat → Int32) (much : Int32) : ∀ (k_z j_z : Nat), (∀ i_z, i_z < k_z → j_z ≠ 12 + 5 * i_z) → Zsk f_z much k_z j_z = f_z j_z := by
  intro k_z
  induction k_z with
  | zero => intro j_z _; rfl
  | succ k_z ih_z =>
    intro j_z h_z
    rw [Zsk, pk_un (h_z k_z (by omega))]
    exact ih_z j_z (fun i_z hi_z => h_z i_z (by omega))
theorem Ztn_b (f_z : Nat → Int32) (much : Int32) (i_z : Nat) : -9 ≤ (Ztn f_z much i_z).toInt ∧ (Ztn f_z much i_z).toInt ≤ 9 := by
  unfold Ztn
  split
  · exact Zhl_in Zneg9 (Zn_i (by decide)) (by decide)
  · split
    · exact Zhl_in Zneg9 (Zn_i (by decide)) (by decide)
    · exact Zhl_in Zneg9 (Zn_i (by decide)) (by decide)
theorem Zrw_te {f_z : Nat → Int32} {i_z : Nat} {v_z : Int32} (h_z : Zrw f_z i_z) (hv_z : -9 ≤ v_z.toInt ∧ v_z.toInt ≤ 9) : Zrw (upd f_z (12 + 5 * i_z) v_z) i_z := by
  unfold Zrw at h_z ⊢
  rw [pk_un (by omega), pk_un (by omega), pk_un (by omega), pk_us, pk_un (by omega)]
  exact ⟨h_z.1, h_z.2.1, h_z.2.2.1, hv_z, h_z.2.2.2.2⟩
theorem Zrw_wi {f_z : Nat → Int32} {i_z w_z : Nat} (h_z : Zrw f_z i_z) (h1_z : 1 ≤ w_z) (h2_z : w_z ≤ 12) : Zrw (upd f_z (11 + 5 * i_z) (nI w_z)) i_z := by
  unfold Zrw at h_z ⊢
  rw [pk_un (by omega), pk_un (by omega), pk_us, pk_un (by omega), pk_un (by omega)]
  exact ⟨h_z.1, h_z.2.1, ⟨w_z, h1_z, h2_z, rfl⟩, h_z.2.2.2.1, h_z.2.2.2.2⟩
theorem Zfi_te {f_z : Nat → Int32} (h_z : Zfi f_z) {i_z : Nat} (hi_z : i_z < 15) {v_z : Int32} (hv_z : -9 ≤ v_z.toInt ∧ v_z.toInt ≤ 9) : Zfi (upd f_z (12 + 5 * i_z) v_z) := h_z.row v_z (w_z := 3) hi_z (by decide) (fun _ _ _ _ hr_z => Zrw_te hr_z hv_z)
theorem Zfi_wi {f_z : Nat → Int32} (h_z : Zfi f_z) {i_z : Nat} (hi_z : i_z < 15) {w_z : Nat} (h1_z : 1 ≤ w_z) (h2_z : w_z ≤ 12) : Zfi (upd f_z (11 + 5 * i_z) (nI w_z)) := h_z.row (nI w_z) (w_z := 2) hi_z (by decide) (fun _ _ _ _ hr_z => Zrw_wi hr_z h1_z h2_z)
theorem Zsk_fi {f_z : Nat → Int32} (much : Int32) (h_z : Zfi f_z) : ∀ k_z, k_z ≤ 15 → Zfi (Zsk f_z much k_z) := by
  intro k_z
  induction k_z with
  | zero => intro _; exact h_z
  | succ k_z ih_z => intro hk_z; exact Zfi_te (ih_z (by omega)) (by omega) (Ztn_b f_z much k_z)
theorem Zhl_ex {x_z : Int32} : ∃ a_z, a_z ≤ 9999 ∧ Zhl x_z (nI 0) (nI 9999) = nI a_z := by
  have h_z := Zhl_in (v_z := x_z) (l := nI 0) (h_z := nI 9999) (lo := 0) (hi_z := 9999) (Zn_i (by decide)) (Zn_i (by decide)) (by decide)
  obtain ⟨j_z, h1_z, h2_z, h3_z⟩ := Zof h_z.1
  exact ⟨j_z, by omega, h2_z⟩
theorem Zss_fi {f_z : Nat → Int32} (much : Int32) {n_z se : Nat} (h_z : Zfi f_z) (hn_z : n_z ≤ 15) (hse : f_z 2 = nI se) (hlt : se < 9999) : Zfi (Zss f_z much n_z) := by
  obtain ⟨a_z, h1_z, h2_z⟩ := Zhl_ex (x_z := f_z 3 + Zcm f_z much (nI 0) n_z)
  unfold Zss
  rw [h2_z, hse, nI_add]
  exact ((Zsk_fi much h_z n_z hn_z).sa h1_z).se (by omega)
/-- draws -/
def Zdz (z_z : Int32) : Int32 := z_z * nI 1103515245 + nI 12345
def Zdr (z_z : Int32) : Int32 := (z_z.toUInt32 >>> ((nI 8).toUInt32 &&& Int32.toUInt32 31)).toInt32
def Zdn (z_z : Int32) : Nat := (Zdr (Zdz z_z)).toNatClampNeg
theorem Zdn_ok (z_z : Int32) : Zdr (Zdz z_z) = nI (Zdn z_z) ∧ Zdn z_z < 16777216 := by
  unfold Zdn
  generalize Zdz z_z = y_z
  have h_z := pk_ushr y_z (nI 8) 8 (by decide)
  have hlt : (Zdr y_z).toBitVec.toNat < 16777216 := by
    show (y_z.toUInt32 >>> ((nI 8).toUInt32 &&& Int32.toUInt32 31)).toInt32.toBitVec.toNat < _
    rw [h_z]
    have := y_z.toBitVec.isLt
    omega
  have e_z : Zdr y_z = nI (Zdr y_z).toBitVec.toNat := by
    apply Int32.toBitVec_inj.1
    show (Zdr y_z).toBitVec = BitVec.ofNat 32 (Zdr y_z).toBitVec.toNat
    rw [BitVec.ofNat_toNat, BitVec.setWidth_eq]
  rw [e_z, Zcl_n (by omega)]
  exact ⟨rfl, hlt⟩
/-- what draws take from a_z row_z -/
def Zwr (f_z : Nat → Int32) (n_z : Nat) : Nat → Int32 := if n_z = 0 then f_z else upd (upd (upd f_z 4 (Zdz (f_z 4))) 4 (Zdz (Zdz (f_z 4)))) (11 + 5 * (Zdn (f_z 4) % n_z)) (Zhl (f_z (11 + 5 * (Zdn (f_z 4) % n_z)) - nI (Zdn (Zdz (f_z 4)) % 2)) (nI 1) (nI 12))
theorem Zhl_w {w_z l : Nat} (h1_z : 1 ≤ w_z) (h2_z : w_z ≤ 12) (hl_z : l < 2) : ∃ v_z, 1 ≤ v_z ∧ v_z ≤ 12 ∧ Zhl (nI w_z - nI l) (nI 1) (nI 12) = nI v_z ∧ (if nI 1 < nI w_z - nI l then nI w_z - nI l else nI 1) = nI v_z := by
  have key : ∀ w_z, w_z < 13 → 1 ≤ w_z → ∀ l, l < 2 → ∃ v_z, v_z < 13 ∧ 1 ≤ v_z ∧ Zhl (nI w_z - nI l) (nI 1) (nI 12) = nI v_z ∧ (if nI 1 < nI w_z - nI l then nI w_z - nI l else nI 1) = nI v_z := by decide +kernel
  obtain ⟨v_z, g1, g2, g3, g4⟩ := key w_z (by omega) h1_z l hl_z
  exact ⟨v_z, g2, by omega, g3, g4⟩
/-- a_z season by draws -/
def Zl1 (f_z : Nat → Int32) (n_z : Nat) : Nat → Int32 := Zwr (Zss (upd f_z 4 (Zdz (f_z 4))) (nI (Zdn (f_z 4) % 120)) n_z) n_z
def Zlf (f_z : Nat → Int32) (n_z : Nat) : Int32 := nI (Zfn (upd f_z 4 (Zdz (f_z 4))) (nI (Zdn (f_z 4) % 120)) (nI 0) n_z)
def Zll (f_z : Nat → Int32) (n_z : Nat) : Nat → (Nat → Int32)
  | 0 => f_z
  | k_z + 1 => Zl1 (Zll f_z n_z k_z) n_z
def Zlo (f_z : Nat → Int32) (n_z : Nat) : Nat → Int32
  | 0 => nI 0
  | k_z + 1 => Zlo f_z n_z k_z ||| Zlf (Zll f_z n_z k_z) n_z
theorem Zwr_fi {f_z : Nat → Int32} {n_z : Nat} (h_z : Zfi f_z) (hn_z : f_z 7 = nI n_z) (hn2 : n_z ≤ 15) : Zfi (Zwr f_z n_z) := by
  unfold Zwr
  split
  · exact h_z
  · rename_i h0_z
    have hlt : Zdn (f_z 4) % n_z < n_z := Nat.mod_lt _ (Nat.pos_of_ne_zero h0_z)
    have hr_z : Zrw f_z (Zdn (f_z 4) % n_z) := by
      obtain ⟨n', g1, g2, g3⟩ := h_z.1
      obtain rfl : n' = n_z := Zeq (by omega) (by omega) (g2.symm.trans hn_z)
      exact g3 _ hlt
    obtain ⟨-, -, ⟨w_z, h1_z, h2_z, h3_z⟩, -, -⟩ := hr_z
    obtain ⟨v_z, g1, g2, g3, -⟩ := Zhl_w h1_z h2_z (Nat.mod_lt (Zdn (Zdz (f_z 4))) (by decide : 0 < 2))
    rw [h3_z, g3]
    exact Zfi_wi ((h_z.z _).z _) (by omega) g1 g2
theorem Zss_7 (f_z : Nat → Int32) (much : Int32) (n_z : Nat) : Zss f_z much n_z 7 = f_z 7 := by
  unfold Zss
  rw [pk_un (by decide), pk_un (by decide), Zsk_o]
  intro i_z hi_z; omega
theorem Zss_2 (f_z : Nat → Int32) (much : Int32) (n_z : Nat) : Zss f_z much n_z 2 = f_z 2 + nI 1 := pk_us
theorem Zwr_o (f_z : Nat → Int32) (n_z j_z : Nat) (hj_z : j_z < 11) (h4_z : j_z ≠ 4) : Zwr f_z n_z j_z = f_z j_z := by
  unfold Zwr
  split
  · rfl
  · rw [pk_un (by omega), pk_un h4_z, pk_un h4_z]
theorem Zll_ok {f_z : Nat → Int32} {n_z se m_z : Nat} (h_z : Zfi f_z) (hn_z : f_z 7 = nI n_z) (hn2 : n_z ≤ 15) (hse : f_z 2 = nI se) (hm_z : se + m_z ≤ 9999) : ∀ k_z, k_z ≤ m_z → Zfi (Zll f_z n_z k_z) ∧ Zll f_z n_z k_z 7 = nI n_z ∧ Zll f_z n_z k_z 2 = nI (se + k_z) := by
  intro k_z
  induction k_z with
  | zero => intro _; exact ⟨h_z, hn_z, hse⟩
  | succ k_z ih_z =>
    intro hk_z
    obtain ⟨h1_z, h2_z, h3_z⟩ := ih_z (by omega)
    have e7 : (upd (Zll f_z n_z k_z) 4 (Zdz (Zll f_z n_z k_z 4))) 7 = nI n_z := h2_z
    have e2_z : (upd (Zll f_z n_z k_z) 4 (Zdz (Zll f_z n_z k_z 4))) 2 = nI (se + k_z) := h3_z
    have g1 := Zss_fi (nI (Zdn (Zll f_z n_z k_z 4) % 120)) (h1_z.z (Zdz (Zll f_z n_z k_z 4))) hn2 e2_z (by omega)
    have g7 := (Zss_7 (upd (Zll f_z n_z k_z) 4 (Zdz (Zll f_z n_z k_z 4))) (nI (Zdn (Zll f_z n_z k_z 4) % 120)) n_z).trans e7
    refine ⟨Zwr_fi g1 g7 hn2, ?_, ?_⟩
    · show Zwr _ n_z 7 = _
      rw [Zwr_o _ _ _ (by decide) (by decide)]
      exact g7
    · show Zwr _ n_z 2 = _
      rw [Zwr_o _ _ _ (by decide) (by decide), Zss_2, e2_z, nI_add]
      rfl
/-- the class's way to a_z row's TENSION -/
theorem Ztn_1 {f_z : Nat → Int32} {much t : Int32} {i_z : Nat} (ht_z : f_z (12 + 5 * i_z) = t) (hb_z : -9 ≤ t.toInt ∧ t.toInt ≤ 9) (h_z : Zhb f_z i_z (nI 0) < Zcm f_z much (nI 0) i_z) : (if -(nI 9) < t - nI 1 then t - nI 1 else -(nI 9)) = Ztn f_z much i_z := by
  unfold Ztn
  rw [if_pos h_z, ht_z]
  have e1_z : (t - nI 1).toInt = t.toInt - 1 := by rw [Zsub_i (by rw [Zn_i (by decide)]; omega) (by rw [Zn_i (by decide)]; omega), Zn_i (by decide)]; rfl
  have e2_z : t + -(nI 1) = t - nI 1 := (Int32.sub_eq_add_neg ..).symm
  rw [e2_z]
  unfold Zhl
  simp only [Zlt_i, Zneg9, e1_z, Zn_i (show 9 < 2 ^ 31 by decide)]
  split <;> split <;> (try split) <;> first | rfl | omega | (rw [Zeq_i, Zneg9, e1_z]; omega)
theorem Ztn_2 {f_z : Nat → Int32} {much t : Int32} {i_z : Nat} (ht_z : f_z (12 + 5 * i_z) = t) (hb_z : -9 ≤ t.toInt ∧ t.toInt ≤ 9) (h_z : ¬ Zhb f_z i_z (nI 0) < Zcm f_z much (nI 0) i_z) (h0_z : Zcm f_z much (nI 0) i_z = 0) : (if t + nI 1 < nI 9 then t + nI 1 else nI 9) = Ztn f_z much i_z := by
  unfold Ztn
  rw [if_neg h_z, if_pos h0_z, ht_z]
  have e1_z : (t + nI 1).toInt = t.toInt + 1 := by rw [Zadd_i (by rw [Zn_i (by decide)]; omega) (by rw [Zn_i (by decide)]; omega), Zn_i (by decide)]; rfl
  unfold Zhl
  simp only [Zlt_i, Zneg9, e1_z, Zn_i (show 9 < 2 ^ 31 by decide)]
  split <;> split <;> (try split) <;> first | rfl | omega | (rw [Zeq_i, Zn_i (by decide), e1_z]; omega)
theorem Ztn_3 {f_z : Nat → Int32} {much t : Int32} {i_z : Nat} (ht_z : f_z (12 + 5 * i_z) = t) (hb_z : -9 ≤ t.toInt ∧ t.toInt ≤ 9) (h_z : ¬ Zhb f_z i_z (nI 0) < Zcm f_z much (nI 0) i_z) (h0_z : ¬ Zcm f_z much (nI 0) i_z = 0) : t = Ztn f_z much i_z := by
  unfold Ztn
  rw [if_neg h_z, if_neg h0_z, ht_z]
  have e1_z : t + nI 0 = t := Int32.add_zero t
  rw [e1_z]
  unfold Zhl
  rw [if_neg (by rw [Zlt_i, Zneg9]; omega), if_neg (by rw [Zlt_i, Zn_i (by decide)]; omega)]
theorem Zupd_id (f_z : Nat → Int32) (j_z : Nat) : upd f_z j_z (f_z j_z) = f_z := by
  funext i_z
  by_cases e_z : i_z = j_z
  · subst e_z; exact pk_us
  · exact pk_un e_z
theorem Zsea_k {a_z c_z : Int32} (ha_z : 0 ≤ a_z.toInt ∧ a_z.toInt ≤ 9999) (hc_z : 0 ≤ c_z.toInt ∧ c_z.toInt ≤ 999) : (if a_z + c_z < nI 9999 then a_z + c_z else nI 9999) = Zhl (a_z + c_z) (nI 0) (nI 9999) := by
  have e1_z : (a_z + c_z).toInt = a_z.toInt + c_z.toInt := Zadd_i (by omega) (by omega)
  unfold Zhl
  simp only [Zlt_i, e1_z, Zn_i (show 9999 < 2 ^ 31 by decide), Zn_i (show 0 < 2 ^ 31 by decide)]
  split <;> split <;> (try split) <;> first | rfl | omega | (rw [Zeq_i, e1_z, Zn_i (by decide)]; omega)
-- what the acts that change the state answer, and the state then, purely (n_z: how many rows)
abbrev Zan_ : Type := Int32 × (Nat → Int32)
def Zkok (v_z : Zan_) (M : Zmem) (r_z : Option Value) (M' : Zmem) : Prop := r_z = some (.int v_z.1) ∧ Zrv 1 v_z.2 M' ∧ Zhk M M'
def Zsok (v_z : Zan_) (M : Zmem) (r_z : Option Value) (M' : Zmem) : Prop := r_z = some (.int v_z.1) ∧ M' 54 = v_z.2 ∧ Zhs M M'
theorem Zkok_e {f_z : Nat → Int32} {M M' : Zmem} {k_z : Nat} (hz_z : Zrv 1 f_z M) (hs_z : Sc M M') : Zkok (Er k_z, f_z) M (some (.int (Er k_z))) M' := ⟨rfl, hz_z.sc (Or.inl rfl) hs_z, hs_z.hk⟩
theorem Zsok_e {M M' : Zmem} {k_z : Nat} (hs_z : Sc M M') : Zsok (Er k_z, M 54) M (some (.int (Er k_z))) M' := ⟨rfl, hs_z.f54, hs_z.hs⟩
def Zkm (f_z : Nat → Int32) (km w_z t : Int32) : Int32 := Zyn f_z (Zsaid (km.toNatClampNeg / 10) (km.toNatClampNeg % 10) w_z t (f_z 2)) w_z t
def Zkn (f_z : Nat → Int32) (n_z : Nat) (km w_z t : Int32) : Nat → Int32 := upd (upd (upd (upd (upd f_z (9 + 5 * n_z) (nI (km.toNatClampNeg / 10))) (10 + 5 * n_z) (nI (km.toNatClampNeg % 10))) (11 + 5 * n_z) w_z) (12 + 5 * n_z) t) (13 + 5 * n_z) (nI 0)
def Fknit (f_z : Nat → Int32) (n_z : Nat) (km w_z t : Int32) : Zan_ := if (nI 0 ≤ km ∧ km ≤ nI 69) ∧ (nI 1 ≤ w_z ∧ w_z ≤ nI 12) ∧ (-(nI 9) ≤ t ∧ t ≤ nI 9) then (if n_z = 15 then (Er 4, f_z) else if f_z 0 < Zkm f_z km w_z t then (Er 3, f_z) else (Zkm f_z km w_z t, upd (upd (Zkn f_z n_z km w_z t) 7 (nI (n_z + 1))) 0 (f_z 0 - Zkm f_z km w_z t))) else (Er 1, f_z)
noncomputable def Fbecome (f_z : Nat → Int32) (n_z : Nat) (row_z km : Int32) : Zan_ := haveI : Decidable (vp_in row_z n_z) := Classical.propDecidable _; if vp_in row_z n_z ∧ nI 0 ≤ km ∧ km ≤ nI 69 then (f_z (9 + 5 * row_z.toNatClampNeg), upd (upd f_z (10 + 5 * row_z.toNatClampNeg) (nI (km.toNatClampNeg % 10))) (9 + 5 * row_z.toNatClampNeg) (nI (km.toNatClampNeg / 10))) else (Er 1, f_z)
noncomputable def Ftie (f_z : Nat → Int32) (n_z : Nat) (row_z is : Int32) : Zan_ := haveI : Decidable (vp_in row_z n_z) := Classical.propDecidable _; if vp_in row_z n_z ∧ nI 0 ≤ is ∧ is ≤ nI 1 then (f_z (13 + 5 * row_z.toNatClampNeg), upd f_z (13 + 5 * row_z.toNatClampNeg) is) else (Er 1, f_z)
noncomputable def Fdrop (f_z : Nat → Int32) (n_z : Nat) (row_z : Int32) : Zan_ := haveI : Decidable (vp_in row_z n_z) := Classical.propDecidable _; if vp_in row_z n_z then (if f_z (11 + 5 * row_z.toNatClampNeg) = nI 1 then (Er 3, f_z) else (f_z (11 + 5 * row_z.toNatClampNeg) - nI 1, upd f_z (11 + 5 * row_z.toNatClampNeg) (f_z (11 + 5 * row_z.toNatClampNeg) - nI 1))) else (Er 1, f_z)
noncomputable def Ftense (f_z : Nat → Int32) (n_z : Nat) (row_z t : Int32) : Zan_ := haveI : Decidable (vp_in row_z n_z) := Classical.propDecidable _; if vp_in row_z n_z ∧ -(nI 9) ≤ t ∧ t ≤ nI 9 then (f_z (12 + 5 * row_z.toNatClampNeg), upd f_z (12 + 5 * row_z.toNatClampNeg) t) else (Er 1, f_z)
def Fwind (f_z : Nat → Int32) (what v_z : Int32) : Zan_ := if what = nI 0 ∧ nI 0 ≤ v_z ∧ v_z ≤ nI 9999 then (f_z 0, upd f_z 0 v_z) else if what = nI 1 ∧ nI 0 ≤ v_z ∧ v_z ≤ nI 3 then (f_z 1, upd f_z 1 v_z) else (Er 1, f_z)
def Fseason (f_z : Nat → Int32) (n_z : Nat) (much : Int32) : Zan_ := if nI 0 ≤ much ∧ much ≤ nI 999 then (if f_z 2 = nI 9999 then (Er 3, f_z) else (nI (Zfn f_z much (nI 0) n_z), Zss f_z much n_z)) else (Er 1, f_z)
def Floose (f_z : Nat → Int32) (n_z : Nat) (m_z : Int32) : Zan_ := if nI 1 ≤ m_z ∧ m_z ≤ nI 30 then (if nI 9999 < f_z 2 + m_z then (Er 3, f_z) else (Zlo f_z n_z m_z.toNatClampNeg, Zll f_z n_z m_z.toNatClampNeg)) else (Er 1, f_z)
def Fseed (f_z : Nat → Int32) (v_z : Int32) : Zan_ := (f_z 4, upd f_z 4 v_z)
def Ftell (f_z : Nat → Int32) (v_z : Int32) : Zan_ := if f_z 6 = nI 24 then (Er 4, f_z) else (f_z 6 + nI 1, upd (upd f_z (394 + (f_z 6).toNatClampNeg) v_z) 6 (f_z 6 + nI 1))
/-- from row_z k_z on: the first number that waits that is not as wide as its row_z -/
def Zck_ (f_z : Nat → Int32) (n_z m_z : Nat) : Nat → Nat → Int32
  | 0, _ => nI 0
  | j_z + 1, k_z => if n_z ≤ k_z ∨ ¬ f_z (394 + k_z) = f_z (11 + 5 * k_z) then nI 1 + nI k_z else Zck_ f_z n_z m_z j_z (k_z + 1)
def Fcheck (f_z : Nat → Int32) (n_z : Nat) : Zan_ := (Zck_ f_z n_z (f_z 6).toNatClampNeg (f_z 6).toNatClampNeg 0, upd f_z 6 (nI 0))
theorem Zvp {x_z : Int32} {n_z : Nat} (h_z : vp_in x_z n_z) (hn_z : n_z ≤ 1000) : ∃ i_z, i_z < n_z ∧ x_z = nI i_z ∧ x_z.toNatClampNeg = i_z := by
  obtain ⟨i_z, h1_z, h2_z⟩ := Zin_ex h_z (by omega)
  exact ⟨i_z, h1_z, h2_z, by rw [h2_z, Zcl_n (by omega)]⟩
theorem Zkm_of {k_z : Nat} (h_z : k_z ≤ 69) : ∃ kd_z m_z, kd_z ≤ 6 ∧ m_z ≤ 9 ∧ k_z = 10 * kd_z + m_z ∧ k_z / 10 = kd_z ∧ k_z % 10 = m_z := ⟨k_z / 10, k_z % 10, by omega, by omega, by omega, rfl, rfl⟩
theorem Zupd_c {f_z : Nat → Int32} {i_z j_z : Nat} {v_z w_z : Int32} (h_z : i_z ≠ j_z) : upd (upd f_z i_z v_z) j_z w_z = upd (upd f_z j_z w_z) i_z v_z := by
  funext k_z
  unfold upd
  split
  · rename_i e_z
    split
    · rename_i e2_z; exact absurd (e2_z.symm.trans e_z) h_z
    · rfl
  · rfl
theorem Zkn_s {f_z : Nat → Int32} {M' : Zmem} {n_z kd_z m_z : Nat} {w_z t : Int32} (e54 : M' 54 = f_z) (hn_z : f_z 7 = nI n_z) (hn2 : n_z ≤ 15) (hk_z : 10 * kd_z + m_z ≤ 69) (ekd : (10 * kd_z + m_z) / 10 = kd_z) (em : (10 * kd_z + m_z) % 10 = m_z) {y_z : Int32} :
    (Zu (Zu (Zu (Zu (Zu (Zu (Zu M' 54 (9 + 5 * n_z + 0) (nI ((10 * kd_z + m_z) / 10))) 54 (9 + 5 * n_z + 1) (nI ((10 * kd_z + m_z) % 10))) 54 (9 + 5 * n_z + 2) w_z) 54 (9 + 5 * n_z + 3) t) 54 (9 + 5 * n_z + 4) (nI 0)) 54 7 ((Zu (Zu (Zu (Zu (Zu M' 54 (9 + 5 * n_z + 0) (nI ((10 * kd_z + m_z) / 10))) 54 (9 + 5 * n_z + 1) (nI ((10 * kd_z + m_z) % 10))) 54 (9 + 5 * n_z + 2) w_z) 54 (9 + 5 * n_z + 3) t) 54 (9 + 5 * n_z + 4) (nI 0)) 54 7 + nI 1)) 54 0 y_z) 54 = upd (upd (Zkn f_z n_z (nI (10 * kd_z + m_z)) w_z t) 7 (nI (n_z + 1))) 0 y_z := by
  have e7 : (Zu (Zu (Zu (Zu (Zu M' 54 (9 + 5 * n_z + 0) (nI ((10 * kd_z + m_z) / 10))) 54 (9 + 5 * n_z + 1) (nI ((10 * kd_z + m_z) % 10))) 54 (9 + 5 * n_z + 2) w_z) 54 (9 + 5 * n_z + 3) t) 54 (9 + 5 * n_z + 4) (nI 0)) 54 7 = nI n_z := by
    simp only [Zu_at]
    rw [pk_un (by omega), pk_un (by omega), pk_un (by omega), pk_un (by omega), pk_un (by omega), e54, hn_z]
  rw [e7, nI_add]
  simp only [Zu_at]
  rw [e54]
  unfold Zkn
  rw [Zcl_n (show 10 * kd_z + m_z < 2 ^ 31 by omega), show 9 + 5 * n_z + 0 = 9 + 5 * n_z by omega, show 9 + 5 * n_z + 1 = 10 + 5 * n_z by omega, show 9 + 5 * n_z + 2 = 11 + 5 * n_z by omega, show 9 + 5 * n_z + 3 = 12 + 5 * n_z by omega, show 9 + 5 * n_z + 4 = 13 + 5 * n_z by omega]
end
section

section ZRW
variable {f_z : Nat → Int32} {M : Zmem} {i_z n_z : Nat}
theorem Zrv.row (h_z : Zrv 1 f_z M) (hi_z : i_z < 15) : M 2 i_z = f_z (9 + 5 * i_z) ∧ M 3 i_z = f_z (10 + 5 * i_z) ∧ M 4 i_z = f_z (11 + 5 * i_z) ∧ M 5 i_z = f_z (12 + 5 * i_z) ∧ M 6 i_z = f_z (13 + 5 * i_z) := h_z.2.1 i_z hi_z
theorem Zfi.rw (h_z : Zfi f_z) (hn_z : f_z 7 = nI n_z) (hn2 : n_z ≤ 15) (hi_z : i_z < n_z) : Zrw f_z i_z := by
  obtain ⟨n', g1, g2, g3⟩ := h_z.1
  obtain rfl : n' = n_z := Zeq (by omega) (by omega) (g2.symm.trans hn_z)
  exact g3 i_z hi_z
theorem k_holdsR (more : Int32) (hz_z : Zrv 1 f_z M) (hfi : Zfi f_z) (hn_z : f_z 7 = nI n_z) (hn2 : n_z ≤ 15) (hi_z : i_z < n_z) : ZC 171 3 [.ref 1, .int (nI i_z), .int more] M (fun r_z M' => r_z = some (.int (Zhb f_z i_z more)) ∧ St M M') :=
  k_holdsOf f_z i_z more M (by omega) (hfi.rw hn_z hn2 hi_z) (hz_z.row (by omega)).1 (hz_z.row (by omega)).2.2.1 (hz_z.row (by omega)).2.2.2.1 hz_z.2.2.2.2.2 hfi.2.2.2.2
theorem k_yarnR (hz_z : Zrv 1 f_z M) (hfi : Zfi f_z) (hn_z : f_z 7 = nI n_z) (hn2 : n_z ≤ 15) (hi_z : i_z < n_z) : ZC 170 4 [.ref 1, .int (nI i_z)] M (fun r_z M' => r_z = some (.int (Zyo f_z i_z)) ∧ St M M') :=
  k_yarnOf f_z i_z M (by omega) (hfi.rw hn_z hn2 hi_z) (hz_z.row (by omega)).1 (hz_z.row (by omega)).2.1 (hz_z.row (by omega)).2.2.1 (hz_z.row (by omega)).2.2.2.1 hz_z.1.2.2.2.1 hz_z.2.2.2.2.1 hfi.2.2.2.1
end ZRW

set_option maxRecDepth 20000 in
set_option maxHeartbeats 1000000 in
theorem k_waters (f_z : Nat → Int32) (n_z : Nat) (much more : Int32) (M : Zmem) (hz_z : Zrv 1 f_z M) (hfi : Zfi f_z) (hn_z : f_z 7 = nI n_z) (hn2 : n_z ≤ 15) : ZC 175 4 [.ref 1, .int much, .int more] M (fun r_z M' => r_z = some (.int (nI (Zfn f_z much more n_z))) ∧ Sc M M' ∧ ∀ i_z, i_z ≤ n_z → M' 10 i_z = Zcm f_z much more i_z) := by
  refine ZC_of Zt175 Zk175 (Nat.le_of_ble_eq_true rfl) (by decide) rfl (fun X hX hE => ?_)
  have L : ∀ (q_z i_z : Nat) (M1 : Zmem), n_z - i_z < q_z → i_z ≤ n_z → Sc M M1 → (∀ j_z, j_z ≤ i_z → M1 10 j_z = Zcm f_z much more j_z) → ZP X Zt175 (Zsf Zt175 12) [(4, .int (nI i_z)), (3, .int (nI (Zfn f_z much more i_z))), (0, .ref 1), (1, .int much), (2, .int more)] [] M1 := by
    intro q_z
    induction q_z with
    | zero => intro i_z M1 hq_z; exact absurd hq_z (Nat.not_lt_zero _)
    | succ q_z ih_z =>
      intro i_z M1 hq_z hi_z hsc hco
      have hz1 := hz_z.sc (Or.inl rfl) hsc
      refine Zgo hX 3 rfl True.intro ?_
      rw [hz1.n hn_z]
      refine Zs_ige hX (List.cons_ne_nil _ _) (fun h18_z => ?_) (fun h18_z => ?_)
      · obtain rfl : i_z = n_z := by have := (Zn_le (by omega) (by omega)).mp h18_z; omega
        refine Zgo hX 1 rfl True.intro ?_
        refine Zs_ret hX hE rfl ⟨rfl, hsc, hco⟩
      · have hlt : i_z < n_z := (Nat.lt_or_ge i_z n_z).elim id (fun q_z => absurd ((Zn_le (by omega) (by omega)).mpr q_z) h18_z)
        refine Zgo hX 3 rfl True.intro ?_
        refine Zs_callv hX (List.cons_ne_nil _ _) (k_holdsR more hz1 hfi hn_z hn2 hlt) (by first | decide | omega) (by decide) rfl rfl rfl (by decide) (Nat.le_of_ble_eq_true rfl) (fun r_z M' hc_z => ?_)
        obtain ⟨rfl, hs2⟩ := hc_z
        have e10 : ∀ j_z, M' 10 j_z = M1 10 j_z := fun j_z => hs2 10 j_z rfl
        have hsc2 := hsc.tr hs2.sc
        have L49 : ∀ F, Zfn f_z much more (i_z + 1) = F → ZP X Zt175 (Zsf Zt175 49) [(3, .int (nI F)), (5, .int (Zhb f_z i_z more)), (4, .int (nI i_z)), (0, .ref 1), (1, .int much), (2, .int more)] [] M' := by
          rintro F rfl
          refine Zgo hX 10 rfl (Zin_n (by omega) (by decide)) ?_
          rw [Zcl_n (show i_z < 2 ^ 31 by omega), e10, hco i_z (Nat.le_refl _), nI_add]
          refine Zs_calls hX (List.cons_ne_nil _ _) (by decide) (c_min _ _ _) (by first | decide | omega) rfl rfl (by decide) (Nat.le_of_ble_eq_true rfl) (fun r_z M' hc_z => ?_)
          obtain ⟨rfl, rfl⟩ := hc_z
          refine Zgo hX 3 rfl (Zin_n (by omega) (by decide)) ?_
          rw [Zcl_n (show i_z + 1 < 2 ^ 31 by omega), nI_add]
          refine Zs_sub (l' := [(4, .int (nI (i_z + 1))), (3, .int (nI (Zfn f_z much more (i_z + 1)))), (0, .ref 1), (1, .int much), (2, .int more)]) rfl ?_
          refine ih_z (i_z + 1) _ (by omega) hlt (hsc2.u _ rfl) (fun j_z hj_z => ?_)
          rw [Zu_k]
          by_cases e_z : j_z = i_z + 1
          · subst e_z; rw [if_pos ⟨rfl, rfl⟩]; rfl
          · rw [if_neg (fun q_z => e_z q_z.2), e10, hco j_z (by omega)]
        refine Zgo hX 6 rfl (Zin_n (by omega) (by decide)) ?_
        rw [Zcl_n (show i_z < 2 ^ 31 by omega), e10, hco i_z (Nat.le_refl _)]
        refine Zs_ile hX (List.cons_ne_nil _ _) (fun h39_z => ?_) (fun h39_z => ?_)
        · refine Zs_sub (l' := [(3, .int (nI (Zfn f_z much more i_z))), (5, .int (Zhb f_z i_z more)), (4, .int (nI i_z)), (0, .ref 1), (1, .int much), (2, .int more)]) rfl ?_
          exact L49 _ (by rw [Zfn, if_neg (Int32.not_lt.mpr h39_z), Nat.add_zero])
        · refine Zgo hX 6 rfl True.intro ?_
          rw [Zor_bit (Zfn_lt f_z much more i_z) (by omega)]
          refine Zs_sub (l' := [(3, .int (nI (Zfn f_z much more i_z + 2 ^ i_z))), (5, .int (Zhb f_z i_z more)), (4, .int (nI i_z)), (0, .ref 1), (1, .int much), (2, .int more)]) rfl ?_
          exact L49 _ (by rw [Zfn, if_pos (Int32.not_le.mp h39_z)])
  refine Zgo hX 9 rfl (Zin_n (by decide) (by decide)) ?_
  simp only [Zcl_n, Nat.reducePow, Nat.reduceLT]
  refine Zs_sub (l' := [(4, .int (nI 0)), (3, .int (nI 0)), (0, .ref 1), (1, .int much), (2, .int more)]) rfl ?_
  refine L (n_z + 1) 0 _ (by omega) (by omega) ((Sc.rf M).u _ rfl) (fun j_z hj_z => ?_)
  obtain rfl : j_z = 0 := by omega
  rfl

set_option maxRecDepth 20000 in
set_option maxHeartbeats 1000000 in
theorem s_letDown (n_z : Nat) (much more : Int32) (M : Zmem) (hfi : Zfi (M 54)) (hn_z : M 54 7 = nI n_z) (hn2 : n_z ≤ 15) : ZC 82 4 [.ref 53, .int much, .int more] M (fun r_z M' => r_z = none ∧ Sc M M' ∧ M' 53 12 = nI (Zfn (M 54) much more n_z) ∧ ∀ i_z, i_z ≤ n_z → M' 60 i_z = Zcm (M 54) much more i_z) := by
  refine ZC_of Zt82 Zk82 (Nat.le_of_ble_eq_true rfl) (by decide) rfl (fun X hX hE => ?_)
  have L : ∀ (q_z i_z : Nat) (M1 : Zmem), n_z - i_z < q_z → i_z ≤ n_z → Sc M M1 → M1 53 12 = nI (Zfn (M 54) much more i_z) → (∀ j_z, j_z ≤ i_z → M1 60 j_z = Zcm (M 54) much more j_z) → ZP X Zt82 (Zsf Zt82 14) [(3, .int (nI i_z)), (0, .ref 53), (1, .int much), (2, .int more)] [] M1 := by
    intro q_z
    induction q_z with
    | zero => intro i_z M1 hq_z; exact absurd hq_z (Nat.not_lt_zero _)
    | succ q_z ih_z =>
      intro i_z M1 hq_z hi_z hsc hfl hco
      have e54 := hsc.f54
      refine Zgo hX 5 rfl (Zin_n (by decide) (by decide)) ?_
      simp only [Zcl_n, Nat.reducePow, Nat.reduceLT]
      rw [e54, hn_z]
      refine Zs_ige hX (List.cons_ne_nil _ _) (fun h22_z => ?_) (fun h22_z => ?_)
      · obtain rfl : i_z = n_z := by have := (Zn_le (by omega) (by omega)).mp h22_z; omega
        refine Zs_retv hX hE rfl ⟨rfl, hsc, hfl, hco⟩
      · have hlt : i_z < n_z := (Nat.lt_or_ge i_z n_z).elim id (fun q_z => absurd ((Zn_le (by omega) (by omega)).mpr q_z) h22_z)
        refine Zgo hX 3 rfl True.intro ?_
        refine Zs_callv hX (List.cons_ne_nil _ _) (s_holdsBy i_z more M1 (by omega) (by rw [e54]; exact hfi.2.2.2.2)) (by first | decide | omega) (by decide) rfl rfl rfl (by decide) (Nat.le_of_ble_eq_true rfl) (fun r_z M' hc_z => ?_)
        obtain ⟨rfl, hs2⟩ := hc_z
        rw [e54]
        have e10 : ∀ j_z, M' 60 j_z = M1 60 j_z := fun j_z => hs2 60 j_z rfl
        have efl : M' 53 12 = nI (Zfn (M 54) much more i_z) := (hs2 53 12 rfl).trans hfl
        have hsc2 := hsc.tr hs2.sc
        have L60 : ∀ M2 : Zmem, (∀ o_z k_z, o_z ≠ 53 → M2 o_z k_z = M' o_z k_z) → Sc M M2 → M2 53 12 = nI (Zfn (M 54) much more (i_z + 1)) → ZP X Zt82 (Zsf Zt82 60) [(4, .int (Zhb (M 54) i_z more)), (3, .int (nI i_z)), (0, .ref 53), (1, .int much), (2, .int more)] [] M2 := by
          intro M2 h2_z hsc3 hfl3
          have fin : ∀ v_z, v_z = Zcm (M 54) much more (i_z + 1) → ZP X Zt82 (Zsf Zt82 90) [(4, .int (Zhb (M 54) i_z more)), (3, .int (nI i_z)), (0, .ref 53), (1, .int much), (2, .int more)] [] (Zu M2 60 (i_z + 1) v_z) := by
            rintro v_z rfl
            refine Zgo hX 2 rfl True.intro ?_
            rw [nI_add]
            refine Zs_sub (l' := [(3, .int (nI (i_z + 1))), (0, .ref 53), (1, .int much), (2, .int more)]) rfl ?_
            refine ih_z (i_z + 1) _ (by omega) hlt (hsc3.u _ rfl) hfl3 (fun j_z hj_z => ?_)
            rw [Zu_k]
            by_cases e_z : j_z = i_z + 1
            · subst e_z; rw [if_pos ⟨rfl, rfl⟩]
            · rw [if_neg (fun q_z => e_z q_z.2), h2_z 60 j_z (by decide), e10, hco j_z (by omega)]
          refine Zgo hX 10 rfl (Zin_n (by omega) (by decide)) ?_
          rw [Zcl_n (show i_z < 2 ^ 31 by omega), h2_z 60 i_z (by decide), e10, hco i_z (Nat.le_refl _), nI_add]
          refine Zs_ile hX (List.cons_ne_nil _ _) (fun h75_z => ?_) (fun h75_z => ?_)
          · refine Zgo hX 5 rfl ⟨Zin_n (by omega) (by decide), Zin_n (by omega) (by decide)⟩ ?_
            rw [Zcl_n (show i_z < 2 ^ 31 by omega), h2_z 60 i_z (by decide), e10, hco i_z (Nat.le_refl _), Zcl_n (show i_z + 1 < 2 ^ 31 by omega)]
            exact fin _ (by rw [Zcm, if_neg (Int32.not_lt.mpr h75_z)])
          · refine Zgo hX 3 rfl (Zin_n (by omega) (by decide)) ?_
            rw [Zcl_n (show i_z + 1 < 2 ^ 31 by omega)]
            exact fin _ (by rw [Zcm, if_pos (Int32.not_le.mp h75_z)])
        refine Zgo hX 9 rfl (Zin_n (by omega) (by decide)) ?_
        rw [Zcl_n (show i_z < 2 ^ 31 by omega), e10, hco i_z (Nat.le_refl _), efl]
        refine Zs_ile hX (List.cons_ne_nil _ _) (fun h46_z => ?_) (fun h46_z => ?_)
        · refine Zgo hX 3 rfl True.intro ?_
          rw [Zor_0]
          refine Zs_sub (l' := [(4, .int (Zhb (M 54) i_z more)), (3, .int (nI i_z)), (0, .ref 53), (1, .int much), (2, .int more)]) rfl ?_
          exact L60 _ (fun o_z k_z ho => by rw [Zu_ne _ _ _ ho]) (hsc2.u _ rfl) (by rw [Zu_k, if_pos ⟨rfl, rfl⟩, Zfn, if_neg (Int32.not_lt.mpr h46_z), Nat.add_zero])
        · refine Zgo hX 6 rfl True.intro ?_
          rw [Zor_bit (Zfn_lt (M 54) much more i_z) (by omega)]
          refine Zs_sub (l' := [(4, .int (Zhb (M 54) i_z more)), (3, .int (nI i_z)), (0, .ref 53), (1, .int much), (2, .int more)]) rfl ?_
          exact L60 _ (fun o_z k_z ho => by rw [Zu_ne _ _ _ ho]) (hsc2.u _ rfl) (by rw [Zu_k, if_pos ⟨rfl, rfl⟩, Zfn, if_pos (Int32.not_le.mp h46_z)])
  refine Zgo hX 10 rfl (Zin_n (by decide) (by decide)) ?_
  simp only [Zcl_n, Nat.reducePow, Nat.reduceLT]
  refine Zs_sub (l' := [(3, .int (nI 0)), (0, .ref 53), (1, .int much), (2, .int more)]) rfl ?_
  refine L (n_z + 1) 0 _ (by omega) (by omega) (((Sc.rf M).u _ rfl).u _ rfl) rfl (fun j_z hj_z => ?_)
  obtain rfl : j_z = 0 := by omega
  rfl
end
section
set_option maxRecDepth 20000 in
set_option maxHeartbeats 1000000 in
theorem k_pass (f_z : Nat → Int32) (n_z : Nat) (much : Int32) (M : Zmem) (hz_z : Zrv 1 f_z M) (hfi : Zfi f_z) (hn_z : f_z 7 = nI n_z) (hn2 : n_z ≤ 15) (hmu : 0 ≤ much.toInt ∧ much.toInt ≤ 999) : ZC 176 5 [.ref 1, .int much] M (fun r_z M' => r_z = some (.int (nI (Zfn f_z much (nI 0) n_z))) ∧ Zrv 1 (Zss f_z much n_z) M' ∧ Zhk M M') := by
  refine ZC_of Zt176 Zk176 (Nat.le_of_ble_eq_true rfl) (by decide) rfl (fun X hX hE => ?_)
  have hF := Zfn_lt f_z much (nI 0) n_z
  have hF2 : Zfn f_z much (nI 0) n_z < 2 ^ 15 := Nat.lt_of_lt_of_le hF (Nat.pow_le_pow_right (by decide) hn2)
  have L : ∀ (q_z i_z : Nat) (M1 : Zmem), n_z - i_z < q_z → i_z ≤ n_z → Zrv 1 (Zsk f_z much i_z) M1 → Zhk M M1 → (∀ j_z, j_z ≤ n_z → M1 10 j_z = Zcm f_z much (nI 0) j_z) → ZP X Zt176 (Zsf Zt176 9) [(3, .int (nI i_z)), (2, .int (nI (Zfn f_z much (nI 0) n_z))), (0, .ref 1), (1, .int much)] [] M1 := by
    intro q_z
    induction q_z with
    | zero => intro i_z M1 hq_z; exact absurd hq_z (Nat.not_lt_zero _)
    | succ q_z ih_z =>
      intro i_z M1 hq_z hi_z hz1 hhk hco
      have e7 : Zsk f_z much i_z 7 = nI n_z := (Zsk_o f_z much i_z 7 (fun j_z hj_z => by omega)).trans hn_z
      refine Zgo hX 3 rfl True.intro ?_
      rw [hz1.n e7]
      refine Zs_ige hX (List.cons_ne_nil _ _) (fun h14_z => ?_) (fun h14_z => ?_)
      · obtain rfl : i_z = n_z := by have := (Zn_le (by omega) (by omega)).mp h14_z; omega
        have esa : Zsk f_z much i_z 3 = f_z 3 := Zsk_o f_z much i_z 3 (fun j_z hj_z => by omega)
        have ese : Zsk f_z much i_z 2 = f_z 2 := Zsk_o f_z much i_z 2 (fun j_z hj_z => by omega)
        refine Zgo hX 10 rfl (by show vp_in (M1 1 5) 16; rw [hz1.n e7]; exact Zin_n (by omega) (by decide)) ?_
        rw [hz1.n e7, Zcl_n (show i_z < 2 ^ 31 by omega), hco i_z (Nat.le_refl _), show M1 1 9 = f_z 3 from hz1.1.2.2.2.2.1.trans esa]
        refine Zs_calls hX (List.cons_ne_nil _ _) (by decide) (c_min _ _ _) (by first | decide | omega) rfl rfl (by decide) (Nat.le_of_ble_eq_true rfl) (fun r_z M' hc_z => ?_)
        obtain ⟨rfl, rfl⟩ := hc_z
        refine Zgo hX 8 rfl True.intro ?_
        have hsa : 0 ≤ (f_z 3).toInt ∧ (f_z 3).toInt ≤ 9999 := by
          obtain ⟨a_z, h1_z, h2_z⟩ := hfi.2.1.2.2.2.1
          rw [h2_z, Zn_i (by omega)]
          omega
        rw [Zsea_k hsa (Zcm_b f_z (nI 0) hmu i_z)]
        rw [show (Zu M1 1 9 (Zhl (f_z 3 + Zcm f_z much (nI 0) i_z) (nI 0) (nI 9999))) 1 8 = f_z 2 from hz1.1.2.2.2.1.trans ese]
        refine Zs_ret hX hE rfl ⟨rfl, (hz1.sa1 _).se1 _, (hhk.u _ (by decide) _ _).u _ (by decide) _ _⟩
      · have hlt : i_z < n_z := (Nat.lt_or_ge i_z n_z).elim id (fun q_z => absurd ((Zn_le (by omega) (by omega)).mpr q_z) h14_z)
        have ht_z : M1 5 i_z = f_z (12 + 5 * i_z) := (hz1.row (by omega)).2.2.2.1.trans (Zsk_o f_z much i_z _ (fun j_z hj_z => by omega))
        have hb_z := (hfi.rw hn_z hn2 hlt).2.2.2.1
        have hbit := Zfn_bit f_z much (nI 0) n_z i_z hlt
        have done : ∀ M2 : Zmem, (∀ j_z, M2 10 j_z = M1 10 j_z) → Zrv 1 (Zsk f_z much (i_z + 1)) M2 → Zhk M1 M2 → ZP X Zt176 (Zsf Zt176 76) [(3, .int (nI i_z)), (2, .int (nI (Zfn f_z much (nI 0) n_z))), (0, .ref 1), (1, .int much)] [] M2 := by
          intro M2 h10_z hz2 hk2
          refine Zgo hX 2 rfl True.intro ?_
          rw [nI_add]
          refine Zs_sub (l' := [(3, .int (nI (i_z + 1))), (2, .int (nI (Zfn f_z much (nI 0) n_z))), (0, .ref 1), (1, .int much)]) rfl ?_
          exact ih_z (i_z + 1) _ (by omega) hlt hz2 (hhk.tr hk2) (fun j_z hj_z => (h10_z j_z).trans (hco j_z hj_z))
        have hst : ∀ v_z, v_z = Ztn f_z much i_z → Zrv 1 (Zsk f_z much (i_z + 1)) (Zu M1 5 i_z v_z) := by
          rintro v_z rfl
          exact hz1.r3 _ (by omega)
        refine Zgo hX 6 rfl True.intro ?_
        rw [Zbt_k hF2 (by omega), hbit]
        refine Zs_ine hX (List.cons_ne_nil _ _) (fun h23_z => ?_) (fun h23_z => ?_)
        · have hnf : ¬ Zhb f_z i_z (nI 0) < Zcm f_z much (nI 0) i_z := fun q_z => h23_z (by rw [if_pos q_z])
          refine Zgo hX 4 rfl (Zin_n (by omega) (by decide)) ?_
          rw [Zcl_n (show i_z < 2 ^ 31 by omega), hco i_z (by omega)]
          refine Zs_ne hX (List.cons_ne_nil _ _) (fun h54_z => ?_) (fun h54_z => ?_)
          · refine done M1 (fun _ => rfl) ?_ (Zhk.rf _)
            have e_z : Ztn f_z much i_z = Zsk f_z much i_z (12 + 5 * i_z) := by
              rw [Zsk_o f_z much i_z _ (fun j_z hj_z => by omega), ← Ztn_3 rfl hb_z hnf h54_z]
            show Zrv 1 (upd (Zsk f_z much i_z) (12 + 5 * i_z) (Ztn f_z much i_z)) M1
            rw [e_z, Zupd_id]
            exact hz1
          · refine Zgo hX 10 rfl (Zin_n (by omega) (by decide)) ?_
            rw [Zcl_n (show i_z < 2 ^ 31 by omega), ht_z]
            refine Zs_calls hX (List.cons_ne_nil _ _) (by decide) (c_min _ _ _) (by first | decide | omega) rfl rfl (by decide) (Nat.le_of_ble_eq_true rfl) (fun r_z M' hc_z => ?_)
            obtain ⟨rfl, rfl⟩ := hc_z
            refine Zgo hX 1 rfl (Zin_n (by omega) (by decide)) ?_
            rw [Zcl_n (show i_z < 2 ^ 31 by omega)]
            exact done _ (fun j_z => by rw [Zu_ne _ _ _ (by decide)]) (hst _ (Ztn_2 rfl hb_z hnf h54_z)) ((Zhk.rf _).u _ (by decide) _ _)
        · have hfl : Zhb f_z i_z (nI 0) < Zcm f_z much (nI 0) i_z := by
            rcases Decidable.em (Zhb f_z i_z (nI 0) < Zcm f_z much (nI 0) i_z) with q_z | q_z
            · exact q_z
            · rw [if_neg q_z] at h23_z; exact absurd h23_z (by decide)
          refine Zgo hX 10 rfl (Zin_n (by omega) (by decide)) ?_
          rw [Zcl_n (show i_z < 2 ^ 31 by omega), ht_z]
          refine Zs_calls hX (List.cons_ne_nil _ _) (by decide) (c_max _ _ _) (by first | decide | omega) rfl rfl (by decide) (Nat.le_of_ble_eq_true rfl) (fun r_z M' hc_z => ?_)
          obtain ⟨rfl, rfl⟩ := hc_z
          refine Zgo hX 2 rfl (Zin_n (by omega) (by decide)) ?_
          rw [Zcl_n (show i_z < 2 ^ 31 by omega)]
          exact done _ (fun j_z => by rw [Zu_ne _ _ _ (by decide)]) (hst _ (Ztn_1 rfl hb_z hfl)) ((Zhk.rf _).u _ (by decide) _ _)
  refine Zgo hX 3 rfl True.intro ?_
  refine Zs_callv hX (List.cons_ne_nil _ _) (k_waters f_z n_z much (nI 0) M hz_z hfi hn_z hn2) (by first | decide | omega) (by decide) rfl rfl rfl (by decide) (Nat.le_of_ble_eq_true rfl) (fun r_z M' hc_z => ?_)
  obtain ⟨rfl, hsc, hco⟩ := hc_z
  refine Zgo hX 3 rfl True.intro ?_
  refine Zs_sub (l' := [(3, .int (nI 0)), (2, .int (nI (Zfn f_z much (nI 0) n_z))), (0, .ref 1), (1, .int much)]) rfl ?_
  exact L (n_z + 1) 0 _ (by omega) (by omega) (hz_z.sc (Or.inl rfl) hsc) hsc.hk hco

set_option maxRecDepth 20000 in
set_option maxHeartbeats 1000000 in
theorem s_aSeason (n_z : Nat) (much : Int32) (M : Zmem) (hfi : Zfi (M 54)) (hn_z : M 54 7 = nI n_z) (hn2 : n_z ≤ 15) : ZC 83 5 [.ref 53, .int much] M (fun r_z M' => r_z = some (.int (nI (Zfn (M 54) much (nI 0) n_z))) ∧ M' 54 = Zss (M 54) much n_z ∧ Zhs M M') := by
  refine ZC_of Zt83 Zk83 (Nat.le_of_ble_eq_true rfl) (by decide) rfl (fun X hX hE => ?_)
  have hF := Zfn_lt (M 54) much (nI 0) n_z
  have hF2 : Zfn (M 54) much (nI 0) n_z < 2 ^ 15 := Nat.lt_of_lt_of_le hF (Nat.pow_le_pow_right (by decide) hn2)
  have L : ∀ (q_z i_z : Nat) (M1 : Zmem), n_z - i_z < q_z → i_z ≤ n_z → M1 54 = Zsk (M 54) much i_z → Zhs M M1 → M1 53 12 = nI (Zfn (M 54) much (nI 0) n_z) → (∀ j_z, j_z ≤ n_z → M1 60 j_z = Zcm (M 54) much (nI 0) j_z) → ZP X Zt83 (Zsf Zt83 8) [(2, .int (nI i_z)), (0, .ref 53), (1, .int much)] [] M1 := by
    intro q_z
    induction q_z with
    | zero => intro i_z M1 hq_z; exact absurd hq_z (Nat.not_lt_zero _)
    | succ q_z ih_z =>
      intro i_z M1 hq_z hi_z h54_z hhs hfl hco
      have e7 : M1 54 7 = nI n_z := by rw [h54_z]; exact (Zsk_o (M 54) much i_z 7 (fun j_z hj_z => by omega)).trans hn_z
      refine Zgo hX 5 rfl (Zin_n (by decide) (by decide)) ?_
      simp only [Zcl_n, Nat.reducePow, Nat.reduceLT]
      rw [e7]
      refine Zs_ige hX (List.cons_ne_nil _ _) (fun h16_z => ?_) (fun h16_z => ?_)
      · obtain rfl : i_z = n_z := by have := (Zn_le (by omega) (by omega)).mp h16_z; omega
        have esa : M1 54 3 = M 54 3 := by rw [h54_z]; exact Zsk_o (M 54) much i_z 3 (fun j_z hj_z => by omega)
        have ese : M1 54 2 = M 54 2 := by rw [h54_z]; exact Zsk_o (M 54) much i_z 2 (fun j_z hj_z => by omega)
        refine Zgo hX 16 rfl (by dsimp only [ZallP]; simp only [Zcl_n, Nat.reducePow, Nat.reduceLT]; rw [e7]; exact ⟨⟨Zin_n (by decide) (by decide), Zin_n (by decide) (by decide)⟩, Zin_n (by omega) (by decide)⟩) ?_
        simp only [Zcl_n, Nat.reducePow, Nat.reduceLT]
        rw [e7, Zcl_n (show i_z < 2 ^ 31 by omega), hco i_z (Nat.le_refl _), esa]
        refine Zs_calls hX (List.cons_ne_nil _ _) (by decide) (s_held _ _ _ _) (by first | decide | omega) rfl rfl (by decide) (Nat.le_of_ble_eq_true rfl) (fun r_z M' hc_z => ?_)
        obtain ⟨rfl, rfl⟩ := hc_z
        refine Zgo hX 11 rfl (by dsimp only [ZallP]; exact ⟨⟨Zin_n (by decide) (by decide), Zin_n (by decide) (by decide)⟩, Zin_n (by decide) (by decide)⟩) ?_
        simp only [Zcl_n, Nat.reducePow, Nat.reduceLT]
        refine Zs_ret hX hE rfl ⟨?_, ?_, ?_⟩
        · exact congrArg (fun z_z => some (Value.int z_z)) hfl
        · show upd (upd (M1 54) 3 (Zhl (M 54 3 + Zcm (M 54) much (nI 0) i_z) (nI 0) (nI 9999))) 2 (M1 54 2 + nI 1) = _
          rw [h54_z, ← h54_z, ese, h54_z]
          rfl
        · exact (hhs.u _ _).u _ _
      · have hlt : i_z < n_z := (Nat.lt_or_ge i_z n_z).elim id (fun q_z => absurd ((Zn_le (by omega) (by omega)).mpr q_z) h16_z)
        have ht_z : M1 54 (9 + 5 * i_z + 3) = M 54 (12 + 5 * i_z) := by rw [show 9 + 5 * i_z + 3 = 12 + 5 * i_z by omega, h54_z]; exact Zsk_o (M 54) much i_z _ (fun j_z hj_z => by omega)
        have hbit := Zfn_bit (M 54) much (nI 0) n_z i_z hlt
        have done : ∀ b_z, Zhl (M 54 (12 + 5 * i_z) + b_z) (-(nI 9)) (nI 9) = Ztn (M 54) much i_z → ZP X Zt83 (Zsf Zt83 49) [(2, .int (nI i_z)), (0, .ref 53), (1, .int much)] [.int b_z] M1 := by
          intro b_z hb_z
          refine Zgo hX 7 rfl True.intro ?_
          refine Zs_callv hX (List.cons_ne_nil _ _) (s_its i_z 3 _ (by omega) (by decide)) (by first | decide | omega) (by decide) rfl rfl rfl (by decide) (Nat.le_of_ble_eq_true rfl) (fun r_z M' hc_z => ?_)
          obtain ⟨rfl, rfl⟩ := hc_z
          rw [ht_z]
          refine Zgo hX 4 rfl True.intro ?_
          refine Zs_calls hX (List.cons_ne_nil _ _) (by decide) (s_held _ _ _ _) (by first | decide | omega) rfl rfl (by decide) (Nat.le_of_ble_eq_true rfl) (fun r_z M' hc_z => ?_)
          obtain ⟨rfl, rfl⟩ := hc_z
          refine Zs_callv hX (List.cons_ne_nil _ _) (s_lays1 i_z 3 _ _ (by omega) (by decide)) (by first | decide | omega) (by decide) rfl rfl rfl (by decide) (Nat.le_of_ble_eq_true rfl) (fun r_z M' hc_z => ?_)
          obtain ⟨rfl, rfl⟩ := hc_z
          refine Zgo hX 2 rfl True.intro ?_
          rw [nI_add]
          refine Zs_sub (l' := [(2, .int (nI (i_z + 1))), (0, .ref 53), (1, .int much)]) rfl ?_
          refine ih_z (i_z + 1) _ (by omega) hlt ?_ (hhs.u _ _) hfl (fun j_z hj_z => (by rw [Zu_ne _ _ _ (by decide)]; exact hco j_z hj_z))
          rw [Zu_at, show 9 + 5 * i_z + 3 = 12 + 5 * i_z by omega, h54_z]
          show upd _ _ (Zhl (M 54 (12 + 5 * i_z) + b_z) (-(nI 9)) (nI 9)) = _
          rw [hb_z]
          rfl
        refine Zgo hX 7 rfl True.intro ?_
        rw [hfl, Zbt_s hF2 (by omega), hbit]
        refine Zs_ine hX (List.cons_ne_nil _ _) (fun h28_z => ?_) (fun h28_z => ?_)
        · have hnf : ¬ Zhb (M 54) i_z (nI 0) < Zcm (M 54) much (nI 0) i_z := fun q_z => h28_z (by rw [if_pos q_z])
          refine Zgo hX 4 rfl (Zin_n (by omega) (by decide)) ?_
          rw [Zcl_n (show i_z < 2 ^ 31 by omega), hco i_z (by omega)]
          refine Zs_ne hX (List.cons_ne_nil _ _) (fun h41_z => ?_) (fun h41_z => ?_)
          · refine Zgo hX 1 rfl True.intro ?_
            exact done _ (by unfold Ztn; rw [if_neg hnf, if_neg h41_z])
          · refine Zgo hX 2 rfl True.intro ?_
            exact done _ (by unfold Ztn; rw [if_neg hnf, if_pos h41_z])
        · have hfl2 : Zhb (M 54) i_z (nI 0) < Zcm (M 54) much (nI 0) i_z := by
            rcases Decidable.em (Zhb (M 54) i_z (nI 0) < Zcm (M 54) much (nI 0) i_z) with q_z | q_z
            · exact q_z
            · rw [if_neg q_z] at h28_z; exact absurd h28_z (by decide)
          refine Zgo hX 2 rfl True.intro ?_
          exact done _ (by unfold Ztn; rw [if_pos hfl2])
  refine Zgo hX 3 rfl True.intro ?_
  refine Zs_callv hX (List.cons_ne_nil _ _) (s_letDown n_z much (nI 0) M hfi hn_z hn2) (by first | decide | omega) (by decide) rfl rfl rfl (by decide) (Nat.le_of_ble_eq_true rfl) (fun r_z M' hc_z => ?_)
  obtain ⟨rfl, hsc, hfl, hco⟩ := hc_z
  refine Zgo hX 2 rfl True.intro ?_
  refine Zs_sub (l' := [(2, .int (nI 0)), (0, .ref 53), (1, .int much)]) rfl ?_
  exact L (n_z + 1) 0 _ (by omega) (by omega) hsc.f54 hsc.hs hfl hco

set_option maxRecDepth 20000 in
set_option maxHeartbeats 1000000 in
theorem k_wear (f_z : Nat → Int32) (n_z : Nat) (M : Zmem) (hz_z : Zrv 1 f_z M) (hfi : Zfi f_z) (hn_z : f_z 7 = nI n_z) (hn2 : n_z ≤ 15) : ZC 177 1 [.ref 1] M (fun r_z M' => r_z = none ∧ Zrv 1 (Zwr f_z n_z) M' ∧ Zhk M M') := by
  refine ZC_of Zt177 Zk177 (Nat.le_of_ble_eq_true rfl) (by decide) rfl (fun X hX hE => ?_)
  refine Zgo hX 2 rfl True.intro ?_
  rw [hz_z.n hn_z]
  refine Zs_le hX (List.cons_ne_nil _ _) (fun h4_z => ?_) (fun h4_z => ?_)
  · obtain rfl : n_z = 0 := by have := (Zn_le (b_z := 0) (by omega) (by decide)).mp h4_z; omega
    refine Zs_retv hX hE rfl ⟨rfl, by rw [Zwr, if_pos rfl]; exact hz_z, Zhk.rf _⟩
  · have h0_z : n_z ≠ 0 := fun q_z => h4_z (by rw [q_z]; exact Int32.le_refl _)
    have hlt : Zdn (f_z 4) % n_z < n_z := Nat.mod_lt _ (Nat.pos_of_ne_zero h0_z)
    have ez : M 1 10 = f_z 4 := hz_z.1.2.2.2.2.2.1
    obtain ⟨d1, d2⟩ := Zdn_ok (f_z 4)
    obtain ⟨d3, d4⟩ := Zdn_ok (Zdz (f_z 4))
    refine Zgo hX 1 rfl True.intro ?_
    refine Zs_callv hX (List.cons_ne_nil _ _) (k_draw _) (by first | decide | omega) (by decide) rfl rfl rfl (by decide) (Nat.le_of_ble_eq_true rfl) (fun r_z M' hc_z => ?_)
    obtain ⟨rfl, rfl⟩ := hc_z
    rw [ez]
    have hz2 := hz_z.z1 (Zdz (f_z 4))
    refine Zgo hX 5 rfl (by show ¬ (Zu M 1 10 _) 1 5 = nI 0; rw [show (Zu M 1 10 (f_z 4 * nI 1103515245 + nI 12345)) 1 5 = nI n_z from hz_z.n hn_z]; exact fun q_z => h0_z (Zeq (by omega) (by decide) q_z)) ?_
    rw [show (Zu M 1 10 (f_z 4 * nI 1103515245 + nI 12345)) 1 5 = nI n_z from hz_z.n hn_z, show ((f_z 4 * nI 1103515245 + nI 12345).toUInt32 >>> ((nI 8).toUInt32 &&& Int32.toUInt32 31)).toInt32 = nI (Zdn (f_z 4)) from d1, pk_rem (by omega) (by omega) (by omega)]
    refine Zs_callv hX (List.cons_ne_nil _ _) (k_draw _) (by first | decide | omega) (by decide) rfl rfl rfl (by decide) (Nat.le_of_ble_eq_true rfl) (fun r_z M' hc_z => ?_)
    obtain ⟨rfl, rfl⟩ := hc_z
    rw [show (Zu M 1 10 (f_z 4 * nI 1103515245 + nI 12345)) 1 10 = Zdz (f_z 4) from rfl]
    have hz3 := hz2.z1 (Zdz (Zdz (f_z 4)))
    refine Zgo hX 11 rfl (by dsimp only [ZallP]; exact ⟨Zin_n (by omega) (by decide), by decide⟩) ?_
    rw [show ((Zdz (f_z 4) * nI 1103515245 + nI 12345).toUInt32 >>> ((nI 8).toUInt32 &&& Int32.toUInt32 31)).toInt32 = nI (Zdn (Zdz (f_z 4))) from d3, pk_rem (by omega) (by decide) (by decide), Zcl_n (show Zdn (f_z 4) % n_z < 2 ^ 31 by omega)]
    have hr_z := hfi.rw hn_z hn2 hlt
    obtain ⟨-, -, ⟨w_z, h1_z, h2_z, h3_z⟩, -, -⟩ := hr_z
    obtain ⟨v_z, g1, g2, g3, g5⟩ := Zhl_w h1_z h2_z (Nat.mod_lt (Zdn (Zdz (f_z 4))) (by decide : 0 < 2))
    rw [show (Zu (Zu M 1 10 (f_z 4 * nI 1103515245 + nI 12345)) 1 10 (Zdz (f_z 4) * nI 1103515245 + nI 12345)) 4 (Zdn (f_z 4) % n_z) = nI w_z from (hz_z.row (by omega)).2.2.1.trans h3_z]
    refine Zs_calls hX (List.cons_ne_nil _ _) (by decide) (c_max _ _ _) (by first | decide | omega) rfl rfl (by decide) (Nat.le_of_ble_eq_true rfl) (fun r_z M' hc_z => ?_)
    obtain ⟨rfl, rfl⟩ := hc_z
    refine Zgo hX 1 rfl (Zin_n (by omega) (by decide)) ?_
    rw [Zcl_n (show Zdn (f_z 4) % n_z < 2 ^ 31 by omega)]
    refine Zs_retv hX hE rfl ⟨rfl, ?_, (((Zhk.rf M).u _ (by decide) _ _).u _ (by decide) _ _).u _ (by decide) _ _⟩
    rw [Zwr, if_neg h0_z, h3_z, g3, g5]
    exact hz3.r2 _ (by omega)
end
